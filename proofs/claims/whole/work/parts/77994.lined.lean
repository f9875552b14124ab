/-! a line in the class: all sorts -/
section LD
variable {F : Nat} {W : Int → Int} {c : List Int} {j : Nat} {fi how a0 : Int}
theorem gNext {g : HP} (d : DoS g c W j fi how a0) (i : Nat) (z : Int) (g2 : gI g 10 2 = i) (hz : c[i]? = some z) : X1_nextCode F 10 g = some (z, sI g 10 2 ((i + 1 : Nat) : Int)) := by
  have x := E_next (F := F) d.1 i z hz
  rw [sI_id g 10 2 i g2] at x
  exact x
theorem E_doSetC {g : HP} (hF : 500 ≤ F) (d : DoS g c W j fi how a0) (l : Lin) (kl : okL l) (q0 : l.1 = 0) (i : Nat) (hc : ∀ (x : Nat) (z : Int), (sumC l.2.2.2.2.1)[x]? = some z → c[i + x]? = some z) (g2 : gI g 10 2 = i) (hr : W 11356 < 5120) (hh : 0 ≤ how ∧ how < 4) : ∃ g', X1_doSet F 10 l.2.1 l.2.2.1 g = some (if (linL j fi how W l).1 then 1 else 0, g') ∧ DoS g' c (linL j fi how W l).2 j fi how a0 ∧ ((linL j fi how W l).1 = true → gI g' 10 2 = ((i + (sumC l.2.2.2.2.1).length : Nat) : Int)) ∧ Ox XC g g' := by
  have L := d.1.1
  obtain ⟨k1, k2, k3, k4, -⟩ := id kl
  obtain ⟨k5, k6, ks⟩ := k4 q0
  have hw : 0 ≤ l.2.1 ∧ l.2.1 < 64 := by have := k3 (by omega); omega
  obtain ⟨t, ht⟩ := Int.eq_ofNat_of_zero_le (show 0 ≤ l.2.2.1 by omega)
  have oW := d.okWT
  have d0 : DoC g c (-1) (envM (wW W l.2.1 (W (9 + l.2.1)))) := by rw [wW_id]; exact d.1
  obtain ⟨g', v', b, a1, a2, a3, a4, a5, a6⟩ := E_setC (F := F) (W := W) (c := c) hF oW l.2.2.2.2.1 ks i hc l.2.1 hw t (by omega) t 0 F (W (9 + l.2.1)) 0 (-1) g (by omega) (by omega) (oW.1 _ hw.1 hw.2).1 (Or.inl rfl) (Or.inl rfl) (fun q => absurd q (by decide)) d0
  have d1 : DoS (sI g' 10 5 (-1)) c W j fi how a0 := d.x10 (a2.tr (Ox.I g' 10 5 _ rfl)) (fun x y z => by rw [gI_sIk _ _ _ _ _ z]; exact a3 x y z) (gI_sIe _ _ _ _)
  have o1 : Ox XC g (sI g' 10 5 (-1)) := (a2.tr (Ox.I g' 10 5 _ rfl)).mo X10_XC
  have L1 : LayC g' := a2.C L
  have st : X1_doSet F 10 l.2.1 l.2.2.1 g = X1_doSet_L68 F 10 l.2.1 v' b g' := by
    unfold X1_doSet
    rw [cI10 g 2 _ L, g2, ht]
    exact a1
  have e0 : linL j fi how W l = (match setN W l.2.1 l.2.2.2.2.1 t (W (9 + l.2.1)) with | none => (false, W) | some u => (true, wrW W l.2.1 (spW W l.2.1 u how) j fi how)) := by
    unfold linL
    rw [if_pos q0, ht]
    rfl
  rw [st, e0]
  unfold X1_doSet_L68
  rw [cW10 g' 5 _ _ L1]
  cases es : setN W l.2.1 l.2.2.2.2.1 t (W (9 + l.2.1)) with
  | none =>
    rw [if_pos (a5 es)]
    exact ⟨_, rfl, d1, fun q => (by cases q), o1⟩
  | some u =>
    obtain ⟨b1, b2, b3⟩ := a6 u es
    have iu : inb u := setN_in t _ u (by omega) es
    obtain ⟨g9, p1, p2, p3, p4⟩ := E_putS (F := F) d1 l.2.1 u hw hr hh
    have ep : puL W l.2.1 u j fi how = (true, wrW W l.2.1 (spW W l.2.1 u how) j fi how) := by unfold puL; rw [if_pos iu]
    rw [ep] at p1 p2
    rw [b1, if_neg (by decide), cR10 (sI g' 10 5 (-1)) _ L1, b2 (by omega), b_xb _ _ _ _ p1]
    refine ⟨g9, rfl, p2, fun _ => ?_, o1.tr p4⟩
    rw [p3, gI_sIk _ _ _ _ _ (by decide)]
    exact b3 (by omega)
theorem E_holdsC {g : HP} (hF : 2000 ≤ F) (d : DoS g c W j fi how a0) (l : Lin) (kl : okL l) (q0 : 3 ≤ l.1) (i : Nat) (hl : l.2.2.2.2.2.length < 1208) (hc : ∀ (x : Nat) (z : Int), (l.2.2.2.2.2.flatMap tokC ++ [-1])[x]? = some z → c[i + x]? = some z) (g2 : gI g 10 2 = i) : X1_holds F 10 g = some (if linV (envM W) l = 1 then 1 else 0, sI g 10 2 ((i + (l.2.2.2.2.2.flatMap tokC ++ [-1]).length : Nat) : Int)) := by
  obtain ⟨k1, k2, k3, k4, k5, k6, k7⟩ := id kl
  obtain ⟨c1, c2⟩ := k7 q0
  have x := E_holds4 (F := F) (by omega) d.1 d.okWT.e l.2.2.2.2.2 i 0 F 1 0 [] (by omega) (by omega) c2 (by decide) (by decide) c1 hc (fun n b e => by simp at e)
  rw [sI_id g 10 2 i g2] at x
  unfold X1_holds
  have ev : (linV (envM W) l = 1) ↔ ((evT (envM W) l.2.2.2.2.2 []).headD false = true) := by
    unfold linV
    rw [if_neg (by omega)]
    unfold bI
    cases (evT (envM W) l.2.2.2.2.2 []).headD false with
    | true => simp
    | false => simp
  by_cases b : linV (envM W) l = 1
  · rw [if_pos (ev.mp b)] at x
    rw [if_pos b]; exact x
  · rw [if_neg (fun q => b (ev.mpr q))] at x
    rw [if_neg b]; exact x
end LD
