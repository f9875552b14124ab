/-! the step of the class's loop over lines -/
section LX
variable {F : Nat} {c : List Int} {j : Nat} {fi how a0 : Int}
theorem E_totS {g : HP} {W : Int → Int} (hF : 200 ≤ F) (d : DoS g c W j fi how a0) (w a b : Int) (hw : 0 ≤ w ∧ w < 64) (ha : 0 ≤ a) (hab : a ≤ b) (hb : b ≤ 63) (hr : W 11356 < 5120) (hh : 0 ≤ how ∧ how < 4) : ∃ g', X1_doTotal F 10 w a b g = some (if (puL W w (totN W (b + 1 - a).toNat a 0) j fi how).1 then 1 else 0, g') ∧ DoS g' c (puL W w (totN W (b + 1 - a).toNat a 0) j fi how).2 j fi how a0 ∧ gI g' 10 2 = gI g 10 2 ∧ Ox XC g g' := by
  have L := d.1.1
  obtain ⟨e1, -⟩ := d.rn
  obtain ⟨g', p1, p2, p3, p4⟩ := E_putS (F := F) d w (totN W (b + 1 - a).toNat a 0) hw hr hh
  refine ⟨g', ?_, p2, p3, p4⟩
  have x := E_totC (F := F) (W := W) L (fun i h0 h1 => ⟨(e1 i h0 h1).1, (e1 i h0 h1).2.2.1⟩) w b hb (b + 1 - a).toNat F a 0 ha (by omega) (by omega) (by omega) (by omega)
  unfold X1_doTotal
  rw [x]
  unfold X1_doTotal_L40
  rw [cR10 g _ L, b_xb _ _ _ _ p1]
  unfold xz
  split <;> simp
theorem E_rndS {g : HP} {W : Int → Int} (d : DoS g c W j fi how a0) (w b : Int) (hw : 0 ≤ w ∧ w < 64) (hb : 1 ≤ b ∧ b ≤ 9999) (hr : W 11356 < 5120) (hh : 0 ≤ how ∧ how < 4) : ∃ g', X1_doRound F 10 w b g = some (if (puL W w (rndV (W (9 + w)) b) j fi how).1 then 1 else 0, g') ∧ DoS g' c (puL W w (rndV (W (9 + w)) b) j fi how).2 j fi how a0 ∧ gI g' 10 2 = gI g 10 2 ∧ Ox XC g g' := by
  have L := d.1.1
  obtain ⟨e1, -⟩ := d.rn
  obtain ⟨g', p1, p2, p3, p4⟩ := E_putS (F := F) d w (rndV (W (9 + w)) b) hw hr hh
  refine ⟨g', ?_, p2, p3, p4⟩
  have x := E_roundC (F := F) (h := g) L w b hw (by omega) hb.2 (W (9 + w)) (e1 w hw.1 hw.2).2.2.1 (e1 w hw.1 hw.2).1
  rw [x, b_xb _ _ _ _ p1]
  unfold xz
  split <;> simp
end LX
