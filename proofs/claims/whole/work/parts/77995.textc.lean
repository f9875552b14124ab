/-! all lines of a text, in the class -/
def txtL (j : Nat) (fi how : Int) : List Lin → (Int → Int) → Bool × (Int → Int)
  | [], W => (true, W)
  | l :: B, W => if (linL j fi how W l).1 = true then txtL j fi how B (linL j fi how W l).2 else linL j fi how W l
theorem puL_k {W : Int → Int} {w v : Int} {j : Nat} {fi how : Int} (h0 : 0 ≤ W 11356) (hw : 0 ≤ w ∧ w < 64) : (puL W w v j fi how).2 11356 ≤ W 11356 + 1 := by
  unfold puL
  split
  · show wrW _ _ _ _ _ _ _ ≤ _
    rw [wrW_n h0 hw]; omega
  · show W 11356 ≤ _
    omega
theorem linL_k {W : Int → Int} {j : Nat} {fi how : Int} {l : Lin} (hj : j < 12) (h0 : 0 ≤ W 11356) (kl : okL l) : (linL j fi how W l).2 11356 ≤ W 11356 + 1 := by
  obtain ⟨k1, k2, k3, -⟩ := kl
  have z : W 11356 ≤ W 11356 + 1 := by omega
  have zk : ∀ v, wW W (169 + 882 * (j : Int) + 6) v 11356 = W 11356 := fun v => wW_n _ (by omega)
  unfold linL
  split
  · have hw : 0 ≤ l.2.1 ∧ l.2.1 < 64 := by have := k3 (by omega); omega
    split
    · exact z
    · show wrW _ _ _ _ _ _ _ ≤ _
      rw [wrW_n h0 hw]; omega
  · split
    · exact puL_k h0 (by have := k3 (by omega); omega)
    · split
      · exact puL_k h0 (by have := k3 (by omega); omega)
      · split
        · split
          · exact z
          · show wW _ _ _ _ ≤ _
            rw [zk]; exact z
        · exact z
theorem tok_len : ∀ ts : List Ctk, ts.length ≤ (ts.flatMap tokC).length := by
  intro ts
  induction ts with
  | nil => exact Nat.le_refl _
  | cons t ts ih =>
    rw [List.flatMap_cons, List.length_append, List.length_cons]
    have : 1 ≤ (tokC t).length := by
      unfold tokC
      split
      · rw [List.length_cons]; omega
      · split
        · rw [List.length_cons]; omega
        · split
          · decide
          · split <;> decide
    omega
section TC
variable {F : Nat} {c : List Int} {j : Nat} {fi how a0 : Int}
theorem DoS.ask {g : HP} {W : Int → Int} (d : DoS g c W j fi how a0) : DoS (sI g 10 7 (w32 (gI g 10 7 + 1))) c (wW W (169 + 882 * (j : Int) + 6) (w32 (W (169 + 882 * (j : Int) + 15) + 1))) j fi how a0 := by
  have hj := d.rn.2.2.2.2.2.2
  obtain ⟨⟨L, ⟨t, q, n, t1, t2, t3, t4, t5, t6, t7, t8, t9⟩, c1, c2, c3, c4, c5, c6⟩, d2, d3, d4, d5, d6⟩ := d
  have o : Ox X10 g (sI g 10 7 (w32 (gI g 10 7 + 1))) := Ox.I g 10 7 _ rfl
  have ai : ∀ a, a ≠ 10 → ∀ i, aI (sI g 10 7 (w32 (gI g 10 7 + 1))) a i = aI g a i := fun a q i => by rw [aI_sIn _ _ _ _ _ q]
  have z : ∀ i : Int, i ≠ 169 + 882 * (j : Int) + 15 → wW W (169 + 882 * (j : Int) + 6) (w32 (W (169 + 882 * (j : Int) + 15) + 1)) i = W i := fun i q => wW_n i (by omega)
  have zk := z 11356 (by omega)
  have z15 : wW W (169 + 882 * (j : Int) + 6) (w32 (W (169 + 882 * (j : Int) + 15) + 1)) (169 + 882 * (j : Int) + 15) = w32 (W (169 + 882 * (j : Int) + 15) + 1) := by
    unfold wW; rw [if_pos (by omega)]
  refine ⟨⟨L, ⟨t, q, n, t1, t2, t3, t4, t5, t6, t7, t8, fun i z e => by rw [ai q (by omega)]; exact t9 i z e⟩, by rw [gI_sIk _ _ _ _ _ (by decide)]; exact c1, fun x => absurd x (by decide), fun i h1 h2 h3 => ?_, fun i h1 h2 => ?_, ?_, ?_⟩, ?_, ?_, ?_, ?_, ?_⟩
  · rw [ai 12 (by decide), c3 i h1 h2 h3]
    exact (z (9 + i) (by omega)).symm
  · rw [ai 13 (by decide), c4 i h1 h2]
    exact (z (73 + i) (by omega)).symm
  · rw [gI_sIk _ _ _ _ _ (by decide), c5]
    exact (z 1 (by omega)).symm
  · rw [gI_sIk _ _ _ _ _ (by decide), c6]
    exact (z 2 (by omega)).symm
  · rw [wW_wW]
    exact d2.cg o.N10 (fun i _ _ => rfl)
  · rw [gI_sIn _ _ _ _ _ (by decide), z 0 (by omega), zk]; exact d3
  · rw [gI_sIe, z15, ← d4]
    unfold w32
    omega
  · rw [zk]; exact d5
  · rw [z 8 (by omega)]; exact d6
end TC
