/-! a line in the reference -/
section LM
variable {F : Nat} {j : Nat} {fi how : Int}
theorem E_tailM {g : HP} {W : Int → Int} (L : LayM g) (rW : aI g 114 = W) (hk : 0 ≤ W 11356 ∧ W 11356 < 5999) (w v : Int) (hw : 0 ≤ w ∧ w < 64) (hh : 0 ≤ how) (n : Int) (n0 : 0 ≤ n ∧ n < 1000) (k : Nat) : ∃ g', xb (X12_puts F 113 j w v fi how g) (fun v7 h8 => if v7 = 0 then some (0, h8) else X12_goes_L327 F (X12_goes_L8 F k) 113 j how fi n h8) = (if (puL W w v j fi how).1 = true then X12_goes_L8 F k 113 j how fi (n + 1) g' else some (0, g')) ∧ Ox XM g g' ∧ aI g' 114 = (puL W w v j fi how).2 := by
  have e32 : w32 (n + 1) = n + 1 := w32i _ (by omega) (by omega)
  have x := E_putM (F := F) w v j fi how L (by rw [rW]; exact hk) hw hh
  rw [rW] at x
  unfold puL
  by_cases b : inb v
  · rw [if_pos b] at x ⊢
    refine ⟨Mwr g w (spW W w v how) j fi how, ?_, ?_, ?_⟩
    · rw [b_xb _ _ _ _ x, if_neg (by decide), if_pos rfl]
      unfold X12_goes_L327
      rw [e32]
    · unfold Mwr
      exact ((((((((Ox.A _ 114 _ _ rfl).tr (Ox.A _ 114 _ _ rfl)).tr (Ox.A _ 114 _ _ rfl)).tr (Ox.A _ 114 _ _ rfl)).tr (Ox.A _ 114 _ _ rfl)).tr (Ox.A _ 114 _ _ rfl)).tr (Ox.A _ 114 _ _ rfl)).tr (Ox.A _ 114 _ _ rfl)).tr (Ox.A _ 114 _ _ rfl)
    · rw [Mwr_Wf (W := W) hw (by rw [rW]; exact hk.1), rW]
  · rw [if_neg b] at x ⊢
    refine ⟨g, ?_, Ox.rf _ _, rW⟩
    rw [b_xb _ _ _ _ x, if_pos rfl]
    rfl
theorem wr_w9 {W : Int → Int} (w u v bj fi how : Int) (hw : 0 ≤ w ∧ w < 64) : wrW (wW W w u) w v bj fi how = wrW W w v bj fi how := by
  have z0 : wW W w u 0 = W 0 := wW_n _ (by omega)
  have zk : wW W w u 11356 = W 11356 := wW_n _ (by omega)
  funext i
  unfold wrW
  rw [z0, zk]
  by_cases e : i = 9 + w
  · rw [if_pos e, if_pos e]
  · rw [if_neg e, if_neg e, wW_n i e]
theorem sp_w9 {W : Int → Int} (w u v how : Int) (hw : 0 ≤ w ∧ w < 64) : spW (wW W w u) w v how = spW W w v how := by
  unfold spW
  rw [wW_n 0 (by omega), wW_n (138 + 2 * (w % 16)) (by omega), wW_n (137 + 2 * (w % 16)) (by omega)]
end LM
