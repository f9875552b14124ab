/-! the cases of the law's loop: written by gen_k.py -/
theorem xp_shape {β : Type} {h : HP} {a ci N k : Nat} {z : Int} {f : HP → Option β} {y : β} (e : (xpI h (some a) ci N k z).bind f = some y) : gS h a = (ci, N) := by
  obtain ⟨h1, e1, -⟩ := Option.bind_eq_some_iff.mp e
  unfold xpI at e1; simp only at e1
  split at e1
  · assumption
  · cases e1

section KK
variable {F : Nat} {h : HP} {n l4 : Int} {sl : Nat} {sc : Nat → Int}
theorem K_feed (hF : 60000 ≤ F) (hsc : ∀ j, in32 (sc j)) (r : RA n h) (hn : n < 512) (h0 : 0 ≤ l4) (h6 : l4 + 6 ≤ sl) (hsl : sl ≤ 3072) (rc : Option Nat → Option Nat → Option Nat → Int → HP → Option (Int × HP)) : ∃ h2, XL_law_L236 F sl sc rc (some 1) (some 113) (some 126) l4 h = rc (some 1) (some 113) (some 126) (w32 (l4 + 6)) h2 ∧ RA (n + 1) h2 := by
  have e1 : w32 (l4 + 1) = l4 + 1 := w32i _ (by omega) (by omega)
  have e2 : w32 (l4 + 2) = l4 + 2 := w32i _ (by omega) (by omega)
  have e3 : w32 (l4 + 3) = l4 + 3 := w32i _ (by omega) (by omega)
  have e4 : w32 (l4 + 4) = l4 + 4 := w32i _ (by omega) (by omega)
  have e5 : w32 (l4 + 5) = l4 + 5 := w32i _ (by omega) (by omega)
  obtain ⟨v, h1, h2, x, y, z3⟩ := J_feed (F := F) (by omega) r (sc (l4 + 1).toNat) (sc (l4 + 2).toNat) (sc (l4 + 3).toNat) (sc (l4 + 4).toNat) (sc (l4 + 5).toNat) 
  have M1 : gS h1 113 = (12, 31) := by unfold X12_feed at y; exact xp_shape y
  have M2 : LayM h2 := z3.2.2.1
  have L6 : gS h2 126 = (101, 1) := z3.2.2.2.2.2.1
  have L := r.1
  have p1 : ∀ f : Nat → Option (Int × HP), (xrc h1 (some 113) 12 31).bind f = f 113 := fun f => b_rc h1 113 12 31 f M1
  have p0 : ∀ f : Nat → Option (Int × HP), (xrc h (some 1) 11 6).bind f = f 1 := fun f => cR1 h f L
  have p2 : ∀ f : Nat → Option (Int × HP), (xrc h2 (some 113) 12 31).bind f = f 113 := fun f => mR113 h2 f M2
  refine ⟨h2, ?_, z3⟩
  unfold XL_law_L236 XL_law_L2868
  simp only [e1, e2, e3, e4, e5]
  simp (disch := first | assumption | omega) only [↓b_sc, ↓p0, ↓b_xb _ _ _ _ x, ↓b_xb _ _ _ _ y, ↓p1]
  rw [if_pos trivial]
theorem K_end (hF : 60000 ≤ F) (hsc : ∀ j, in32 (sc j)) (r : RA n h) (hn : n < 512) (h0 : 0 ≤ l4) (h6 : l4 + 6 ≤ sl) (hsl : sl ≤ 3072) (rc : Option Nat → Option Nat → Option Nat → Int → HP → Option (Int × HP)) : ∃ h2, XL_law_L309 F sl sc rc (some 1) (some 113) (some 126) l4 h = rc (some 1) (some 113) (some 126) (w32 (l4 + 6)) h2 ∧ RA (n + 1) h2 := by
  have e1 : w32 (l4 + 1) = l4 + 1 := w32i _ (by omega) (by omega)
  obtain ⟨v, h1, h2, x, y, z3⟩ := J_end (F := F) r (sc (l4 + 1).toNat) 
  have M1 : gS h1 113 = (12, 31) := by unfold X12_end at y; exact xp_shape y
  have M2 : LayM h2 := z3.2.2.1
  have L6 : gS h2 126 = (101, 1) := z3.2.2.2.2.2.1
  have L := r.1
  have p1 : ∀ f : Nat → Option (Int × HP), (xrc h1 (some 113) 12 31).bind f = f 113 := fun f => b_rc h1 113 12 31 f M1
  have p0 : ∀ f : Nat → Option (Int × HP), (xrc h (some 1) 11 6).bind f = f 1 := fun f => cR1 h f L
  have p2 : ∀ f : Nat → Option (Int × HP), (xrc h2 (some 113) 12 31).bind f = f 113 := fun f => mR113 h2 f M2
  refine ⟨h2, ?_, z3⟩
  unfold XL_law_L309 XL_law_L2868
  simp only [e1]
  simp (disch := first | assumption | omega) only [↓b_sc, ↓p0, ↓b_xb _ _ _ _ x, ↓b_xb _ _ _ _ y, ↓p1]
  rw [if_pos trivial]
theorem K_day (hF : 60000 ≤ F) (hsc : ∀ j, in32 (sc j)) (r : RA n h) (hn : n < 512) (h0 : 0 ≤ l4) (h6 : l4 + 6 ≤ sl) (hsl : sl ≤ 3072) (rc : Option Nat → Option Nat → Option Nat → Int → HP → Option (Int × HP)) : ∃ h2, XL_law_L334 F sl sc rc (some 1) (some 113) (some 126) l4 h = rc (some 1) (some 113) (some 126) (w32 (l4 + 6)) h2 ∧ RA (n + 1) h2 := by
  have e1 : w32 (l4 + 1) = l4 + 1 := w32i _ (by omega) (by omega)
  have e2 : w32 (l4 + 2) = l4 + 2 := w32i _ (by omega) (by omega)
  obtain ⟨k, h1, h2, x, y, z1, z3⟩ := J_day (F := F) r (sc (l4 + 1).toNat) (sc (l4 + 2).toNat) 
  have M1 : gS h1 113 = (12, 31) := by unfold X12_day at y; exact xp_shape y
  have M2 : LayM h2 := z3.2.2.1
  have L6 : gS h2 126 = (101, 1) := z3.2.2.2.2.2.1
  have L := r.1
  have p1 : ∀ f : Nat → Option (Int × HP), (xrc h1 (some 113) 12 31).bind f = f 113 := fun f => b_rc h1 113 12 31 f M1
  have p0 : ∀ f : Nat → Option (Int × HP), (xrc h (some 1) 11 6).bind f = f 1 := fun f => cR1 h f L
  have p2 : ∀ f : Nat → Option (Int × HP), (xrc h2 (some 113) 12 31).bind f = f 113 := fun f => mR113 h2 f M2
  have p3 : X12_thrown F 113 h2 = some (k, h2) := by rw [E_thrown M2, z1]
  refine ⟨h2, ?_, z3⟩
  unfold XL_law_L334 XL_law_L2868
  simp only [e1, e2]
  simp (disch := first | assumption | omega) only [↓b_sc, ↓b_xb _ _ _ _ x, ↓b_xb _ _ _ _ y, ↓p1, ↓p2, ↓b_xb _ _ _ _ p3]
  rw [if_pos trivial]
theorem K_old (hF : 60000 ≤ F) (hsc : ∀ j, in32 (sc j)) (r : RA n h) (hn : n < 512) (h0 : 0 ≤ l4) (h6 : l4 + 6 ≤ sl) (hsl : sl ≤ 3072) (rc : Option Nat → Option Nat → Option Nat → Int → HP → Option (Int × HP)) : ∃ h2, XL_law_L382 F sl sc rc (some 1) (some 113) (some 126) l4 h = rc (some 1) (some 113) (some 126) (w32 (l4 + 6)) h2 ∧ RA (n + 1) h2 := by
  have e1 : w32 (l4 + 1) = l4 + 1 := w32i _ (by omega) (by omega)
  have e2 : w32 (l4 + 2) = l4 + 2 := w32i _ (by omega) (by omega)
  obtain ⟨k, h1, h2, x, y, z1, z3⟩ := J_old (F := F) r (sc (l4 + 1).toNat) (sc (l4 + 2).toNat) 
  have M1 : gS h1 113 = (12, 31) := by unfold X12_old at y; exact xp_shape y
  have M2 : LayM h2 := z3.2.2.1
  have L6 : gS h2 126 = (101, 1) := z3.2.2.2.2.2.1
  have L := r.1
  have p1 : ∀ f : Nat → Option (Int × HP), (xrc h1 (some 113) 12 31).bind f = f 113 := fun f => b_rc h1 113 12 31 f M1
  have p0 : ∀ f : Nat → Option (Int × HP), (xrc h (some 1) 11 6).bind f = f 1 := fun f => cR1 h f L
  have p2 : ∀ f : Nat → Option (Int × HP), (xrc h2 (some 113) 12 31).bind f = f 113 := fun f => mR113 h2 f M2
  have p3 : X12_thrown F 113 h2 = some (k, h2) := by rw [E_thrown M2, z1]
  refine ⟨h2, ?_, z3⟩
  unfold XL_law_L382 XL_law_L2868
  simp only [e1, e2]
  simp (disch := first | assumption | omega) only [↓b_sc, ↓b_xb _ _ _ _ x, ↓b_xb _ _ _ _ y, ↓p1, ↓p2, ↓b_xb _ _ _ _ p3]
  rw [if_pos trivial]
theorem K_ring (hF : 60000 ≤ F) (hsc : ∀ j, in32 (sc j)) (r : RA n h) (hn : n < 512) (h0 : 0 ≤ l4) (h6 : l4 + 6 ≤ sl) (hsl : sl ≤ 3072) (rc : Option Nat → Option Nat → Option Nat → Int → HP → Option (Int × HP)) : ∃ h2, XL_law_L430 F sl sc rc (some 1) (some 113) (some 126) l4 h = rc (some 1) (some 113) (some 126) (w32 (l4 + 6)) h2 ∧ RA (n + 1) h2 := by
  have e1 : w32 (l4 + 1) = l4 + 1 := w32i _ (by omega) (by omega)
  have e2 : w32 (l4 + 2) = l4 + 2 := w32i _ (by omega) (by omega)
  have e3 : w32 (l4 + 3) = l4 + 3 := w32i _ (by omega) (by omega)
  obtain ⟨k, h1, v, h2, x, y, z1, z2, z3⟩ := J_ring (F := F) r (sc (l4 + 1).toNat) (sc (l4 + 2).toNat) (sc (l4 + 3).toNat) hn
  have M1 : gS h1 113 = (12, 31) := by unfold X12_ring at y; exact xp_shape y
  have M2 : LayM h2 := z3.2.2.1
  have L6 : gS h2 126 = (101, 1) := z3.2.2.2.2.2.1
  have L := r.1
  have p1 : ∀ f : Nat → Option (Int × HP), (xrc h1 (some 113) 12 31).bind f = f 113 := fun f => b_rc h1 113 12 31 f M1
  have p0 : ∀ f : Nat → Option (Int × HP), (xrc h (some 1) 11 6).bind f = f 1 := fun f => cR1 h f L
  have p2 : ∀ f : Nat → Option (Int × HP), (xrc h2 (some 113) 12 31).bind f = f 113 := fun f => mR113 h2 f M2
  have p3 : X12_thrown F 113 h2 = some (k, h2) := by rw [E_thrown M2, z1]
  refine ⟨h2, ?_, z3⟩
  unfold XL_law_L430 XL_law_L507 XL_law_L2868
  simp only [e1, e2, e3]
  simp (disch := first | assumption | omega) only [↓b_sc, ↓b_xb _ _ _ _ x, ↓b_xb _ _ _ _ y, ↓p1, ↓p2, ↓b_xb _ _ _ _ p3]
  rw [if_pos trivial]
  by_cases hk : k = 0
  · rw [if_pos hk, b_126 _ _ L6, z2 hk, if_pos (xc0 v)]
  · rw [if_neg hk]
theorem K_tell (hF : 60000 ≤ F) (hsc : ∀ j, in32 (sc j)) (r : RA n h) (hn : n < 512) (h0 : 0 ≤ l4) (h6 : l4 + 6 ≤ sl) (hsl : sl ≤ 3072) (rc : Option Nat → Option Nat → Option Nat → Int → HP → Option (Int × HP)) : ∃ h2, XL_law_L510 F sl sc rc (some 1) (some 113) (some 126) l4 h = rc (some 1) (some 113) (some 126) (w32 (l4 + 6)) h2 ∧ RA (n + 1) h2 := by
  have e1 : w32 (l4 + 1) = l4 + 1 := w32i _ (by omega) (by omega)
  have e2 : w32 (l4 + 2) = l4 + 2 := w32i _ (by omega) (by omega)
  obtain ⟨k, h1, v, h2, x, y, z1, z2, z3⟩ := J_tell (F := F) r (sc (l4 + 1).toNat) (sc (l4 + 2).toNat) hn
  have M1 : gS h1 113 = (12, 31) := by unfold X12_tell at y; exact xp_shape y
  have M2 : LayM h2 := z3.2.2.1
  have L6 : gS h2 126 = (101, 1) := z3.2.2.2.2.2.1
  have L := r.1
  have p1 : ∀ f : Nat → Option (Int × HP), (xrc h1 (some 113) 12 31).bind f = f 113 := fun f => b_rc h1 113 12 31 f M1
  have p0 : ∀ f : Nat → Option (Int × HP), (xrc h (some 1) 11 6).bind f = f 1 := fun f => cR1 h f L
  have p2 : ∀ f : Nat → Option (Int × HP), (xrc h2 (some 113) 12 31).bind f = f 113 := fun f => mR113 h2 f M2
  have p3 : X12_thrown F 113 h2 = some (k, h2) := by rw [E_thrown M2, z1]
  refine ⟨h2, ?_, z3⟩
  unfold XL_law_L510 XL_law_L575 XL_law_L2868
  simp only [e1, e2]
  simp (disch := first | assumption | omega) only [↓b_sc, ↓b_xb _ _ _ _ x, ↓b_xb _ _ _ _ y, ↓p1, ↓p2, ↓b_xb _ _ _ _ p3]
  rw [if_pos trivial]
  by_cases hk : k = 0
  · rw [if_pos hk, b_126 _ _ L6, z2 hk, if_pos (xc0 v)]
  · rw [if_neg hk]
theorem K_word (hF : 60000 ≤ F) (hsc : ∀ j, in32 (sc j)) (r : RA n h) (hn : n < 512) (h0 : 0 ≤ l4) (h6 : l4 + 6 ≤ sl) (hsl : sl ≤ 3072) (rc : Option Nat → Option Nat → Option Nat → Int → HP → Option (Int × HP)) : ∃ h2, XL_law_L578 F sl sc rc (some 1) (some 113) (some 126) l4 h = rc (some 1) (some 113) (some 126) (w32 (l4 + 6)) h2 ∧ RA (n + 1) h2 := by
  have e1 : w32 (l4 + 1) = l4 + 1 := w32i _ (by omega) (by omega)
  obtain ⟨k, h1, v, h2, x, y, -, z1, z2, -, z3⟩ := J_word (F := F) r (sc (l4 + 1).toNat) 
  have M1 : gS h1 113 = (12, 31) := by unfold X12_word at y; exact xp_shape y
  have M2 : LayM h2 := z3.2.2.1
  have L6 : gS h2 126 = (101, 1) := z3.2.2.2.2.2.1
  have L := r.1
  have p1 : ∀ f : Nat → Option (Int × HP), (xrc h1 (some 113) 12 31).bind f = f 113 := fun f => b_rc h1 113 12 31 f M1
  have p0 : ∀ f : Nat → Option (Int × HP), (xrc h (some 1) 11 6).bind f = f 1 := fun f => cR1 h f L
  have p2 : ∀ f : Nat → Option (Int × HP), (xrc h2 (some 113) 12 31).bind f = f 113 := fun f => mR113 h2 f M2
  have p3 : X12_thrown F 113 h2 = some (k, h2) := by rw [E_thrown M2, z1]
  refine ⟨h2, ?_, z3⟩
  unfold XL_law_L578 XL_law_L631 XL_law_L2868
  simp only [e1]
  simp (disch := first | assumption | omega) only [↓b_sc, ↓b_xb _ _ _ _ x, ↓b_xb _ _ _ _ y, ↓p1, ↓p2, ↓b_xb _ _ _ _ p3]
  rw [if_pos trivial]
  by_cases hk : k = 0
  · rw [if_pos hk, b_126 _ _ L6, z2 hk, if_pos (xc0 v)]
  · rw [if_neg hk]
theorem K_as (hF : 60000 ≤ F) (hsc : ∀ j, in32 (sc j)) (r : RA n h) (hn : n < 512) (h0 : 0 ≤ l4) (h6 : l4 + 6 ≤ sl) (hsl : sl ≤ 3072) (rc : Option Nat → Option Nat → Option Nat → Int → HP → Option (Int × HP)) : ∃ h2, XL_law_L634 F sl sc rc (some 1) (some 113) (some 126) l4 h = rc (some 1) (some 113) (some 126) (w32 (l4 + 6)) h2 ∧ RA (n + 1) h2 := by
  have e1 : w32 (l4 + 1) = l4 + 1 := w32i _ (by omega) (by omega)
  have e2 : w32 (l4 + 2) = l4 + 2 := w32i _ (by omega) (by omega)
  obtain ⟨k, h1, v, h2, x, y, z1, z2, z3⟩ := J_as (F := F) (by omega) r (sc (l4 + 1).toNat) (sc (l4 + 2).toNat) 
  have M1 : gS h1 113 = (12, 31) := by unfold X12_as at y; exact xp_shape y
  have M2 : LayM h2 := z3.2.2.1
  have L6 : gS h2 126 = (101, 1) := z3.2.2.2.2.2.1
  have L := r.1
  have p1 : ∀ f : Nat → Option (Int × HP), (xrc h1 (some 113) 12 31).bind f = f 113 := fun f => b_rc h1 113 12 31 f M1
  have p0 : ∀ f : Nat → Option (Int × HP), (xrc h (some 1) 11 6).bind f = f 1 := fun f => cR1 h f L
  have p2 : ∀ f : Nat → Option (Int × HP), (xrc h2 (some 113) 12 31).bind f = f 113 := fun f => mR113 h2 f M2
  have p3 : X12_thrown F 113 h2 = some (k, h2) := by rw [E_thrown M2, z1]
  refine ⟨h2, ?_, z3⟩
  unfold XL_law_L634 XL_law_L699 XL_law_L2868
  simp only [e1, e2]
  simp (disch := first | assumption | omega) only [↓b_sc, ↓b_xb _ _ _ _ x, ↓b_xb _ _ _ _ y, ↓p1, ↓p2, ↓b_xb _ _ _ _ p3]
  rw [if_pos trivial]
  by_cases hk : k = 0
  · rw [if_pos hk, b_126 _ _ L6, z2 hk, if_pos (xc0 v)]
  · rw [if_neg hk]
theorem K_led (hF : 60000 ≤ F) (hsc : ∀ j, in32 (sc j)) (r : RA n h) (hn : n < 512) (h0 : 0 ≤ l4) (h6 : l4 + 6 ≤ sl) (hsl : sl ≤ 3072) (rc : Option Nat → Option Nat → Option Nat → Int → HP → Option (Int × HP)) : ∃ h2, XL_law_L702 F sl sc rc (some 1) (some 113) (some 126) l4 h = rc (some 1) (some 113) (some 126) (w32 (l4 + 6)) h2 ∧ RA (n + 1) h2 := by
  have e1 : w32 (l4 + 1) = l4 + 1 := w32i _ (by omega) (by omega)
  have e2 : w32 (l4 + 2) = l4 + 2 := w32i _ (by omega) (by omega)
  obtain ⟨k, h1, v, h2, x, y, z1, z2, z3⟩ := J_led (F := F) (by omega) r (sc (l4 + 1).toNat) (sc (l4 + 2).toNat) 
  have M1 : gS h1 113 = (12, 31) := by unfold X12_led at y; exact xp_shape y
  have M2 : LayM h2 := z3.2.2.1
  have L6 : gS h2 126 = (101, 1) := z3.2.2.2.2.2.1
  have L := r.1
  have p1 : ∀ f : Nat → Option (Int × HP), (xrc h1 (some 113) 12 31).bind f = f 113 := fun f => b_rc h1 113 12 31 f M1
  have p0 : ∀ f : Nat → Option (Int × HP), (xrc h (some 1) 11 6).bind f = f 1 := fun f => cR1 h f L
  have p2 : ∀ f : Nat → Option (Int × HP), (xrc h2 (some 113) 12 31).bind f = f 113 := fun f => mR113 h2 f M2
  have p3 : X12_thrown F 113 h2 = some (k, h2) := by rw [E_thrown M2, z1]
  refine ⟨h2, ?_, z3⟩
  unfold XL_law_L702 XL_law_L767 XL_law_L2868
  simp only [e1, e2]
  simp (disch := first | assumption | omega) only [↓b_sc, ↓b_xb _ _ _ _ x, ↓b_xb _ _ _ _ y, ↓p1, ↓p2, ↓b_xb _ _ _ _ p3]
  rw [if_pos trivial]
  by_cases hk : k = 0
  · rw [if_pos hk, b_126 _ _ L6, z2 hk, if_pos (xc0 v)]
  · rw [if_neg hk]
theorem K_job (hF : 60000 ≤ F) (hsc : ∀ j, in32 (sc j)) (r : RA n h) (hn : n < 512) (h0 : 0 ≤ l4) (h6 : l4 + 6 ≤ sl) (hsl : sl ≤ 3072) (rc : Option Nat → Option Nat → Option Nat → Int → HP → Option (Int × HP)) : ∃ h2, XL_law_L770 F sl sc rc (some 1) (some 113) (some 126) l4 h = rc (some 1) (some 113) (some 126) (w32 (l4 + 6)) h2 ∧ RA (n + 1) h2 := by
  have e1 : w32 (l4 + 1) = l4 + 1 := w32i _ (by omega) (by omega)
  have e2 : w32 (l4 + 2) = l4 + 2 := w32i _ (by omega) (by omega)
  have e3 : w32 (l4 + 3) = l4 + 3 := w32i _ (by omega) (by omega)
  have e4 : w32 (l4 + 4) = l4 + 4 := w32i _ (by omega) (by omega)
  have e5 : w32 (l4 + 5) = l4 + 5 := w32i _ (by omega) (by omega)
  obtain ⟨k, h1, v, h2, x, y, z1, z2, z3⟩ := J_job (F := F) (by omega) r hn (sc (l4 + 1).toNat) (sc (l4 + 2).toNat) (sc (l4 + 3).toNat) (sc (l4 + 4).toNat) (if sc (l4 + 5).toNat = 0 then 0 else 1) (by split <;> first | exact Or.inl rfl | exact Or.inr rfl) 
  have M1 : gS h1 113 = (12, 31) := by unfold X12_job at y; exact xp_shape y
  have M2 : LayM h2 := z3.2.2.1
  have L6 : gS h2 126 = (101, 1) := z3.2.2.2.2.2.1
  have L := r.1
  have p1 : ∀ f : Nat → Option (Int × HP), (xrc h1 (some 113) 12 31).bind f = f 113 := fun f => b_rc h1 113 12 31 f M1
  have p0 : ∀ f : Nat → Option (Int × HP), (xrc h (some 1) 11 6).bind f = f 1 := fun f => cR1 h f L
  have p2 : ∀ f : Nat → Option (Int × HP), (xrc h2 (some 113) 12 31).bind f = f 113 := fun f => mR113 h2 f M2
  have p3 : X12_thrown F 113 h2 = some (k, h2) := by rw [E_thrown M2, z1]
  refine ⟨h2, ?_, z3⟩
  unfold XL_law_L770 XL_law_L809 XL_law_L854 XL_law_L887 XL_law_L2868
  simp only [e1, e2, e3, e4, e5]
  simp (disch := first | assumption | omega) only [↓b_sc, ↓b_xb _ _ _ _ x, ↓b_xb _ _ _ _ y, ↓p1, ↓p2, ↓b_xb _ _ _ _ p3]
  rw [if_pos trivial]
  by_cases hk : k = 0
  · rw [if_pos hk, b_126 _ _ L6, z2 hk, if_pos (xc0 v)]
  · rw [if_neg hk]
theorem K_fault (hF : 60000 ≤ F) (hsc : ∀ j, in32 (sc j)) (r : RA n h) (hn : n < 512) (h0 : 0 ≤ l4) (h6 : l4 + 6 ≤ sl) (hsl : sl ≤ 3072) (rc : Option Nat → Option Nat → Option Nat → Int → HP → Option (Int × HP)) : ∃ h2, XL_law_L890 F sl sc rc (some 1) (some 113) (some 126) l4 h = rc (some 1) (some 113) (some 126) (w32 (l4 + 6)) h2 ∧ RA (n + 1) h2 := by
  obtain ⟨v, h2, x, y, z3⟩ := J_fault (F := F) r  
  have M1 : gS h 113 = (12, 31) := by unfold X12_fault at y; exact xp_shape y
  have M2 : LayM h2 := z3.2.2.1
  have L6 : gS h2 126 = (101, 1) := z3.2.2.2.2.2.1
  have L := r.1
  have p1 : ∀ f : Nat → Option (Int × HP), (xrc h (some 113) 12 31).bind f = f 113 := fun f => b_rc h 113 12 31 f M1
  have p0 : ∀ f : Nat → Option (Int × HP), (xrc h (some 1) 11 6).bind f = f 1 := fun f => cR1 h f L
  have p2 : ∀ f : Nat → Option (Int × HP), (xrc h2 (some 113) 12 31).bind f = f 113 := fun f => mR113 h2 f M2
  refine ⟨h2, ?_, z3⟩
  unfold XL_law_L890 XL_law_L2868
  simp (disch := first | assumption | omega) only [↓b_sc, ↓p0, ↓b_xb _ _ _ _ x, ↓b_xb _ _ _ _ y, ↓p1]
  rw [if_pos trivial]
theorem K_shorter (hF : 60000 ≤ F) (hsc : ∀ j, in32 (sc j)) (r : RA n h) (hn : n < 512) (h0 : 0 ≤ l4) (h6 : l4 + 6 ≤ sl) (hsl : sl ≤ 3072) (rc : Option Nat → Option Nat → Option Nat → Int → HP → Option (Int × HP)) : ∃ h2, XL_law_L903 F sl sc rc (some 1) (some 113) (some 126) l4 h = rc (some 1) (some 113) (some 126) (w32 (l4 + 6)) h2 ∧ RA (n + 1) h2 := by
  have e1 : w32 (l4 + 1) = l4 + 1 := w32i _ (by omega) (by omega)
  have e2 : w32 (l4 + 2) = l4 + 2 := w32i _ (by omega) (by omega)
  have e3 : w32 (l4 + 3) = l4 + 3 := w32i _ (by omega) (by omega)
  have e4 : w32 (l4 + 4) = l4 + 4 := w32i _ (by omega) (by omega)
  obtain ⟨k, h1, h2, x, y, z1, z3⟩ := J_shorter (F := F) r (sc (l4 + 1).toNat) (sc (l4 + 2).toNat) (sc (l4 + 3).toNat) (sc (l4 + 4).toNat) 
  have M1 : gS h1 113 = (12, 31) := by unfold X12_shorter at y; exact xp_shape y
  have M2 : LayM h2 := z3.2.2.1
  have L6 : gS h2 126 = (101, 1) := z3.2.2.2.2.2.1
  have L := r.1
  have p1 : ∀ f : Nat → Option (Int × HP), (xrc h1 (some 113) 12 31).bind f = f 113 := fun f => b_rc h1 113 12 31 f M1
  have p0 : ∀ f : Nat → Option (Int × HP), (xrc h (some 1) 11 6).bind f = f 1 := fun f => cR1 h f L
  have p2 : ∀ f : Nat → Option (Int × HP), (xrc h2 (some 113) 12 31).bind f = f 113 := fun f => mR113 h2 f M2
  have p3 : X12_thrown F 113 h2 = some (k, h2) := by rw [E_thrown M2, z1]
  refine ⟨h2, ?_, z3⟩
  unfold XL_law_L903 XL_law_L2868
  simp only [e1, e2, e3, e4]
  simp (disch := first | assumption | omega) only [↓b_sc, ↓b_xb _ _ _ _ x, ↓b_xb _ _ _ _ y, ↓p1, ↓p2, ↓b_xb _ _ _ _ p3]
  rw [if_pos trivial]
theorem K_words (hF : 60000 ≤ F) (hsc : ∀ j, in32 (sc j)) (r : RA n h) (hn : n < 512) (h0 : 0 ≤ l4) (h6 : l4 + 6 ≤ sl) (hsl : sl ≤ 3072) (rc : Option Nat → Option Nat → Option Nat → Int → HP → Option (Int × HP)) : ∃ h2, XL_law_L975 F sl sc rc (some 1) (some 113) (some 126) l4 h = rc (some 1) (some 113) (some 126) (w32 (l4 + 6)) h2 ∧ RA (n + 1) h2 := by
  have e1 : w32 (l4 + 1) = l4 + 1 := w32i _ (by omega) (by omega)
  have e2 : w32 (l4 + 2) = l4 + 2 := w32i _ (by omega) (by omega)
  obtain ⟨k, h1, v, h2, x, y, z1, z2, z3⟩ := J_words (F := F) r (sc (l4 + 1).toNat) (if sc (l4 + 2).toNat = 0 then 0 else 1) 
  have M1 : gS h1 113 = (12, 31) := by unfold X12_words at y; exact xp_shape y
  have M2 : LayM h2 := z3.2.2.1
  have L6 : gS h2 126 = (101, 1) := z3.2.2.2.2.2.1
  have L := r.1
  have p1 : ∀ f : Nat → Option (Int × HP), (xrc h1 (some 113) 12 31).bind f = f 113 := fun f => b_rc h1 113 12 31 f M1
  have p0 : ∀ f : Nat → Option (Int × HP), (xrc h (some 1) 11 6).bind f = f 1 := fun f => cR1 h f L
  have p2 : ∀ f : Nat → Option (Int × HP), (xrc h2 (some 113) 12 31).bind f = f 113 := fun f => mR113 h2 f M2
  have p3 : X12_thrown F 113 h2 = some (k, h2) := by rw [E_thrown M2, z1]
  refine ⟨h2, ?_, z3⟩
  unfold XL_law_L975 XL_law_L996 XL_law_L1023 XL_law_L1055 XL_law_L2868
  simp only [e1, e2]
  simp (disch := first | assumption | omega) only [↓b_sc, ↓b_xb _ _ _ _ x, ↓b_xb _ _ _ _ y, ↓p1, ↓p2, ↓b_xb _ _ _ _ p3]
  rw [if_pos trivial]
  by_cases hk : k = 0
  · rw [if_pos hk, b_126 _ _ L6, z2 hk, if_pos (xc0 v)]
  · rw [if_neg hk]
theorem K_leans (hF : 60000 ≤ F) (hsc : ∀ j, in32 (sc j)) (r : RA n h) (hn : n < 512) (h0 : 0 ≤ l4) (h6 : l4 + 6 ≤ sl) (hsl : sl ≤ 3072) (rc : Option Nat → Option Nat → Option Nat → Int → HP → Option (Int × HP)) : ∃ h2, XL_law_L1058 F sl sc rc (some 1) (some 113) (some 126) l4 h = rc (some 1) (some 113) (some 126) (w32 (l4 + 6)) h2 ∧ RA (n + 1) h2 := by
  have e1 : w32 (l4 + 1) = l4 + 1 := w32i _ (by omega) (by omega)
  obtain ⟨k, h1, v, h2, x, y, z1, z2, z3⟩ := J_leans (F := F) r (sc (l4 + 1).toNat) (by omega)
  have M1 : gS h1 113 = (12, 31) := by unfold X12_leans at y; exact xp_shape y
  have M2 : LayM h2 := z3.2.2.1
  have L6 : gS h2 126 = (101, 1) := z3.2.2.2.2.2.1
  have L := r.1
  have p1 : ∀ f : Nat → Option (Int × HP), (xrc h1 (some 113) 12 31).bind f = f 113 := fun f => b_rc h1 113 12 31 f M1
  have p0 : ∀ f : Nat → Option (Int × HP), (xrc h (some 1) 11 6).bind f = f 1 := fun f => cR1 h f L
  have p2 : ∀ f : Nat → Option (Int × HP), (xrc h2 (some 113) 12 31).bind f = f 113 := fun f => mR113 h2 f M2
  have p3 : X12_thrown F 113 h2 = some (k, h2) := by rw [E_thrown M2, z1]
  refine ⟨h2, ?_, z3⟩
  unfold XL_law_L1058 XL_law_L1111 XL_law_L2868
  simp only [e1]
  simp (disch := first | assumption | omega) only [↓b_sc, ↓b_xb _ _ _ _ x, ↓b_xb _ _ _ _ y, ↓p1, ↓p2, ↓b_xb _ _ _ _ p3]
  rw [if_pos trivial]
  by_cases hk : k = 0
  · rw [if_pos hk, b_126 _ _ L6, z2 hk, if_pos (xc0 v)]
  · rw [if_neg hk]
theorem K_quarrel (hF : 60000 ≤ F) (hsc : ∀ j, in32 (sc j)) (r : RA n h) (hn : n < 512) (h0 : 0 ≤ l4) (h6 : l4 + 6 ≤ sl) (hsl : sl ≤ 3072) (rc : Option Nat → Option Nat → Option Nat → Int → HP → Option (Int × HP)) : ∃ h2, XL_law_L1114 F sl sc rc (some 1) (some 113) (some 126) l4 h = rc (some 1) (some 113) (some 126) (w32 (l4 + 6)) h2 ∧ RA (n + 1) h2 := by
  have e1 : w32 (l4 + 1) = l4 + 1 := w32i _ (by omega) (by omega)
  obtain ⟨v, h2, x, y, z3⟩ := J_quarrel (F := F) (by omega) r (sc (l4 + 1).toNat) 
  have M1 : gS h 113 = (12, 31) := by unfold X12_quarrel at y; exact xp_shape y
  have M2 : LayM h2 := z3.2.2.1
  have L6 : gS h2 126 = (101, 1) := z3.2.2.2.2.2.1
  have L := r.1
  have p1 : ∀ f : Nat → Option (Int × HP), (xrc h (some 113) 12 31).bind f = f 113 := fun f => b_rc h 113 12 31 f M1
  have p0 : ∀ f : Nat → Option (Int × HP), (xrc h (some 1) 11 6).bind f = f 1 := fun f => cR1 h f L
  have p2 : ∀ f : Nat → Option (Int × HP), (xrc h2 (some 113) 12 31).bind f = f 113 := fun f => mR113 h2 f M2
  refine ⟨h2, ?_, z3⟩
  unfold XL_law_L1114 XL_law_L2868
  simp only [e1]
  simp (disch := first | assumption | omega) only [↓b_sc, ↓p0, ↓b_xb _ _ _ _ x, ↓b_xb _ _ _ _ y, ↓p1]
  rw [if_pos trivial]
theorem K_order (hF : 60000 ≤ F) (hsc : ∀ j, in32 (sc j)) (r : RA n h) (hn : n < 512) (h0 : 0 ≤ l4) (h6 : l4 + 6 ≤ sl) (hsl : sl ≤ 3072) (rc : Option Nat → Option Nat → Option Nat → Int → HP → Option (Int × HP)) : ∃ h2, XL_law_L1139 F sl sc rc (some 1) (some 113) (some 126) l4 h = rc (some 1) (some 113) (some 126) (w32 (l4 + 6)) h2 ∧ RA (n + 1) h2 := by
  have e1 : w32 (l4 + 1) = l4 + 1 := w32i _ (by omega) (by omega)
  obtain ⟨v, h2, x, y, z3⟩ := J_order (F := F) (by omega) r (sc (l4 + 1).toNat) 
  have M1 : gS h 113 = (12, 31) := by unfold X12_order at y; exact xp_shape y
  have M2 : LayM h2 := z3.2.2.1
  have L6 : gS h2 126 = (101, 1) := z3.2.2.2.2.2.1
  have L := r.1
  have p1 : ∀ f : Nat → Option (Int × HP), (xrc h (some 113) 12 31).bind f = f 113 := fun f => b_rc h 113 12 31 f M1
  have p0 : ∀ f : Nat → Option (Int × HP), (xrc h (some 1) 11 6).bind f = f 1 := fun f => cR1 h f L
  have p2 : ∀ f : Nat → Option (Int × HP), (xrc h2 (some 113) 12 31).bind f = f 113 := fun f => mR113 h2 f M2
  refine ⟨h2, ?_, z3⟩
  unfold XL_law_L1139 XL_law_L2868
  simp only [e1]
  simp (disch := first | assumption | omega) only [↓b_sc, ↓p0, ↓b_xb _ _ _ _ x, ↓b_xb _ _ _ _ y, ↓p1]
  rw [if_pos trivial]
theorem K_way (hF : 60000 ≤ F) (hsc : ∀ j, in32 (sc j)) (r : RA n h) (hn : n < 512) (h0 : 0 ≤ l4) (h6 : l4 + 6 ≤ sl) (hsl : sl ≤ 3072) (rc : Option Nat → Option Nat → Option Nat → Int → HP → Option (Int × HP)) : ∃ h2, XL_law_L1164 F sl sc rc (some 1) (some 113) (some 126) l4 h = rc (some 1) (some 113) (some 126) (w32 (l4 + 6)) h2 ∧ RA (n + 1) h2 := by
  have e1 : w32 (l4 + 1) = l4 + 1 := w32i _ (by omega) (by omega)
  have e2 : w32 (l4 + 2) = l4 + 2 := w32i _ (by omega) (by omega)
  obtain ⟨k, h1, v, h2, x, y, z1, z2, z3⟩ := J_way (F := F) r (sc (l4 + 1).toNat) (sc (l4 + 2).toNat) 
  have M1 : gS h1 113 = (12, 31) := by unfold X12_way at y; exact xp_shape y
  have M2 : LayM h2 := z3.2.2.1
  have L6 : gS h2 126 = (101, 1) := z3.2.2.2.2.2.1
  have L := r.1
  have p1 : ∀ f : Nat → Option (Int × HP), (xrc h1 (some 113) 12 31).bind f = f 113 := fun f => b_rc h1 113 12 31 f M1
  have p0 : ∀ f : Nat → Option (Int × HP), (xrc h (some 1) 11 6).bind f = f 1 := fun f => cR1 h f L
  have p2 : ∀ f : Nat → Option (Int × HP), (xrc h2 (some 113) 12 31).bind f = f 113 := fun f => mR113 h2 f M2
  have p3 : X12_thrown F 113 h2 = some (k, h2) := by rw [E_thrown M2, z1]
  refine ⟨h2, ?_, z3⟩
  unfold XL_law_L1164 XL_law_L1230 XL_law_L1236 XL_law_L2868
  simp only [e1, e2]
  simp (disch := first | assumption | omega) only [↓b_sc, ↓b_xb _ _ _ _ x, ↓b_xb _ _ _ _ y, ↓p1, ↓p2, ↓b_xb _ _ _ _ p3]
  rw [if_pos trivial]
  by_cases hk : k = 0
  · have hv := vb_way y
    have ev : (if v = 0 then (0 : Int) else 1) = v := by rcases hv with e | e <;> subst e <;> rfl
    rw [if_pos hk, b_126 _ _ L6, z2 hk, ev, if_pos (xc0 v)]
  · rw [if_neg hk]
theorem K_drop (hF : 60000 ≤ F) (hsc : ∀ j, in32 (sc j)) (r : RA n h) (hn : n < 512) (h0 : 0 ≤ l4) (h6 : l4 + 6 ≤ sl) (hsl : sl ≤ 3072) (rc : Option Nat → Option Nat → Option Nat → Int → HP → Option (Int × HP)) : ∃ h2, XL_law_L1239 F sl sc rc (some 1) (some 113) (some 126) l4 h = rc (some 1) (some 113) (some 126) (w32 (l4 + 6)) h2 ∧ RA (n + 1) h2 := by
  have e1 : w32 (l4 + 1) = l4 + 1 := w32i _ (by omega) (by omega)
  obtain ⟨k, h1, v, h2, x, y, z1, z2, z3⟩ := J_drop (F := F) r (sc (l4 + 1).toNat) 
  have M1 : gS h1 113 = (12, 31) := by unfold X12_drop at y; exact xp_shape y
  have M2 : LayM h2 := z3.2.2.1
  have L6 : gS h2 126 = (101, 1) := z3.2.2.2.2.2.1
  have L := r.1
  have p1 : ∀ f : Nat → Option (Int × HP), (xrc h1 (some 113) 12 31).bind f = f 113 := fun f => b_rc h1 113 12 31 f M1
  have p0 : ∀ f : Nat → Option (Int × HP), (xrc h (some 1) 11 6).bind f = f 1 := fun f => cR1 h f L
  have p2 : ∀ f : Nat → Option (Int × HP), (xrc h2 (some 113) 12 31).bind f = f 113 := fun f => mR113 h2 f M2
  have p3 : X12_thrown F 113 h2 = some (k, h2) := by rw [E_thrown M2, z1]
  refine ⟨h2, ?_, z3⟩
  unfold XL_law_L1239 XL_law_L1293 XL_law_L1299 XL_law_L2868
  simp only [e1]
  simp (disch := first | assumption | omega) only [↓b_sc, ↓b_xb _ _ _ _ x, ↓b_xb _ _ _ _ y, ↓p1, ↓p2, ↓b_xb _ _ _ _ p3]
  rw [if_pos trivial]
  by_cases hk : k = 0
  · have hv := vb_drop y
    have ev : (if v = 0 then (0 : Int) else 1) = v := by rcases hv with e | e <;> subst e <;> rfl
    rw [if_pos hk, b_126 _ _ L6, z2 hk, ev, if_pos (xc0 v)]
  · rw [if_neg hk]
theorem K_again (hF : 60000 ≤ F) (hsc : ∀ j, in32 (sc j)) (r : RA n h) (hn : n < 512) (h0 : 0 ≤ l4) (h6 : l4 + 6 ≤ sl) (hsl : sl ≤ 3072) (rc : Option Nat → Option Nat → Option Nat → Int → HP → Option (Int × HP)) : ∃ h2, XL_law_L1302 F sl sc rc (some 1) (some 113) (some 126) l4 h = rc (some 1) (some 113) (some 126) (w32 (l4 + 6)) h2 ∧ RA (n + 1) h2 := by
  have e1 : w32 (l4 + 1) = l4 + 1 := w32i _ (by omega) (by omega)
  obtain ⟨k, h1, v, h2, x, y, z1, z2, z3⟩ := J_again (F := F) r (sc (l4 + 1).toNat) 
  have M1 : gS h1 113 = (12, 31) := by unfold X12_again at y; exact xp_shape y
  have M2 : LayM h2 := z3.2.2.1
  have L6 : gS h2 126 = (101, 1) := z3.2.2.2.2.2.1
  have L := r.1
  have p1 : ∀ f : Nat → Option (Int × HP), (xrc h1 (some 113) 12 31).bind f = f 113 := fun f => b_rc h1 113 12 31 f M1
  have p0 : ∀ f : Nat → Option (Int × HP), (xrc h (some 1) 11 6).bind f = f 1 := fun f => cR1 h f L
  have p2 : ∀ f : Nat → Option (Int × HP), (xrc h2 (some 113) 12 31).bind f = f 113 := fun f => mR113 h2 f M2
  have p3 : X12_thrown F 113 h2 = some (k, h2) := by rw [E_thrown M2, z1]
  refine ⟨h2, ?_, z3⟩
  unfold XL_law_L1302 XL_law_L1356 XL_law_L1362 XL_law_L2868
  simp only [e1]
  simp (disch := first | assumption | omega) only [↓b_sc, ↓b_xb _ _ _ _ x, ↓b_xb _ _ _ _ y, ↓p1, ↓p2, ↓b_xb _ _ _ _ p3]
  rw [if_pos trivial]
  by_cases hk : k = 0
  · have hv := vb_again y
    have ev : (if v = 0 then (0 : Int) else 1) = v := by rcases hv with e | e <;> subst e <;> rfl
    rw [if_pos hk, b_126 _ _ L6, z2 hk, ev, if_pos (xc0 v)]
  · rw [if_neg hk]
theorem K_out (hF : 60000 ≤ F) (hsc : ∀ j, in32 (sc j)) (r : RA n h) (hn : n < 512) (h0 : 0 ≤ l4) (h6 : l4 + 6 ≤ sl) (hsl : sl ≤ 3072) (rc : Option Nat → Option Nat → Option Nat → Int → HP → Option (Int × HP)) : ∃ h2, XL_law_L1365 F sl sc rc (some 1) (some 113) (some 126) l4 h = rc (some 1) (some 113) (some 126) (w32 (l4 + 6)) h2 ∧ RA (n + 1) h2 := by
  have e1 : w32 (l4 + 1) = l4 + 1 := w32i _ (by omega) (by omega)
  obtain ⟨k, h1, v, h2, x, y, z1, z2, z3⟩ := J_out (F := F) r (sc (l4 + 1).toNat) 
  have M1 : gS h1 113 = (12, 31) := by unfold X12_out at y; exact xp_shape y
  have M2 : LayM h2 := z3.2.2.1
  have L6 : gS h2 126 = (101, 1) := z3.2.2.2.2.2.1
  have L := r.1
  have p1 : ∀ f : Nat → Option (Int × HP), (xrc h1 (some 113) 12 31).bind f = f 113 := fun f => b_rc h1 113 12 31 f M1
  have p0 : ∀ f : Nat → Option (Int × HP), (xrc h (some 1) 11 6).bind f = f 1 := fun f => cR1 h f L
  have p2 : ∀ f : Nat → Option (Int × HP), (xrc h2 (some 113) 12 31).bind f = f 113 := fun f => mR113 h2 f M2
  have p3 : X12_thrown F 113 h2 = some (k, h2) := by rw [E_thrown M2, z1]
  refine ⟨h2, ?_, z3⟩
  unfold XL_law_L1365 XL_law_L1418 XL_law_L2868
  simp only [e1]
  simp (disch := first | assumption | omega) only [↓b_sc, ↓b_xb _ _ _ _ x, ↓b_xb _ _ _ _ y, ↓p1, ↓p2, ↓b_xb _ _ _ _ p3]
  rw [if_pos trivial]
  by_cases hk : k = 0
  · rw [if_pos hk, b_126 _ _ L6, z2 hk, if_pos (xc0 v)]
  · rw [if_neg hk]
theorem K_minutes (hF : 60000 ≤ F) (hsc : ∀ j, in32 (sc j)) (r : RA n h) (hn : n < 512) (h0 : 0 ≤ l4) (h6 : l4 + 6 ≤ sl) (hsl : sl ≤ 3072) (rc : Option Nat → Option Nat → Option Nat → Int → HP → Option (Int × HP)) : ∃ h2, XL_law_L1421 F sl sc rc (some 1) (some 113) (some 126) l4 h = rc (some 1) (some 113) (some 126) (w32 (l4 + 6)) h2 ∧ RA (n + 1) h2 := by
  have e1 : w32 (l4 + 1) = l4 + 1 := w32i _ (by omega) (by omega)
  obtain ⟨k, h1, v, h2, x, y, z1, z2, z3⟩ := J_minutes (F := F) (by omega) r hn (sc (l4 + 1).toNat) 
  have M1 : gS h1 113 = (12, 31) := by unfold X12_minutes at y; exact xp_shape y
  have M2 : LayM h2 := z3.2.2.1
  have L6 : gS h2 126 = (101, 1) := z3.2.2.2.2.2.1
  have L := r.1
  have p1 : ∀ f : Nat → Option (Int × HP), (xrc h1 (some 113) 12 31).bind f = f 113 := fun f => b_rc h1 113 12 31 f M1
  have p0 : ∀ f : Nat → Option (Int × HP), (xrc h (some 1) 11 6).bind f = f 1 := fun f => cR1 h f L
  have p2 : ∀ f : Nat → Option (Int × HP), (xrc h2 (some 113) 12 31).bind f = f 113 := fun f => mR113 h2 f M2
  have p3 : X12_thrown F 113 h2 = some (k, h2) := by rw [E_thrown M2, z1]
  refine ⟨h2, ?_, z3⟩
  unfold XL_law_L1421 XL_law_L1474 XL_law_L2868
  simp only [e1]
  simp (disch := first | assumption | omega) only [↓b_sc, ↓b_xb _ _ _ _ x, ↓b_xb _ _ _ _ y, ↓p1, ↓p2, ↓b_xb _ _ _ _ p3]
  rw [if_pos trivial]
  by_cases hk : k = 0
  · rw [if_pos hk, b_126 _ _ L6, z2 hk, if_pos (xc0 v)]
  · rw [if_neg hk]
theorem K_look (hF : 60000 ≤ F) (hsc : ∀ j, in32 (sc j)) (r : RA n h) (hn : n < 512) (h0 : 0 ≤ l4) (h6 : l4 + 6 ≤ sl) (hsl : sl ≤ 3072) (rc : Option Nat → Option Nat → Option Nat → Int → HP → Option (Int × HP)) : ∃ h2, XL_law_L1477 F sl sc rc (some 1) (some 113) (some 126) l4 h = rc (some 1) (some 113) (some 126) (w32 (l4 + 6)) h2 ∧ RA (n + 1) h2 := by
  have e1 : w32 (l4 + 1) = l4 + 1 := w32i _ (by omega) (by omega)
  have e2 : w32 (l4 + 2) = l4 + 2 := w32i _ (by omega) (by omega)
  obtain ⟨k, h1, v, h2, x, y, z1, z2, z3⟩ := J_look (F := F) r (sc (l4 + 1).toNat) (sc (l4 + 2).toNat) (by omega)
  have M1 : gS h1 113 = (12, 31) := by unfold X12_look at y; exact xp_shape y
  have M2 : LayM h2 := z3.2.2.1
  have L6 : gS h2 126 = (101, 1) := z3.2.2.2.2.2.1
  have L := r.1
  have p1 : ∀ f : Nat → Option (Int × HP), (xrc h1 (some 113) 12 31).bind f = f 113 := fun f => b_rc h1 113 12 31 f M1
  have p0 : ∀ f : Nat → Option (Int × HP), (xrc h (some 1) 11 6).bind f = f 1 := fun f => cR1 h f L
  have p2 : ∀ f : Nat → Option (Int × HP), (xrc h2 (some 113) 12 31).bind f = f 113 := fun f => mR113 h2 f M2
  have p3 : X12_thrown F 113 h2 = some (k, h2) := by rw [E_thrown M2, z1]
  refine ⟨h2, ?_, z3⟩
  unfold XL_law_L1477 XL_law_L1542 XL_law_L2868
  simp only [e1, e2]
  simp (disch := first | assumption | omega) only [↓b_sc, ↓b_xb _ _ _ _ x, ↓b_xb _ _ _ _ y, ↓p1, ↓p2, ↓b_xb _ _ _ _ p3]
  rw [if_pos trivial]
  by_cases hk : k = 0
  · rw [if_pos hk, b_126 _ _ L6, z2 hk, if_pos (xc0 v)]
  · rw [if_neg hk]
theorem K_lamp (hF : 60000 ≤ F) (hsc : ∀ j, in32 (sc j)) (r : RA n h) (hn : n < 512) (h0 : 0 ≤ l4) (h6 : l4 + 6 ≤ sl) (hsl : sl ≤ 3072) (rc : Option Nat → Option Nat → Option Nat → Int → HP → Option (Int × HP)) : ∃ h2, XL_law_L1545 F sl sc rc (some 1) (some 113) (some 126) l4 h = rc (some 1) (some 113) (some 126) (w32 (l4 + 6)) h2 ∧ RA (n + 1) h2 := by
  have e1 : w32 (l4 + 1) = l4 + 1 := w32i _ (by omega) (by omega)
  have e2 : w32 (l4 + 2) = l4 + 2 := w32i _ (by omega) (by omega)
  have e3 : w32 (l4 + 3) = l4 + 3 := w32i _ (by omega) (by omega)
  obtain ⟨k, h1, v, h2, x, y, z1, z2, z3⟩ := J_lamp (F := F) r (sc (l4 + 1).toNat) (sc (l4 + 2).toNat) (sc (l4 + 3).toNat) (hsc _) 
  have M1 : gS h1 113 = (12, 31) := by unfold X12_lamp at y; exact xp_shape y
  have M2 : LayM h2 := z3.2.2.1
  have L6 : gS h2 126 = (101, 1) := z3.2.2.2.2.2.1
  have L := r.1
  have p1 : ∀ f : Nat → Option (Int × HP), (xrc h1 (some 113) 12 31).bind f = f 113 := fun f => b_rc h1 113 12 31 f M1
  have p0 : ∀ f : Nat → Option (Int × HP), (xrc h (some 1) 11 6).bind f = f 1 := fun f => cR1 h f L
  have p2 : ∀ f : Nat → Option (Int × HP), (xrc h2 (some 113) 12 31).bind f = f 113 := fun f => mR113 h2 f M2
  have p3 : X12_thrown F 113 h2 = some (k, h2) := by rw [E_thrown M2, z1]
  refine ⟨h2, ?_, z3⟩
  unfold XL_law_L1545 XL_law_L1623 XL_law_L1629 XL_law_L2868
  simp only [e1, e2, e3]
  simp (disch := first | assumption | omega) only [↓b_sc, ↓b_xb _ _ _ _ x, ↓b_xb _ _ _ _ y, ↓p1, ↓p2, ↓b_xb _ _ _ _ p3]
  rw [if_pos trivial]
  by_cases hk : k = 0
  · have hv := vb_lamp y
    have ev : (if v = 0 then (0 : Int) else 1) = v := by rcases hv with e | e <;> subst e <;> rfl
    rw [if_pos hk, b_126 _ _ L6, z2 hk, ev, if_pos (xc0 v)]
  · rw [if_neg hk]
theorem K_test (hF : 60000 ≤ F) (hsc : ∀ j, in32 (sc j)) (r : RA n h) (hn : n < 512) (h0 : 0 ≤ l4) (h6 : l4 + 6 ≤ sl) (hsl : sl ≤ 3072) (rc : Option Nat → Option Nat → Option Nat → Int → HP → Option (Int × HP)) : ∃ h2, XL_law_L1632 F sl sc rc (some 1) (some 113) (some 126) l4 h = rc (some 1) (some 113) (some 126) (w32 (l4 + 6)) h2 ∧ RA (n + 1) h2 := by
  have e1 : w32 (l4 + 1) = l4 + 1 := w32i _ (by omega) (by omega)
  have e2 : w32 (l4 + 2) = l4 + 2 := w32i _ (by omega) (by omega)
  obtain ⟨k, h1, v, h2, x, y, z1, z2, z3⟩ := J_test (F := F) (by omega) r (sc (l4 + 1).toNat) (sc (l4 + 2).toNat) 
  have M1 : gS h1 113 = (12, 31) := by unfold X12_test at y; exact xp_shape y
  have M2 : LayM h2 := z3.2.2.1
  have L6 : gS h2 126 = (101, 1) := z3.2.2.2.2.2.1
  have L := r.1
  have p1 : ∀ f : Nat → Option (Int × HP), (xrc h1 (some 113) 12 31).bind f = f 113 := fun f => b_rc h1 113 12 31 f M1
  have p0 : ∀ f : Nat → Option (Int × HP), (xrc h (some 1) 11 6).bind f = f 1 := fun f => cR1 h f L
  have p2 : ∀ f : Nat → Option (Int × HP), (xrc h2 (some 113) 12 31).bind f = f 113 := fun f => mR113 h2 f M2
  have p3 : X12_thrown F 113 h2 = some (k, h2) := by rw [E_thrown M2, z1]
  refine ⟨h2, ?_, z3⟩
  unfold XL_law_L1632 XL_law_L1697 XL_law_L2868
  simp only [e1, e2]
  simp (disch := first | assumption | omega) only [↓b_sc, ↓b_xb _ _ _ _ x, ↓b_xb _ _ _ _ y, ↓p1, ↓p2, ↓b_xb _ _ _ _ p3]
  rw [if_pos trivial]
  by_cases hk : k = 0
  · rw [if_pos hk, b_126 _ _ L6, z2 hk, if_pos (xc0 v)]
  · rw [if_neg hk]
theorem K_doubted (hF : 60000 ≤ F) (hsc : ∀ j, in32 (sc j)) (r : RA n h) (hn : n < 512) (h0 : 0 ≤ l4) (h6 : l4 + 6 ≤ sl) (hsl : sl ≤ 3072) (rc : Option Nat → Option Nat → Option Nat → Int → HP → Option (Int × HP)) : ∃ h2, XL_law_L1700 F sl sc rc (some 1) (some 113) (some 126) l4 h = rc (some 1) (some 113) (some 126) (w32 (l4 + 6)) h2 ∧ RA (n + 1) h2 := by
  obtain ⟨v, h1, h2, x, y, z3⟩ := J_doubted (F := F) (by omega) r  
  have M1 : gS h1 113 = (12, 31) := by unfold X12_doubted at y; exact xp_shape y
  have M2 : LayM h2 := z3.2.2.1
  have L6 : gS h2 126 = (101, 1) := z3.2.2.2.2.2.1
  have L := r.1
  have p1 : ∀ f : Nat → Option (Int × HP), (xrc h1 (some 113) 12 31).bind f = f 113 := fun f => b_rc h1 113 12 31 f M1
  have p0 : ∀ f : Nat → Option (Int × HP), (xrc h (some 1) 11 6).bind f = f 1 := fun f => cR1 h f L
  have p2 : ∀ f : Nat → Option (Int × HP), (xrc h2 (some 113) 12 31).bind f = f 113 := fun f => mR113 h2 f M2
  refine ⟨h2, ?_, z3⟩
  unfold XL_law_L1700 XL_law_L2868
  simp (disch := first | assumption | omega) only [↓b_sc, ↓p0, ↓b_xb _ _ _ _ x, ↓b_xb _ _ _ _ y, ↓p1]
  rw [if_pos (xc0 v)]
theorem K_doubt (hF : 60000 ≤ F) (hsc : ∀ j, in32 (sc j)) (r : RA n h) (hn : n < 512) (h0 : 0 ≤ l4) (h6 : l4 + 6 ≤ sl) (hsl : sl ≤ 3072) (rc : Option Nat → Option Nat → Option Nat → Int → HP → Option (Int × HP)) : ∃ h2, XL_law_L1714 F sl sc rc (some 1) (some 113) (some 126) l4 h = rc (some 1) (some 113) (some 126) (w32 (l4 + 6)) h2 ∧ RA (n + 1) h2 := by
  have e1 : w32 (l4 + 1) = l4 + 1 := w32i _ (by omega) (by omega)
  have e2 : w32 (l4 + 2) = l4 + 2 := w32i _ (by omega) (by omega)
  obtain ⟨k, h1, v, h2, x, y, z1, z2, z3⟩ := J_doubt (F := F) (by omega) r (sc (l4 + 1).toNat) (sc (l4 + 2).toNat) 
  have M1 : gS h1 113 = (12, 31) := by unfold X12_doubt at y; exact xp_shape y
  have M2 : LayM h2 := z3.2.2.1
  have L6 : gS h2 126 = (101, 1) := z3.2.2.2.2.2.1
  have L := r.1
  have p1 : ∀ f : Nat → Option (Int × HP), (xrc h1 (some 113) 12 31).bind f = f 113 := fun f => b_rc h1 113 12 31 f M1
  have p0 : ∀ f : Nat → Option (Int × HP), (xrc h (some 1) 11 6).bind f = f 1 := fun f => cR1 h f L
  have p2 : ∀ f : Nat → Option (Int × HP), (xrc h2 (some 113) 12 31).bind f = f 113 := fun f => mR113 h2 f M2
  have p3 : X12_thrown F 113 h2 = some (k, h2) := by rw [E_thrown M2, z1]
  refine ⟨h2, ?_, z3⟩
  unfold XL_law_L1714 XL_law_L1780 XL_law_L1786 XL_law_L2868
  simp only [e1, e2]
  simp (disch := first | assumption | omega) only [↓b_sc, ↓b_xb _ _ _ _ x, ↓b_xb _ _ _ _ y, ↓p1, ↓p2, ↓b_xb _ _ _ _ p3]
  rw [if_pos trivial]
  by_cases hk : k = 0
  · have hv := vb_doubt y
    have ev : (if v = 0 then (0 : Int) else 1) = v := by rcases hv with e | e <;> subst e <;> rfl
    rw [if_pos hk, b_126 _ _ L6, z2 hk, ev, if_pos (xc0 v)]
  · rw [if_neg hk]
theorem K_wanted (hF : 60000 ≤ F) (hsc : ∀ j, in32 (sc j)) (r : RA n h) (hn : n < 512) (h0 : 0 ≤ l4) (h6 : l4 + 6 ≤ sl) (hsl : sl ≤ 3072) (rc : Option Nat → Option Nat → Option Nat → Int → HP → Option (Int × HP)) : ∃ h2, XL_law_L1789 F sl sc rc (some 1) (some 113) (some 126) l4 h = rc (some 1) (some 113) (some 126) (w32 (l4 + 6)) h2 ∧ RA (n + 1) h2 := by
  have e1 : w32 (l4 + 1) = l4 + 1 := w32i _ (by omega) (by omega)
  have e2 : w32 (l4 + 2) = l4 + 2 := w32i _ (by omega) (by omega)
  have e3 : w32 (l4 + 3) = l4 + 3 := w32i _ (by omega) (by omega)
  have e4 : w32 (l4 + 4) = l4 + 4 := w32i _ (by omega) (by omega)
  have e5 : w32 (l4 + 5) = l4 + 5 := w32i _ (by omega) (by omega)
  obtain ⟨k, h1, v, h2, x, y, z1, z2, z3⟩ := J_wanted (F := F) r (sc (l4 + 1).toNat) (sc (l4 + 2).toNat) (sc (l4 + 3).toNat) (sc (l4 + 4).toNat) (sc (l4 + 5).toNat) 
  have M1 : gS h1 113 = (12, 31) := by unfold X12_wanted at y; exact xp_shape y
  have M2 : LayM h2 := z3.2.2.1
  have L6 : gS h2 126 = (101, 1) := z3.2.2.2.2.2.1
  have L := r.1
  have p1 : ∀ f : Nat → Option (Int × HP), (xrc h1 (some 113) 12 31).bind f = f 113 := fun f => b_rc h1 113 12 31 f M1
  have p0 : ∀ f : Nat → Option (Int × HP), (xrc h (some 1) 11 6).bind f = f 1 := fun f => cR1 h f L
  have p2 : ∀ f : Nat → Option (Int × HP), (xrc h2 (some 113) 12 31).bind f = f 113 := fun f => mR113 h2 f M2
  have p3 : X12_thrown F 113 h2 = some (k, h2) := by rw [E_thrown M2, z1]
  refine ⟨h2, ?_, z3⟩
  unfold XL_law_L1789 XL_law_L1890 XL_law_L2868
  simp only [e1, e2, e3, e4, e5]
  simp (disch := first | assumption | omega) only [↓b_sc, ↓b_xb _ _ _ _ x, ↓b_xb _ _ _ _ y, ↓p1, ↓p2, ↓b_xb _ _ _ _ p3]
  rw [if_pos trivial]
  by_cases hk : k = 0
  · rw [if_pos hk, b_126 _ _ L6, z2 hk, if_pos (xc0 v)]
  · rw [if_neg hk]
theorem K_foretell (hF : 60000 ≤ F) (hsc : ∀ j, in32 (sc j)) (r : RA n h) (hn : n < 512) (h0 : 0 ≤ l4) (h6 : l4 + 6 ≤ sl) (hsl : sl ≤ 3072) (rc : Option Nat → Option Nat → Option Nat → Int → HP → Option (Int × HP)) : ∃ h2, XL_law_L1893 F sl sc rc (some 1) (some 113) (some 126) l4 h = rc (some 1) (some 113) (some 126) (w32 (l4 + 6)) h2 ∧ RA (n + 1) h2 := by
  have e1 : w32 (l4 + 1) = l4 + 1 := w32i _ (by omega) (by omega)
  have e2 : w32 (l4 + 2) = l4 + 2 := w32i _ (by omega) (by omega)
  have e3 : w32 (l4 + 3) = l4 + 3 := w32i _ (by omega) (by omega)
  obtain ⟨k, h1, v, h2, x, y, z1, z2, z3⟩ := J_foretell (F := F) (by omega) r (sc (l4 + 1).toNat) (sc (l4 + 2).toNat) (sc (l4 + 3).toNat) 
  have M1 : gS h1 113 = (12, 31) := by unfold X12_foretell at y; exact xp_shape y
  have M2 : LayM h2 := z3.2.2.1
  have L6 : gS h2 126 = (101, 1) := z3.2.2.2.2.2.1
  have L := r.1
  have p1 : ∀ f : Nat → Option (Int × HP), (xrc h1 (some 113) 12 31).bind f = f 113 := fun f => b_rc h1 113 12 31 f M1
  have p0 : ∀ f : Nat → Option (Int × HP), (xrc h (some 1) 11 6).bind f = f 1 := fun f => cR1 h f L
  have p2 : ∀ f : Nat → Option (Int × HP), (xrc h2 (some 113) 12 31).bind f = f 113 := fun f => mR113 h2 f M2
  have p3 : X12_thrown F 113 h2 = some (k, h2) := by rw [E_thrown M2, z1]
  refine ⟨h2, ?_, z3⟩
  unfold XL_law_L1893 XL_law_L1970 XL_law_L2868
  simp only [e1, e2, e3]
  simp (disch := first | assumption | omega) only [↓b_sc, ↓b_xb _ _ _ _ x, ↓b_xb _ _ _ _ y, ↓p1, ↓p2, ↓b_xb _ _ _ _ p3]
  rw [if_pos trivial]
  by_cases hk : k = 0
  · rw [if_pos hk, b_126 _ _ L6, z2 hk, if_pos (xc0 v)]
  · rw [if_neg hk]
theorem K_far (hF : 60000 ≤ F) (hsc : ∀ j, in32 (sc j)) (r : RA n h) (hn : n < 512) (h0 : 0 ≤ l4) (h6 : l4 + 6 ≤ sl) (hsl : sl ≤ 3072) (rc : Option Nat → Option Nat → Option Nat → Int → HP → Option (Int × HP)) : ∃ h2, XL_law_L1973 F sl sc rc (some 1) (some 113) (some 126) l4 h = rc (some 1) (some 113) (some 126) (w32 (l4 + 6)) h2 ∧ RA (n + 1) h2 := by
  have e1 : w32 (l4 + 1) = l4 + 1 := w32i _ (by omega) (by omega)
  have e2 : w32 (l4 + 2) = l4 + 2 := w32i _ (by omega) (by omega)
  obtain ⟨k, h1, v, h2, x, y, z1, z2, z3⟩ := J_far (F := F) (by omega) r (sc (l4 + 1).toNat) (sc (l4 + 2).toNat) 
  have M1 : gS h1 113 = (12, 31) := by unfold X12_far at y; exact xp_shape y
  have M2 : LayM h2 := z3.2.2.1
  have L6 : gS h2 126 = (101, 1) := z3.2.2.2.2.2.1
  have L := r.1
  have p1 : ∀ f : Nat → Option (Int × HP), (xrc h1 (some 113) 12 31).bind f = f 113 := fun f => b_rc h1 113 12 31 f M1
  have p0 : ∀ f : Nat → Option (Int × HP), (xrc h (some 1) 11 6).bind f = f 1 := fun f => cR1 h f L
  have p2 : ∀ f : Nat → Option (Int × HP), (xrc h2 (some 113) 12 31).bind f = f 113 := fun f => mR113 h2 f M2
  have p3 : X12_thrown F 113 h2 = some (k, h2) := by rw [E_thrown M2, z1]
  refine ⟨h2, ?_, z3⟩
  unfold XL_law_L1973 XL_law_L2039 XL_law_L2045 XL_law_L2868
  simp only [e1, e2]
  simp (disch := first | assumption | omega) only [↓b_sc, ↓b_xb _ _ _ _ x, ↓b_xb _ _ _ _ y, ↓p1, ↓p2, ↓b_xb _ _ _ _ p3]
  rw [if_pos trivial]
  by_cases hk : k = 0
  · have hv := vb_far y
    have ev : (if v = 0 then (0 : Int) else 1) = v := by rcases hv with e | e <;> subst e <;> rfl
    rw [if_pos hk, b_126 _ _ L6, z2 hk, ev, if_pos (xc0 v)]
  · rw [if_neg hk]
theorem K_good (hF : 60000 ≤ F) (hsc : ∀ j, in32 (sc j)) (r : RA n h) (hn : n < 512) (h0 : 0 ≤ l4) (h6 : l4 + 6 ≤ sl) (hsl : sl ≤ 3072) (rc : Option Nat → Option Nat → Option Nat → Int → HP → Option (Int × HP)) : ∃ h2, XL_law_L2048 F sl sc rc (some 1) (some 113) (some 126) l4 h = rc (some 1) (some 113) (some 126) (w32 (l4 + 6)) h2 ∧ RA (n + 1) h2 := by
  have e1 : w32 (l4 + 1) = l4 + 1 := w32i _ (by omega) (by omega)
  have e2 : w32 (l4 + 2) = l4 + 2 := w32i _ (by omega) (by omega)
  have e3 : w32 (l4 + 3) = l4 + 3 := w32i _ (by omega) (by omega)
  have e4 : w32 (l4 + 4) = l4 + 4 := w32i _ (by omega) (by omega)
  have e5 : w32 (l4 + 5) = l4 + 5 := w32i _ (by omega) (by omega)
  obtain ⟨k, h1, h2, x, y, z1, z3⟩ := J_good (F := F) r (sc (l4 + 1).toNat) (sc (l4 + 2).toNat) (sc (l4 + 3).toNat) (sc (l4 + 4).toNat) (sc (l4 + 5).toNat) 
  have M1 : gS h1 113 = (12, 31) := by unfold X12_good at y; exact xp_shape y
  have M2 : LayM h2 := z3.2.2.1
  have L6 : gS h2 126 = (101, 1) := z3.2.2.2.2.2.1
  have L := r.1
  have p1 : ∀ f : Nat → Option (Int × HP), (xrc h1 (some 113) 12 31).bind f = f 113 := fun f => b_rc h1 113 12 31 f M1
  have p0 : ∀ f : Nat → Option (Int × HP), (xrc h (some 1) 11 6).bind f = f 1 := fun f => cR1 h f L
  have p2 : ∀ f : Nat → Option (Int × HP), (xrc h2 (some 113) 12 31).bind f = f 113 := fun f => mR113 h2 f M2
  have p3 : X12_thrown F 113 h2 = some (k, h2) := by rw [E_thrown M2, z1]
  refine ⟨h2, ?_, z3⟩
  unfold XL_law_L2048 XL_law_L2868
  simp only [e1, e2, e3, e4, e5]
  simp (disch := first | assumption | omega) only [↓b_sc, ↓b_xb _ _ _ _ x, ↓b_xb _ _ _ _ y, ↓p1, ↓p2, ↓b_xb _ _ _ _ p3]
  rw [if_pos trivial]
theorem K_fleet (hF : 60000 ≤ F) (hsc : ∀ j, in32 (sc j)) (r : RA n h) (hn : n < 512) (h0 : 0 ≤ l4) (h6 : l4 + 6 ≤ sl) (hsl : sl ≤ 3072) (rc : Option Nat → Option Nat → Option Nat → Int → HP → Option (Int × HP)) : ∃ h2, XL_law_L2132 F sl sc rc (some 1) (some 113) (some 126) l4 h = rc (some 1) (some 113) (some 126) (w32 (l4 + 6)) h2 ∧ RA (n + 1) h2 := by
  have e1 : w32 (l4 + 1) = l4 + 1 := w32i _ (by omega) (by omega)
  have e2 : w32 (l4 + 2) = l4 + 2 := w32i _ (by omega) (by omega)
  have e3 : w32 (l4 + 3) = l4 + 3 := w32i _ (by omega) (by omega)
  have e4 : w32 (l4 + 4) = l4 + 4 := w32i _ (by omega) (by omega)
  have e5 : w32 (l4 + 5) = l4 + 5 := w32i _ (by omega) (by omega)
  obtain ⟨k, h1, h2, x, y, z1, z3⟩ := J_fleet (F := F) r (sc (l4 + 1).toNat) (sc (l4 + 2).toNat) (sc (l4 + 3).toNat) (sc (l4 + 4).toNat) (sc (l4 + 5).toNat) 
  have M1 : gS h1 113 = (12, 31) := by unfold X12_fleet at y; exact xp_shape y
  have M2 : LayM h2 := z3.2.2.1
  have L6 : gS h2 126 = (101, 1) := z3.2.2.2.2.2.1
  have L := r.1
  have p1 : ∀ f : Nat → Option (Int × HP), (xrc h1 (some 113) 12 31).bind f = f 113 := fun f => b_rc h1 113 12 31 f M1
  have p0 : ∀ f : Nat → Option (Int × HP), (xrc h (some 1) 11 6).bind f = f 1 := fun f => cR1 h f L
  have p2 : ∀ f : Nat → Option (Int × HP), (xrc h2 (some 113) 12 31).bind f = f 113 := fun f => mR113 h2 f M2
  have p3 : X12_thrown F 113 h2 = some (k, h2) := by rw [E_thrown M2, z1]
  refine ⟨h2, ?_, z3⟩
  unfold XL_law_L2132 XL_law_L2868
  simp only [e1, e2, e3, e4, e5]
  simp (disch := first | assumption | omega) only [↓b_sc, ↓b_xb _ _ _ _ x, ↓b_xb _ _ _ _ y, ↓p1, ↓p2, ↓b_xb _ _ _ _ p3]
  rw [if_pos trivial]
theorem K_fill (hF : 60000 ≤ F) (hsc : ∀ j, in32 (sc j)) (r : RA n h) (hn : n < 512) (h0 : 0 ≤ l4) (h6 : l4 + 6 ≤ sl) (hsl : sl ≤ 3072) (rc : Option Nat → Option Nat → Option Nat → Int → HP → Option (Int × HP)) : ∃ h2, XL_law_L2216 F sl sc rc (some 1) (some 113) (some 126) l4 h = rc (some 1) (some 113) (some 126) (w32 (l4 + 6)) h2 ∧ RA (n + 1) h2 := by
  have e1 : w32 (l4 + 1) = l4 + 1 := w32i _ (by omega) (by omega)
  obtain ⟨v, h1, h2, x, y, z3⟩ := J_fill (F := F) (by omega) r (if sc (l4 + 1).toNat = 0 then 0 else 1) 
  have M1 : gS h1 113 = (12, 31) := by unfold X12_fill at y; exact xp_shape y
  have M2 : LayM h2 := z3.2.2.1
  have L6 : gS h2 126 = (101, 1) := z3.2.2.2.2.2.1
  have L := r.1
  have p1 : ∀ f : Nat → Option (Int × HP), (xrc h1 (some 113) 12 31).bind f = f 113 := fun f => b_rc h1 113 12 31 f M1
  have p0 : ∀ f : Nat → Option (Int × HP), (xrc h (some 1) 11 6).bind f = f 1 := fun f => cR1 h f L
  have p2 : ∀ f : Nat → Option (Int × HP), (xrc h2 (some 113) 12 31).bind f = f 113 := fun f => mR113 h2 f M2
  refine ⟨h2, ?_, z3⟩
  unfold XL_law_L2216 XL_law_L2231 XL_law_L2249 XL_law_L2868
  simp only [e1]
  simp (disch := first | assumption | omega) only [↓b_sc, ↓p0, ↓b_xb _ _ _ _ x, ↓b_xb _ _ _ _ y, ↓p1]
  rw [if_pos (xc0 v)]
theorem K_cost (hF : 60000 ≤ F) (hsc : ∀ j, in32 (sc j)) (r : RA n h) (hn : n < 512) (h0 : 0 ≤ l4) (h6 : l4 + 6 ≤ sl) (hsl : sl ≤ 3072) (rc : Option Nat → Option Nat → Option Nat → Int → HP → Option (Int × HP)) : ∃ h2, XL_law_L2258 F sl sc rc (some 1) (some 113) (some 126) l4 h = rc (some 1) (some 113) (some 126) (w32 (l4 + 6)) h2 ∧ RA (n + 1) h2 := by
  have e1 : w32 (l4 + 1) = l4 + 1 := w32i _ (by omega) (by omega)
  obtain ⟨k, h1, v, h2, x, y, z1, z2, z3⟩ := J_cost (F := F) (by omega) r (sc (l4 + 1).toNat) 
  have M1 : gS h1 113 = (12, 31) := by unfold X12_cost at y; exact xp_shape y
  have M2 : LayM h2 := z3.2.2.1
  have L6 : gS h2 126 = (101, 1) := z3.2.2.2.2.2.1
  have L := r.1
  have p1 : ∀ f : Nat → Option (Int × HP), (xrc h1 (some 113) 12 31).bind f = f 113 := fun f => b_rc h1 113 12 31 f M1
  have p0 : ∀ f : Nat → Option (Int × HP), (xrc h (some 1) 11 6).bind f = f 1 := fun f => cR1 h f L
  have p2 : ∀ f : Nat → Option (Int × HP), (xrc h2 (some 113) 12 31).bind f = f 113 := fun f => mR113 h2 f M2
  have p3 : X12_thrown F 113 h2 = some (k, h2) := by rw [E_thrown M2, z1]
  refine ⟨h2, ?_, z3⟩
  unfold XL_law_L2258 XL_law_L2310 XL_law_L2868
  simp only [e1]
  simp (disch := first | assumption | omega) only [↓b_sc, ↓b_xb _ _ _ _ x, ↓b_xb _ _ _ _ y, ↓p1, ↓p2, ↓b_xb _ _ _ _ p3]
  rw [if_pos trivial]
  by_cases hk : k = 0
  · rw [if_pos hk, b_126 _ _ L6, z2 hk, if_pos (xc0 v)]
  · rw [if_neg hk]
theorem K_worker (hF : 60000 ≤ F) (hsc : ∀ j, in32 (sc j)) (r : RA n h) (hn : n < 512) (h0 : 0 ≤ l4) (h6 : l4 + 6 ≤ sl) (hsl : sl ≤ 3072) (rc : Option Nat → Option Nat → Option Nat → Int → HP → Option (Int × HP)) : ∃ h2, XL_law_L2313 F sl sc rc (some 1) (some 113) (some 126) l4 h = rc (some 1) (some 113) (some 126) (w32 (l4 + 6)) h2 ∧ RA (n + 1) h2 := by
  have e1 : w32 (l4 + 1) = l4 + 1 := w32i _ (by omega) (by omega)
  have e2 : w32 (l4 + 2) = l4 + 2 := w32i _ (by omega) (by omega)
  obtain ⟨k, h1, v, h2, x, y, z1, z2, z3⟩ := J_worker (F := F) r (sc (l4 + 1).toNat) (sc (l4 + 2).toNat) 
  have M1 : gS h1 113 = (12, 31) := by unfold X12_worker at y; exact xp_shape y
  have M2 : LayM h2 := z3.2.2.1
  have L6 : gS h2 126 = (101, 1) := z3.2.2.2.2.2.1
  have L := r.1
  have p1 : ∀ f : Nat → Option (Int × HP), (xrc h1 (some 113) 12 31).bind f = f 113 := fun f => b_rc h1 113 12 31 f M1
  have p0 : ∀ f : Nat → Option (Int × HP), (xrc h (some 1) 11 6).bind f = f 1 := fun f => cR1 h f L
  have p2 : ∀ f : Nat → Option (Int × HP), (xrc h2 (some 113) 12 31).bind f = f 113 := fun f => mR113 h2 f M2
  have p3 : X12_thrown F 113 h2 = some (k, h2) := by rw [E_thrown M2, z1]
  refine ⟨h2, ?_, z3⟩
  unfold XL_law_L2313 XL_law_L2378 XL_law_L2868
  simp only [e1, e2]
  simp (disch := first | assumption | omega) only [↓b_sc, ↓b_xb _ _ _ _ x, ↓b_xb _ _ _ _ y, ↓p1, ↓p2, ↓b_xb _ _ _ _ p3]
  rw [if_pos trivial]
  by_cases hk : k = 0
  · rw [if_pos hk, b_126 _ _ L6, z2 hk, if_pos (xc0 v)]
  · rw [if_neg hk]
theorem K_alter (hF : 60000 ≤ F) (hsc : ∀ j, in32 (sc j)) (r : RA n h) (hn : n < 512) (h0 : 0 ≤ l4) (h6 : l4 + 6 ≤ sl) (hsl : sl ≤ 3072) (rc : Option Nat → Option Nat → Option Nat → Int → HP → Option (Int × HP)) : ∃ h2, XL_law_L2381 F sl sc rc (some 1) (some 113) (some 126) l4 h = rc (some 1) (some 113) (some 126) (w32 (l4 + 6)) h2 ∧ RA (n + 1) h2 := by
  have e1 : w32 (l4 + 1) = l4 + 1 := w32i _ (by omega) (by omega)
  have e2 : w32 (l4 + 2) = l4 + 2 := w32i _ (by omega) (by omega)
  have e3 : w32 (l4 + 3) = l4 + 3 := w32i _ (by omega) (by omega)
  obtain ⟨k, h1, v, h2, x, y, z1, z2, z3⟩ := J_alter (F := F) r (sc (l4 + 1).toNat) (sc (l4 + 2).toNat) (sc (l4 + 3).toNat) 
  have M1 : gS h1 113 = (12, 31) := by unfold X12_alter at y; exact xp_shape y
  have M2 : LayM h2 := z3.2.2.1
  have L6 : gS h2 126 = (101, 1) := z3.2.2.2.2.2.1
  have L := r.1
  have p1 : ∀ f : Nat → Option (Int × HP), (xrc h1 (some 113) 12 31).bind f = f 113 := fun f => b_rc h1 113 12 31 f M1
  have p0 : ∀ f : Nat → Option (Int × HP), (xrc h (some 1) 11 6).bind f = f 1 := fun f => cR1 h f L
  have p2 : ∀ f : Nat → Option (Int × HP), (xrc h2 (some 113) 12 31).bind f = f 113 := fun f => mR113 h2 f M2
  have p3 : X12_thrown F 113 h2 = some (k, h2) := by rw [E_thrown M2, z1]
  refine ⟨h2, ?_, z3⟩
  unfold XL_law_L2381 XL_law_L2459 XL_law_L2465 XL_law_L2868
  simp only [e1, e2, e3]
  simp (disch := first | assumption | omega) only [↓b_sc, ↓b_xb _ _ _ _ x, ↓b_xb _ _ _ _ y, ↓p1, ↓p2, ↓b_xb _ _ _ _ p3]
  rw [if_pos trivial]
  by_cases hk : k = 0
  · have hv := vb_alter y
    have ev : (if v = 0 then (0 : Int) else 1) = v := by rcases hv with e | e <;> subst e <;> rfl
    rw [if_pos hk, b_126 _ _ L6, z2 hk, ev, if_pos (xc0 v)]
  · rw [if_neg hk]
theorem K_pay (hF : 60000 ≤ F) (hsc : ∀ j, in32 (sc j)) (r : RA n h) (hn : n < 512) (h0 : 0 ≤ l4) (h6 : l4 + 6 ≤ sl) (hsl : sl ≤ 3072) (rc : Option Nat → Option Nat → Option Nat → Int → HP → Option (Int × HP)) : ∃ h2, XL_law_L2468 F sl sc rc (some 1) (some 113) (some 126) l4 h = rc (some 1) (some 113) (some 126) (w32 (l4 + 6)) h2 ∧ RA (n + 1) h2 := by
  have e1 : w32 (l4 + 1) = l4 + 1 := w32i _ (by omega) (by omega)
  have e2 : w32 (l4 + 2) = l4 + 2 := w32i _ (by omega) (by omega)
  obtain ⟨k, h1, v, h2, x, y, z1, z2, z3⟩ := J_pay (F := F) r (sc (l4 + 1).toNat) (sc (l4 + 2).toNat) 
  have M1 : gS h1 113 = (12, 31) := by unfold X12_pay at y; exact xp_shape y
  have M2 : LayM h2 := z3.2.2.1
  have L6 : gS h2 126 = (101, 1) := z3.2.2.2.2.2.1
  have L := r.1
  have p1 : ∀ f : Nat → Option (Int × HP), (xrc h1 (some 113) 12 31).bind f = f 113 := fun f => b_rc h1 113 12 31 f M1
  have p0 : ∀ f : Nat → Option (Int × HP), (xrc h (some 1) 11 6).bind f = f 1 := fun f => cR1 h f L
  have p2 : ∀ f : Nat → Option (Int × HP), (xrc h2 (some 113) 12 31).bind f = f 113 := fun f => mR113 h2 f M2
  have p3 : X12_thrown F 113 h2 = some (k, h2) := by rw [E_thrown M2, z1]
  refine ⟨h2, ?_, z3⟩
  unfold XL_law_L2468 XL_law_L2533 XL_law_L2868
  simp only [e1, e2]
  simp (disch := first | assumption | omega) only [↓b_sc, ↓b_xb _ _ _ _ x, ↓b_xb _ _ _ _ y, ↓p1, ↓p2, ↓b_xb _ _ _ _ p3]
  rw [if_pos trivial]
  by_cases hk : k = 0
  · rw [if_pos hk, b_126 _ _ L6, z2 hk, if_pos (xc0 v)]
  · rw [if_neg hk]
theorem K_wages (hF : 60000 ≤ F) (hsc : ∀ j, in32 (sc j)) (r : RA n h) (hn : n < 512) (h0 : 0 ≤ l4) (h6 : l4 + 6 ≤ sl) (hsl : sl ≤ 3072) (rc : Option Nat → Option Nat → Option Nat → Int → HP → Option (Int × HP)) : ∃ h2, XL_law_L2536 F sl sc rc (some 1) (some 113) (some 126) l4 h = rc (some 1) (some 113) (some 126) (w32 (l4 + 6)) h2 ∧ RA (n + 1) h2 := by
  obtain ⟨v, h1, h2, x, y, z3⟩ := J_wages (F := F) (by omega) r  
  have M1 : gS h1 113 = (12, 31) := by unfold X12_wages at y; exact xp_shape y
  have M2 : LayM h2 := z3.2.2.1
  have L6 : gS h2 126 = (101, 1) := z3.2.2.2.2.2.1
  have L := r.1
  have p1 : ∀ f : Nat → Option (Int × HP), (xrc h1 (some 113) 12 31).bind f = f 113 := fun f => b_rc h1 113 12 31 f M1
  have p0 : ∀ f : Nat → Option (Int × HP), (xrc h (some 1) 11 6).bind f = f 1 := fun f => cR1 h f L
  have p2 : ∀ f : Nat → Option (Int × HP), (xrc h2 (some 113) 12 31).bind f = f 113 := fun f => mR113 h2 f M2
  refine ⟨h2, ?_, z3⟩
  unfold XL_law_L2536 XL_law_L2868
  simp (disch := first | assumption | omega) only [↓b_sc, ↓p0, ↓b_xb _ _ _ _ x, ↓b_xb _ _ _ _ y, ↓p1]
  rw [if_pos trivial]
theorem K_plan (hF : 60000 ≤ F) (hsc : ∀ j, in32 (sc j)) (r : RA n h) (hn : n < 512) (h0 : 0 ≤ l4) (h6 : l4 + 6 ≤ sl) (hsl : sl ≤ 3072) (rc : Option Nat → Option Nat → Option Nat → Int → HP → Option (Int × HP)) : ∃ h2, XL_law_L2549 F sl sc rc (some 1) (some 113) (some 126) l4 h = rc (some 1) (some 113) (some 126) (w32 (l4 + 6)) h2 ∧ RA (n + 1) h2 := by
  have e1 : w32 (l4 + 1) = l4 + 1 := w32i _ (by omega) (by omega)
  have e2 : w32 (l4 + 2) = l4 + 2 := w32i _ (by omega) (by omega)
  obtain ⟨k, h1, v, h2, x, y, z1, z2, z3⟩ := J_plan (F := F) (by omega) r (sc (l4 + 1).toNat) (sc (l4 + 2).toNat) 
  have M1 : gS h1 113 = (12, 31) := by unfold X12_plan at y; exact xp_shape y
  have M2 : LayM h2 := z3.2.2.1
  have L6 : gS h2 126 = (101, 1) := z3.2.2.2.2.2.1
  have L := r.1
  have p1 : ∀ f : Nat → Option (Int × HP), (xrc h1 (some 113) 12 31).bind f = f 113 := fun f => b_rc h1 113 12 31 f M1
  have p0 : ∀ f : Nat → Option (Int × HP), (xrc h (some 1) 11 6).bind f = f 1 := fun f => cR1 h f L
  have p2 : ∀ f : Nat → Option (Int × HP), (xrc h2 (some 113) 12 31).bind f = f 113 := fun f => mR113 h2 f M2
  have p3 : X12_thrown F 113 h2 = some (k, h2) := by rw [E_thrown M2, z1]
  refine ⟨h2, ?_, z3⟩
  unfold XL_law_L2549 XL_law_L2614 XL_law_L2868
  simp only [e1, e2]
  simp (disch := first | assumption | omega) only [↓b_sc, ↓b_xb _ _ _ _ x, ↓b_xb _ _ _ _ y, ↓p1, ↓p2, ↓b_xb _ _ _ _ p3]
  rw [if_pos trivial]
  by_cases hk : k = 0
  · rw [if_pos hk, b_126 _ _ L6, z2 hk, if_pos (xc0 v)]
  · rw [if_neg hk]
theorem K_which (hF : 60000 ≤ F) (hsc : ∀ j, in32 (sc j)) (r : RA n h) (hn : n < 512) (h0 : 0 ≤ l4) (h6 : l4 + 6 ≤ sl) (hsl : sl ≤ 3072) (rc : Option Nat → Option Nat → Option Nat → Int → HP → Option (Int × HP)) : ∃ h2, XL_law_L2617 F sl sc rc (some 1) (some 113) (some 126) l4 h = rc (some 1) (some 113) (some 126) (w32 (l4 + 6)) h2 ∧ RA (n + 1) h2 := by
  have e1 : w32 (l4 + 1) = l4 + 1 := w32i _ (by omega) (by omega)
  have e2 : w32 (l4 + 2) = l4 + 2 := w32i _ (by omega) (by omega)
  have e3 : w32 (l4 + 3) = l4 + 3 := w32i _ (by omega) (by omega)
  obtain ⟨k, h1, v, h2, x, y, z1, z2, z3⟩ := J_which (F := F) (by omega) r (sc (l4 + 1).toNat) (sc (l4 + 2).toNat) (sc (l4 + 3).toNat) 
  have M1 : gS h1 113 = (12, 31) := by unfold X12_which at y; exact xp_shape y
  have M2 : LayM h2 := z3.2.2.1
  have L6 : gS h2 126 = (101, 1) := z3.2.2.2.2.2.1
  have L := r.1
  have p1 : ∀ f : Nat → Option (Int × HP), (xrc h1 (some 113) 12 31).bind f = f 113 := fun f => b_rc h1 113 12 31 f M1
  have p0 : ∀ f : Nat → Option (Int × HP), (xrc h (some 1) 11 6).bind f = f 1 := fun f => cR1 h f L
  have p2 : ∀ f : Nat → Option (Int × HP), (xrc h2 (some 113) 12 31).bind f = f 113 := fun f => mR113 h2 f M2
  have p3 : X12_thrown F 113 h2 = some (k, h2) := by rw [E_thrown M2, z1]
  refine ⟨h2, ?_, z3⟩
  unfold XL_law_L2617 XL_law_L2694 XL_law_L2868
  simp only [e1, e2, e3]
  simp (disch := first | assumption | omega) only [↓b_sc, ↓b_xb _ _ _ _ x, ↓b_xb _ _ _ _ y, ↓p1, ↓p2, ↓b_xb _ _ _ _ p3]
  rw [if_pos trivial]
  by_cases hk : k = 0
  · rw [if_pos hk, b_126 _ _ L6, z2 hk, if_pos (xc0 v)]
  · rw [if_neg hk]
theorem K_beside (hF : 60000 ≤ F) (hsc : ∀ j, in32 (sc j)) (r : RA n h) (hn : n < 512) (h0 : 0 ≤ l4) (h6 : l4 + 6 ≤ sl) (hsl : sl ≤ 3072) (rc : Option Nat → Option Nat → Option Nat → Int → HP → Option (Int × HP)) : ∃ h2, XL_law_L2697 F sl sc rc (some 1) (some 113) (some 126) l4 h = rc (some 1) (some 113) (some 126) (w32 (l4 + 6)) h2 ∧ RA (n + 1) h2 := by
  have e1 : w32 (l4 + 1) = l4 + 1 := w32i _ (by omega) (by omega)
  obtain ⟨v, h1, h2, x, y, z3⟩ := J_beside (F := F) (by omega) r (if sc (l4 + 1).toNat = 0 then 0 else 1) 
  have M1 : gS h1 113 = (12, 31) := by unfold X12_beside at y; exact xp_shape y
  have M2 : LayM h2 := z3.2.2.1
  have L6 : gS h2 126 = (101, 1) := z3.2.2.2.2.2.1
  have L := r.1
  have p1 : ∀ f : Nat → Option (Int × HP), (xrc h1 (some 113) 12 31).bind f = f 113 := fun f => b_rc h1 113 12 31 f M1
  have p0 : ∀ f : Nat → Option (Int × HP), (xrc h (some 1) 11 6).bind f = f 1 := fun f => cR1 h f L
  have p2 : ∀ f : Nat → Option (Int × HP), (xrc h2 (some 113) 12 31).bind f = f 113 := fun f => mR113 h2 f M2
  refine ⟨h2, ?_, z3⟩
  unfold XL_law_L2697 XL_law_L2712 XL_law_L2730 XL_law_L2868
  simp only [e1]
  simp (disch := first | assumption | omega) only [↓b_sc, ↓p0, ↓b_xb _ _ _ _ x, ↓b_xb _ _ _ _ y, ↓p1]
  rw [if_pos trivial]
theorem K_tear (hF : 60000 ≤ F) (hsc : ∀ j, in32 (sc j)) (r : RA n h) (hn : n < 512) (h0 : 0 ≤ l4) (h6 : l4 + 6 ≤ sl) (hsl : sl ≤ 3072) (rc : Option Nat → Option Nat → Option Nat → Int → HP → Option (Int × HP)) : ∃ h2, XL_law_L2738 F sl sc rc (some 1) (some 113) (some 126) l4 h = rc (some 1) (some 113) (some 126) (w32 (l4 + 6)) h2 ∧ RA (n + 1) h2 := by
  have e1 : w32 (l4 + 1) = l4 + 1 := w32i _ (by omega) (by omega)
  have e2 : w32 (l4 + 2) = l4 + 2 := w32i _ (by omega) (by omega)
  obtain ⟨k, h1, v, h2, x, y, z1, z2, z3⟩ := J_tear (F := F) r (sc (l4 + 1).toNat) (sc (l4 + 2).toNat) 
  have M1 : gS h1 113 = (12, 31) := by unfold X12_tear at y; exact xp_shape y
  have M2 : LayM h2 := z3.2.2.1
  have L6 : gS h2 126 = (101, 1) := z3.2.2.2.2.2.1
  have L := r.1
  have p1 : ∀ f : Nat → Option (Int × HP), (xrc h1 (some 113) 12 31).bind f = f 113 := fun f => b_rc h1 113 12 31 f M1
  have p0 : ∀ f : Nat → Option (Int × HP), (xrc h (some 1) 11 6).bind f = f 1 := fun f => cR1 h f L
  have p2 : ∀ f : Nat → Option (Int × HP), (xrc h2 (some 113) 12 31).bind f = f 113 := fun f => mR113 h2 f M2
  have p3 : X12_thrown F 113 h2 = some (k, h2) := by rw [E_thrown M2, z1]
  refine ⟨h2, ?_, z3⟩
  unfold XL_law_L2738 XL_law_L2803 XL_law_L2868
  simp only [e1, e2]
  simp (disch := first | assumption | omega) only [↓b_sc, ↓b_xb _ _ _ _ x, ↓b_xb _ _ _ _ y, ↓p1, ↓p2, ↓b_xb _ _ _ _ p3]
  rw [if_pos trivial]
  by_cases hk : k = 0
  · rw [if_pos hk, b_126 _ _ L6, z2 hk, if_pos (xc0 v)]
  · rw [if_neg hk]
theorem K_check (hF : 60000 ≤ F) (hsc : ∀ j, in32 (sc j)) (r : RA n h) (hn : n < 512) (h0 : 0 ≤ l4) (h6 : l4 + 6 ≤ sl) (hsl : sl ≤ 3072) (rc : Option Nat → Option Nat → Option Nat → Int → HP → Option (Int × HP)) : ∃ h2, XL_law_L2806 F sl sc rc (some 1) (some 113) (some 126) l4 h = rc (some 1) (some 113) (some 126) (w32 (l4 + 6)) h2 ∧ RA (n + 1) h2 := by
  obtain ⟨v, h2, x, y, z3⟩ := J_check (F := F) (by omega) r  
  have M1 : gS h 113 = (12, 31) := by unfold X12_check at y; exact xp_shape y
  have M2 : LayM h2 := z3.2.2.1
  have L6 : gS h2 126 = (101, 1) := z3.2.2.2.2.2.1
  have L := r.1
  have p1 : ∀ f : Nat → Option (Int × HP), (xrc h (some 113) 12 31).bind f = f 113 := fun f => b_rc h 113 12 31 f M1
  have p0 : ∀ f : Nat → Option (Int × HP), (xrc h (some 1) 11 6).bind f = f 1 := fun f => cR1 h f L
  have p2 : ∀ f : Nat → Option (Int × HP), (xrc h2 (some 113) 12 31).bind f = f 113 := fun f => mR113 h2 f M2
  refine ⟨h2, ?_, z3⟩
  unfold XL_law_L2806 XL_law_L2868
  simp (disch := first | assumption | omega) only [↓b_sc, ↓p0, ↓b_xb _ _ _ _ x, ↓b_xb _ _ _ _ y, ↓p1]
  rw [if_pos trivial]
theorem K_image (hF : 60000 ≤ F) (hsc : ∀ j, in32 (sc j)) (r : RA n h) (hn : n < 512) (h0 : 0 ≤ l4) (h6 : l4 + 6 ≤ sl) (hsl : sl ≤ 3072) (rc : Option Nat → Option Nat → Option Nat → Int → HP → Option (Int × HP)) : ∃ h2, XL_law_L2819 F sl sc rc (some 1) (some 113) (some 126) l4 h = rc (some 1) (some 113) (some 126) (w32 (l4 + 6)) h2 ∧ RA (n + 1) h2 := by
  obtain ⟨h1, h2, x, y, z3⟩ := J_image (F := F) (by omega) r  
  have M1 : gS h1 113 = (12, 31) := by unfold X12_image at y; exact xp_shape y
  have M2 : LayM h2 := z3.2.2.1
  have L6 : gS h2 126 = (101, 1) := z3.2.2.2.2.2.1
  have L := r.1
  have p1 : ∀ f : Nat → Option (Int × HP), (xrc h1 (some 113) 12 31).bind f = f 113 := fun f => b_rc h1 113 12 31 f M1
  have p0 : ∀ f : Nat → Option (Int × HP), (xrc h (some 1) 11 6).bind f = f 1 := fun f => cR1 h f L
  have p2 : ∀ f : Nat → Option (Int × HP), (xrc h2 (some 113) 12 31).bind f = f 113 := fun f => mR113 h2 f M2
  refine ⟨h2, ?_, z3⟩
  unfold XL_law_L2819 XL_law_L2868
  simp (disch := first | assumption | omega) only [↓b_sc, ↓p0, ↓b_xb _ _ _ _ x, ↓b_xb _ _ _ _ y, ↓p1]
theorem K_back (hF : 60000 ≤ F) (hsc : ∀ j, in32 (sc j)) (r : RA n h) (hn : n < 512) (h0 : 0 ≤ l4) (h6 : l4 + 6 ≤ sl) (hsl : sl ≤ 3072) (rc : Option Nat → Option Nat → Option Nat → Int → HP → Option (Int × HP)) : ∃ h2, XL_law_L2830 F sl sc rc (some 1) (some 113) (some 126) l4 h = rc (some 1) (some 113) (some 126) (w32 (l4 + 6)) h2 ∧ RA (n + 1) h2 := by
  obtain ⟨v, h1, h2, x, y, z3⟩ := J_back (F := F) (by omega) r  
  have M1 : gS h1 113 = (12, 31) := by unfold X12_back at y; exact xp_shape y
  have M2 : LayM h2 := z3.2.2.1
  have L6 : gS h2 126 = (101, 1) := z3.2.2.2.2.2.1
  have L := r.1
  have p1 : ∀ f : Nat → Option (Int × HP), (xrc h1 (some 113) 12 31).bind f = f 113 := fun f => b_rc h1 113 12 31 f M1
  have p0 : ∀ f : Nat → Option (Int × HP), (xrc h (some 1) 11 6).bind f = f 1 := fun f => cR1 h f L
  have p2 : ∀ f : Nat → Option (Int × HP), (xrc h2 (some 113) 12 31).bind f = f 113 := fun f => mR113 h2 f M2
  refine ⟨h2, ?_, z3⟩
  unfold XL_law_L2830 XL_law_L2868
  simp (disch := first | assumption | omega) only [↓b_sc, ↓p0, ↓b_xb _ _ _ _ x, ↓b_xb _ _ _ _ y, ↓p1]
  rw [if_pos trivial]
theorem K_count (hF : 60000 ≤ F) (hsc : ∀ j, in32 (sc j)) (r : RA n h) (hn : n < 512) (h0 : 0 ≤ l4) (h6 : l4 + 6 ≤ sl) (hsl : sl ≤ 3072) (rc : Option Nat → Option Nat → Option Nat → Int → HP → Option (Int × HP)) : ∃ h2, XL_law_L2843 F sl sc rc (some 1) (some 113) (some 126) l4 h = rc (some 1) (some 113) (some 126) (w32 (l4 + 6)) h2 ∧ RA (n + 1) h2 := by
  have e1 : w32 (l4 + 1) = l4 + 1 := w32i _ (by omega) (by omega)
  obtain ⟨v, h2, x, y, z3⟩ := J_count (F := F) (by omega) r (sc (l4 + 1).toNat) 
  have M1 : gS h 113 = (12, 31) := by unfold X12_count at y; exact xp_shape y
  have M2 : LayM h2 := z3.2.2.1
  have L6 : gS h2 126 = (101, 1) := z3.2.2.2.2.2.1
  have L := r.1
  have p1 : ∀ f : Nat → Option (Int × HP), (xrc h (some 113) 12 31).bind f = f 113 := fun f => b_rc h 113 12 31 f M1
  have p0 : ∀ f : Nat → Option (Int × HP), (xrc h (some 1) 11 6).bind f = f 1 := fun f => cR1 h f L
  have p2 : ∀ f : Nat → Option (Int × HP), (xrc h2 (some 113) 12 31).bind f = f 113 := fun f => mR113 h2 f M2
  refine ⟨h2, ?_, z3⟩
  unfold XL_law_L2843 XL_law_L2868
  simp only [e1]
  simp (disch := first | assumption | omega) only [↓b_sc, ↓p0, ↓b_xb _ _ _ _ x, ↓b_xb _ _ _ _ y, ↓p1]
  rw [if_pos trivial]
end KK
