/-! a line: what it does to the words; in the class -/
def puL (W : Int → Int) (w v : Int) (j : Nat) (fi how : Int) : Bool × (Int → Int) := if inb v then (true, wrW W w (spW W w v how) j fi how) else (false, W)
def linL (j : Nat) (fi how : Int) (W : Int → Int) (l : Lin) : Bool × (Int → Int) :=
  if l.1 = 0 then (match setN W l.2.1 l.2.2.2.2.1 l.2.2.1.toNat (W (9 + l.2.1)) with | none => (false, W) | some u => (true, wrW W l.2.1 (spW W l.2.1 u how) j fi how))
  else if l.1 = 1 then puL W l.2.1 (totN W (l.2.2.2.1 + 1 - l.2.2.1).toNat l.2.2.1 0) j fi how
  else if l.1 = 2 then puL W l.2.1 (rndV (W (9 + l.2.1)) l.2.2.1) j fi how
  else if linV (envM W) l = 1 then (if l.1 = 4 then (false, W) else (true, wW W (169 + 882 * (j : Int) + 6) (w32 (W (169 + 882 * (j : Int) + 15) + 1))))
  else (true, W)
theorem setN_in {W : Int → Int} {w : Int} {s : List Prt} : ∀ (m : Nat) (v u : Int), 0 < m → setN W w s m v = some u → inb u := by
  intro m
  induction m with
  | zero => intro v u h; omega
  | succ m ih =>
    intro v u _ e
    unfold setN at e
    by_cases c : inb (suV (envM (wW W w v)) s 0)
    · rw [if_pos c] at e
      cases m with
      | zero => cases e; exact c
      | succ m => exact ih _ u (by omega) e
    · rw [if_neg c] at e; cases e
def XC : Nat → Bool := fun a => decide (a = 10 ∨ a = 11 ∨ a = 12 ∨ a = 16 ∨ a = 17 ∨ a = 18)
theorem Ox.mo {X Y : Nat → Bool} {h h' : HP} (o : Ox X h h') (q : ∀ a, Y a = false → X a = false) : Ox Y h h' := ⟨fun a p => o.1 a (q a p), o.2⟩
theorem X10_XC (a : Nat) (p : XC a = false) : X10 a = false := by
  unfold XC at p
  have := of_decide_eq_false p
  unfold X10
  exact beq_eq_false_iff_ne.mpr (by omega)
theorem Ox.Hwr (h : HP) (w v : Int) : Ox XC h (Hwr h w v) := by
  unfold Jvm.Pilot.CTeaNightLaw_law_r3420_ab20a1.Hwr
  exact ((((((Ox.A _ 12 _ _ rfl).tr (Ox.A _ 16 _ _ rfl)).tr (Ox.A _ 17 _ _ rfl)).tr (Ox.A _ 18 _ _ rfl)).tr (Ox.I _ 11 7 _ rfl)).tr (Ox.I _ 11 9 _ rfl))
theorem Ox.N10 {h h' : HP} (o : Ox X10 h h') : SmN h h' 0 0 := by
  have z : ∀ a, a ≠ 10 → X10 a = false := fun a q => by unfold X10; exact beq_eq_false_iff_ne.mpr q
  refine ⟨fun a k h1 h2 p _ => ?_, fun j _ => by rw [o.2.1], fun t h1 h2 => ?_, by rw [o.2.2.2.1]; exact Nat.le_refl _⟩
  · by_cases e : a = 10
    · subst e; cases p
    · show gI h' a k = gI h a k
      rw [(o.1 a (z a e)).1]
  · rw [(o.1 t (z t (by omega))).1, (o.1 t (z t (by omega))).2, o.2.1, o.2.2.1]
    exact ⟨rfl, rfl, rfl, rfl⟩
theorem DoS.x10 {g g' : HP} {c : List Int} {W : Int → Int} {j : Nat} {fi how a0 : Int} (d : DoS g c W j fi how a0) (o : Ox X10 g g') (k : ∀ x, x ≠ 2 → x ≠ 5 → gI g' 10 x = gI g 10 x) (e5 : gI g' 10 5 = -1) : DoS g' c W j fi how a0 := by
  obtain ⟨⟨L, ⟨t, q, n, t1, t2, t3, t4, t5, t6, t7, t8, t9⟩, c1, c2, c3, c4, c5, c6⟩, d2, d3, d4, d5, d6⟩ := d
  have z : ∀ a, a ≠ 10 → X10 a = false := fun a q => by unfold X10; exact beq_eq_false_iff_ne.mpr q
  have gi : ∀ a, a ≠ 10 → gI g' a = gI g a := fun a q => (o.1 a (z a q)).1
  have ai : ∀ a, a ≠ 10 → aI g' a = aI g a := fun a q => o.i a (z a q)
  refine ⟨⟨o.C L, ⟨t, q, n, t1, t2, by rw [o.2.1]; exact t3, by rw [o.2.2.1]; exact t4, by rw [o.2.1]; exact t5, by rw [o.2.2.1]; exact t6, t7, t8, fun i z e => by rw [ai q (by omega)]; exact t9 i z e⟩, e5, fun x => absurd x (by decide), fun i h1 h2 h3 => by rw [ai 12 (by decide)]; exact c3 i h1 h2 h3, fun i h1 h2 => by rw [ai 13 (by decide)]; exact c4 i h1 h2, by rw [k 3 (by decide) (by decide)]; exact c5, by rw [k 4 (by decide) (by decide)]; exact c6⟩, d2.cg o.N10 (fun i _ _ => rfl), by rw [gi 11 (by decide)]; exact d3, by rw [k 7 (by decide) (by decide)]; exact d4, d5, d6⟩
theorem DoS.at {g : HP} {c : List Int} {W : Int → Int} {j : Nat} {fi how a0 : Int} (d : DoS g c W j fi how a0) (v : Int) : DoS (sI g 10 2 v) c W j fi how a0 := d.x10 (Ox.I g 10 2 v rfl) (fun x h1 _ => gI_sIk _ _ _ _ _ h1) (by rw [gI_sIk _ _ _ _ _ (by decide)]; exact d.1.2.2.1)
theorem sI_id (h : HP) (a k : Nat) (v : Int) (e : gI h a k = v) : sI h a k v = h := by
  show (upd2 h.1 a k v, h.2) = (h.1, h.2)
  congr 1
  funext x y
  unfold upd2
  split
  · rename_i q; rw [q.1, q.2]; exact e.symm
  · rfl
theorem DoS.okWT {g : HP} {c : List Int} {W : Int → Int} {j : Nat} {fi how a0 : Int} (d : DoS g c W j fi how a0) : okWT W := by
  obtain ⟨e1, e2, e3, -⟩ := d.rn
  exact ⟨fun i h0 h1 => (e1 i h0 h1).2.2, e3.2.2.1, e3.2.2.2.1, e3.2.2.2.2.1, e3.2.2.2.2.2.1⟩
section LC
variable {F : Nat} {W : Int → Int} {c : List Int} {j : Nat} {fi how a0 : Int}
theorem E_putS {g : HP} (d : DoS g c W j fi how a0) (w v : Int) (hw : 0 ≤ w ∧ w < 64) (hr : W 11356 < 5120) (hh : 0 ≤ how ∧ how < 4) : ∃ g', X1_put F 10 w v g = some (if (puL W w v j fi how).1 then 1 else 0, g') ∧ DoS g' c (puL W w v j fi how).2 j fi how a0 ∧ gI g' 10 2 = gI g 10 2 ∧ Ox XC g g' := by
  obtain ⟨e1, e2, e3, e4, e5, e6, hj⟩ := d.rn
  have x := E_putC (F := F) (W := W) (how := how) j 0 (how / 2 % 2) (if fi = W 11356 then 1 else 0) w v d.1.1 e2 rfl hw (by rw [e6]; omega) d.2.2.1 (by omega) ⟨e3.1, e3.2.1⟩ (by omega) (by split <;> omega)
  unfold puL
  by_cases b : inb v
  · rw [if_pos b] at x ⊢
    obtain ⟨y1, y2⟩ := d.write w (spW W w v how) hw (spW_in b) hr hh
    exact ⟨_, x, y1, y2, Ox.Hwr _ _ _⟩
  · rw [if_neg b] at x ⊢
    exact ⟨g, x, d, rfl, Ox.rf _ _⟩
end LC
