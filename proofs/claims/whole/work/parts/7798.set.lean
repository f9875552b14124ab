/-! a line that sets a word: pass by pass, the word carried -/
/-- heaps that differ in the objects of X only -/
def Ox (X : Nat → Bool) (h h' : HP) : Prop := (∀ a, X a = false → gI h' a = gI h a ∧ gJ h' a = gJ h a) ∧ gP h' = gP h ∧ gS h' = gS h ∧ gn h' = gn h ∧ gc h' = gc h ∧ gs h' = gs h
theorem Ox.rf (X : Nat → Bool) (h : HP) : Ox X h h := ⟨fun _ _ => ⟨rfl, rfl⟩, rfl, rfl, rfl, rfl, rfl⟩
theorem Ox.tr {X : Nat → Bool} {a b c : HP} (x : Ox X a b) (y : Ox X b c) : Ox X a c := by
  obtain ⟨x1, x3, x4, x5, x6, x7⟩ := x
  obtain ⟨y1, y3, y4, y5, y6, y7⟩ := y
  exact ⟨fun a q => ⟨(y1 a q).1.trans (x1 a q).1, (y1 a q).2.trans (x1 a q).2⟩, y3.trans x3, y4.trans x4, y5.trans x5, y6.trans x6, y7.trans x7⟩
theorem Ox.I {X : Nat → Bool} (h : HP) (a k : Nat) (v : Int) (q : X a = true) : Ox X h (sI h a k v) := ⟨fun b p => ⟨gI_sIn h a k v b (fun e => by rw [e, q] at p; cases p), rfl⟩, rfl, rfl, rfl, rfl, rfl⟩
theorem Ox.J {X : Nat → Bool} (h : HP) (a k : Nat) (v : Int) (q : X a = true) : Ox X h (sJ h a k v) := ⟨fun b p => ⟨rfl, gJ_sJn h a k v b (fun e => by rw [e, q] at p; cases p)⟩, rfl, rfl, rfl, rfl, rfl⟩
theorem Ox.C {X : Nat → Bool} {h h' : HP} (o : Ox X h h') (L : LayC h) : LayC h' := L.of o.2.2.1 o.2.1
theorem Ox.M {X : Nat → Bool} {h h' : HP} (o : Ox X h h') (L : LayM h) : LayM h' := L.of o.2.2.1 o.2.1
theorem Ox.i {X : Nat → Bool} {h h' : HP} (o : Ox X h h') (a : Nat) (q : X a = false) : aI h' a = aI h a := by funext i; show gI h' a _ = gI h a _; rw [(o.1 a q).1]
def X10 : Nat → Bool := fun a => a == 10
/-- the words with w carried at v -/
def wW (W : Int → Int) (w v : Int) : Int → Int := fun i => if i = 9 + w then v else W i
theorem wW_id (W : Int → Int) (w : Int) : wW W w (W (9 + w)) = W := by
  funext i
  unfold wW
  split
  · rename_i e; rw [e]
  · rfl
theorem wW_n {W : Int → Int} {w v : Int} (i : Int) (q : i ≠ 9 + w) : wW W w v i = W i := by unfold wW; rw [if_neg q]
theorem wW_e {W : Int → Int} {w v : Int} : wW W w v (9 + w) = v := by unfold wW; rw [if_pos rfl]
/-- so many passes -/
def setN (W : Int → Int) (w : Int) (s : List Prt) : Nat → Int → Option Int
  | 0, v => some v
  | n + 1, v => if inb (suV (envM (wW W w v)) s 0) then setN W w s n (suV (envM (wW W w v)) s 0) else none
def okWT (W : Int → Int) : Prop := (∀ i : Int, 0 ≤ i → i < 64 → in32 (W (9 + i)) ∧ in32 (W (73 + i))) ∧ (0 ≤ W 1 ∧ W 1 ≤ 6 ∧ 0 ≤ W 2 ∧ W 2 ≤ 9)
theorem okWT.w {W : Int → Int} {w v : Int} (o : okWT W) (hw : 0 ≤ w ∧ w < 64) (hv : in32 v) : okWT (wW W w v) := by
  refine ⟨fun i h0 h1 => ?_, ?_⟩
  · rw [wW_n (73 + i) (by omega)]
    refine ⟨?_, (o.1 i h0 h1).2⟩
    by_cases e : i = w
    · rw [e, wW_e]; exact hv
    · rw [wW_n (9 + i) (by omega)]; exact (o.1 i h0 h1).1
  · rw [wW_n 1 (by omega), wW_n 2 (by omega)]; exact o.2
theorem okWT.e {W : Int → Int} (o : okWT W) : okE (envM W) := envM_ok o.1 o.2
/-- carried on -/
theorem DoC.wc {h : HP} {c : List Int} {cw v0 : Int} {W : Int → Int} (w v : Int) (hw : 0 ≤ w ∧ w < 64) (hc : cw = -1 ∨ cw = w) (d : DoC h c cw (envM (wW W w v0))) : DoC (sJ (sI h 10 5 w) 10 6 v) c w (envM (wW W w v)) := by
  obtain ⟨L, ⟨t, q, n, t1, t2, t3, t4, t5, t6, t7, t8, t9⟩, d1, d2, d3, d4, d5, d6⟩ := d
  have a12 : ∀ i : Int, aI (sJ (sI h 10 5 w) 10 6 v) 12 i = aI h 12 i := fun i => by rw [aI_sJ, aI_sIn _ _ _ _ _ (by decide)]
  have a13 : ∀ i : Int, aI (sJ (sI h 10 5 w) 10 6 v) 13 i = aI h 13 i := fun i => by rw [aI_sJ, aI_sIn _ _ _ _ _ (by decide)]
  refine ⟨L, ⟨t, q, n, t1, t2, t3, t4, t5, t6, t7, t8, fun i z e => by rw [aI_sJ, aI_sIn _ _ _ _ _ (by omega)]; exact t9 i z e⟩, by rw [gI_sJ, gI_sIe], fun _ => by rw [gJ_sJe]; exact wW_e.symm, fun i h1 h2 h3 => ?_, fun i h1 h2 => ?_, ?_, ?_⟩
  · rw [a12, d3 i h1 h2 (by omega)]
    show wW W w v0 (9 + i) = wW W w v (9 + i)
    rw [wW_n _ (by omega), wW_n _ (by omega)]
  · rw [a13, d4 i h1 h2]
    show wW W w v0 (73 + i) = wW W w v (73 + i)
    rw [wW_n _ (by omega), wW_n _ (by omega)]
  · rw [gI_sJ, gI_sIk _ _ _ _ _ (by decide), d5]
    show wW W w v0 1 = wW W w v 1
    rw [wW_n _ (by omega), wW_n _ (by omega)]
  · rw [gI_sJ, gI_sIk _ _ _ _ _ (by decide), d6]
    show wW W w v0 2 = wW W w v 2
    rw [wW_n _ (by omega), wW_n _ (by omega)]
section ST
variable {F : Nat} {W : Int → Int}
theorem E_setC {c : List Int} (hF : 500 ≤ F) (oW : okWT W) (s : List Prt) (ks : okS s) (i : Nat) (hc : ∀ (x : Nat) (z : Int), (sumC s)[x]? = some z → c[i + x]? = some z) (w : Int) (hw : 0 ≤ w ∧ w < 64) (t : Nat) (ht : t ≤ 9) : ∀ (m l7 k : Nat) (v0 v cw : Int) (g : HP), l7 + m = t → m < k → in32 v0 → (cw = -1 ∨ cw = w) → (l7 = 0 ∨ v = v0) → (0 < l7 → gI g 10 2 = ((i + (sumC s).length : Nat) : Int)) → DoC g c cw (envM (wW W w v0)) → ∃ g' v' b, X1_doSet_L14 F k 10 w t i v 1 l7 g = X1_doSet_L68 F 10 w v' b g' ∧ Ox X10 g g' ∧ (∀ x, x ≠ 2 → x ≠ 5 → gI g' 10 x = gI g 10 x) ∧ (b = 0 ∨ b = 1) ∧ (setN W w s m v0 = none → b = 0) ∧ (∀ u, setN W w s m v0 = some u → b = 1 ∧ (0 < t → v' = u) ∧ (0 < t → gI g' 10 2 = ((i + (sumC s).length : Nat) : Int))) := by
  intro m
  induction m with
  | zero =>
    intro l7 k v0 v cw g e hk hv hcw hl hg d
    obtain ⟨k, rfl⟩ : ∃ k', k = k' + 1 := ⟨k - 1, by omega⟩
    refine ⟨g, v, 1, ?_, Ox.rf _ _, fun _ _ _ => rfl, Or.inr rfl, fun q => (by cases q), fun u q => ⟨rfl, fun z => ?_, fun z => hg (by omega)⟩⟩
    · have e0 : ∀ (rc : Nat → Int → Int → Int → Int → Int → Int → HP → Option (Int × HP)), X1_doSet_L14 F (k + 1) 10 w t i v 1 l7 g = (if (t : Int) ≤ l7 then X1_doSet_L68 F 10 w v 1 g else X1_doSet_L14 F (k + 1) 10 w t i v 1 l7 g) := fun rc => by
        by_cases q : (t : Int) ≤ l7
        · rw [if_pos q]; unfold X1_doSet_L14; exact if_pos q
        · rw [if_neg q]
      rw [e0 (fun _ _ _ _ _ _ _ _ => none), if_pos (by omega)]
    · cases q
      rcases hl with a | a
      · omega
      · exact a
  | succ m ih =>
    intro l7 k v0 v cw g e hk hv hcw hl hg d
    obtain ⟨k, rfl⟩ : ∃ k', k = k' + 1 := ⟨k - 1, by omega⟩
    have oe : okE (envM (wW W w v0)) := (oW.w hw hv).e
    have L := d.1
    have es := E_sumC (F := F) hF d oe s ks i hc
    have e32 : w32 ((l7 : Int) + 1) = ((l7 + 1 : Nat) : Int) := by rw [w32i _ (by omega) (by omega)]; omega
    have step : X1_doSet_L14 F (k + 1) 10 w t i v 1 l7 g = X1_doSet_L14 F k 10 w t i (suV (envM (wW W w v0)) s 0) (if inb (suV (envM (wW W w v0)) s 0) then 1 else 0) ((l7 + 1 : Nat) : Int) (sJ (sI (sI g 10 2 ((i + (sumC s).length : Nat) : Int)) 10 5 w) 10 6 (suV (envM (wW W w v0)) s 0)) := by
      show (if (t : Int) ≤ l7 then _ else if (1 : Int) = 0 then _ else (xpI g (some 10) 1 8 2 i).bind _) = _
      rw [if_neg (by omega), if_neg (by decide), cW10 g 2 _ _ L, cR10 (sI g 10 2 i) _ L, b_xb _ _ _ _ es, b_xb _ _ _ _ (E_outB (F := F) _)]
      unfold X1_doSet_L49
      rw [cW10 (sI g 10 2 ((i + (sumC s).length : Nat) : Int)) 5 _ _ L, cV10 (sI (sI g 10 2 ((i + (sumC s).length : Nat) : Int)) 10 5 w) 6 _ _ L, e32]
      by_cases q : inb (suV (envM (wW W w v0)) s 0)
      · rw [if_pos q, if_pos q, if_pos rfl]
        rfl
      · rw [if_neg q, if_neg q, if_neg (by decide)]
        rfl
    rw [step]
    have ox : Ox X10 g (sJ (sI (sI g 10 2 ((i + (sumC s).length : Nat) : Int)) 10 5 w) 10 6 (suV (envM (wW W w v0)) s 0)) := ((Ox.I g 10 2 _ rfl).tr (Ox.I _ 10 5 _ rfl)).tr (Ox.J _ 10 6 _ rfl)
    have ok : ∀ x, x ≠ 2 → x ≠ 5 → gI (sJ (sI (sI g 10 2 ((i + (sumC s).length : Nat) : Int)) 10 5 w) 10 6 (suV (envM (wW W w v0)) s 0)) 10 x = gI g 10 x := fun x y z => by rw [gI_sJ, gI_sIk _ _ _ _ _ z, gI_sIk _ _ _ _ _ y]
    have dn := (d.at ((i + (sumC s).length : Nat) : Int)).wc w (suV (envM (wW W w v0)) s 0) hw hcw
    by_cases q : inb (suV (envM (wW W w v0)) s 0)
    · rw [if_pos q]
      obtain ⟨g', v', b, a1, a2, a6, a3, a4, a5⟩ := ih (l7 + 1) k _ _ w _ (by omega) (by omega) (by unfold inb at q; unfold in32; omega) (Or.inr rfl) (Or.inr rfl) (fun _ => by rw [gI_sJ, gI_sIk _ _ _ _ _ (by decide), gI_sIe]) dn
      refine ⟨g', v', b, a1, ox.tr a2, fun x y z => (a6 x y z).trans (ok x y z), a3, ?_, ?_⟩
      · intro z; apply a4; unfold setN at z; rw [if_pos q] at z; exact z
      · intro u z; apply a5; unfold setN at z; rw [if_pos q] at z; exact z
    · rw [if_neg q]
      obtain ⟨k, rfl⟩ : ∃ k', k = k' + 1 := ⟨k - 1, by omega⟩
      refine ⟨_, suV (envM (wW W w v0)) s 0, 0, ?_, ox, ok, Or.inl rfl, fun _ => rfl, ?_⟩
      · show (if (t : Int) ≤ ((l7 + 1 : Nat) : Int) then _ else if (0 : Int) = 0 then _ else _) = _
        split
        · rfl
        · rw [if_pos rfl]
      · intro u z; unfold setN at z; rw [if_neg q] at z; cases z
end ST
