/-! the reference reads: where it stands, what it has laid -/
def XMp : Nat → Bool := fun a => decide (a = 113 ∨ a = 118)
def OM (h h' : HP) : Prop := Ox XMp h h' ∧ ∀ k, k ≠ 6 → k ≠ 8 → k ≠ 9 → k ≠ 13 → gI h' 113 k = gI h 113 k
theorem OM.rf (h : HP) : OM h h := ⟨Ox.rf _ _, fun _ _ _ _ _ => rfl⟩
theorem OM.tr {a b d : HP} (x : OM a b) (y : OM b d) : OM a d := ⟨x.1.tr y.1, fun k q1 q2 q3 q4 => (y.2 k q1 q2 q3 q4).trans (x.2 k q1 q2 q3 q4)⟩
theorem OM.I (h : HP) (k : Nat) (v : Int) (q : k = 6 ∨ k = 8 ∨ k = 9 ∨ k = 13) : OM h (sI h 113 k v) := ⟨Ox.I h 113 k v rfl, fun m a b d e => by rw [gI_sIk _ _ _ _ _ (by omega)]⟩
theorem OM.J (h : HP) (k : Nat) (v : Int) : OM h (sJ h 113 k v) := ⟨Ox.J h 113 k v rfl, fun _ _ _ _ _ => rfl⟩
theorem OM.A (h : HP) (i v : Int) : OM h (sA h 118 i v) := ⟨Ox.A h 118 i v rfl, fun m _ _ _ _ => by rw [gI_sAn _ _ _ _ _ (by decide)]⟩
/-- and the rows of the lines stay -/
def OR (h h' : HP) : Prop := OM h h' ∧ ∀ i : Int, 0 ≤ i → i < 82 → aI h' 118 i = aI h 118 i
theorem OR.rf (h : HP) : OR h h := ⟨OM.rf h, fun _ _ _ => rfl⟩
theorem OR.tr {a b d : HP} (x : OR a b) (y : OR b d) : OR a d := ⟨x.1.tr y.1, fun i q1 q2 => (y.2 i q1 q2).trans (x.2 i q1 q2)⟩
theorem OR.I (h : HP) (k : Nat) (v : Int) (q : k = 6 ∨ k = 8 ∨ k = 9 ∨ k = 13) : OR h (sI h 113 k v) := ⟨OM.I h k v q, fun i _ _ => by rw [aI_sIn _ _ _ _ _ (by decide)]⟩
theorem OR.J (h : HP) (k : Nat) (v : Int) : OR h (sJ h 113 k v) := ⟨OM.J h k v, fun _ _ _ => rfl⟩
theorem OR.A (h : HP) (i v : Int) (q : 82 ≤ i) : OR h (sA h 118 i v) := ⟨OM.A h i v, fun k a b => by rw [aI_sA _ _ _ _ _ (by omega) (by omega), if_neg (by omega)]⟩
theorem OR.pt (h : HP) (p b : Int) : OR h (ptH h p b) := (OR.I h 6 p (Or.inl rfl)).tr (OR.I _ 8 b (Or.inr (Or.inl rfl)))
def STp (h : HP) (S : List (Int × Int)) : Prop := gI h 113 13 = (S.length : Int) ∧ ∀ (i : Nat) (s : Int × Int), S[i]? = some s → aI h 118 (82 + 2 * (i : Int)) = s.1 ∧ aI h 118 (82 + 2 * (i : Int) + 1) = s.2
section REF
variable {F : Nat} {c : Nat → Int} {R : Nat} {h : HP} {j : Nat} {S : List (Int × Int)} {rd wr : Nat → Bool} {dp : Int}
theorem BM.om {h' : HP} (b : BM c R h) (o : OM h h') : BM c R h' := by
  obtain ⟨L, hR, e, q⟩ := b
  refine ⟨o.1.M L, hR, ?_, fun i hi => ?_⟩
  · rw [o.2 7 (by decide) (by decide) (by decide) (by decide)]; exact e
  · rw [o.1.i 116 rfl]; exact q i hi
/-- all but where the point stands -/
def MR (c : Nat → Int) (R : Nat) (h : HP) (S : List (Int × Int)) (rd wr : Nat → Bool) (dp : Int) : Prop := BM c R h ∧ STp h S ∧ gI h 113 9 = dp ∧ (∀ i, i < 64 → tb (gJ h 113 15) i = rd i) ∧ (∀ i, i < 64 → tb (gJ h 113 14) i = wr i)
def PA (c : Nat → Int) (R : Nat) (h : HP) (j : Nat) : Prop := ∃ p : Nat, gI h 113 6 = (p : Int) ∧ atP c R p j
def MCx (c : Nat → Int) (R : Nat) (h : HP) (j : Nat) (S : List (Int × Int)) (rd wr : Nat → Bool) (dp : Int) : Prop := MR c R h S rd wr dp ∧ PA c R h j
def MF (c : Nat → Int) (R : Nat) (h : HP) (e : Nat) : Prop := BM c R h ∧ gI h 113 8 = Bf R (Lf c R) e
theorem MR.pt (d : MR c R h S rd wr dp) (p b : Int) : MR c R (ptH h p b) S rd wr dp := by
  obtain ⟨b1, ⟨b2, b3⟩, b4, b5, b6⟩ := d
  refine ⟨b1.pt p b, ⟨?_, fun i s e => ?_⟩, ?_, b5, b6⟩
  · show gI (sI (sI h 113 6 p) 113 8 b) 113 13 = _
    rw [gI_sIk _ _ _ _ _ (by decide), gI_sIk _ _ _ _ _ (by decide)]; exact b2
  · show aI (sI (sI h 113 6 p) 113 8 b) 118 _ = _ ∧ aI (sI (sI h 113 6 p) 113 8 b) 118 _ = _
    rw [aI_sIn _ _ _ _ _ (by decide), aI_sIn _ _ _ _ _ (by decide)]; exact b3 i s e
  · show gI (sI (sI h 113 6 p) 113 8 b) 113 9 = _
    rw [gI_sIk _ _ _ _ _ (by decide), gI_sIk _ _ _ _ _ (by decide)]; exact b4
theorem MR.rdc {rd' : Nat → Bool} (d : MR c R h S rd wr dp) (e : ∀ i, i < 64 → rd' i = rd i) : MR c R h S rd' wr dp := ⟨d.1, d.2.1, d.2.2.1, fun i hi => (d.2.2.2.1 i hi).trans (e i hi).symm, d.2.2.2.2⟩
theorem MCx.rdc {rd' : Nat → Bool} (d : MCx c R h j S rd wr dp) (e : ∀ i, i < 64 → rd' i = rd i) : MCx c R h j S rd' wr dp := ⟨d.1.rdc e, d.2⟩
theorem kwA_g3 (a e : Nat) : kwA c a e kwS 256 (some a) = -3 ∨ 256 ≤ kwA c a e kwS 256 (some a) := kwA_ge c a e kwS 256 (some a) (by decide)
theorem BM.c0 (b : BM c R h) {p : Nat} (hp : p < R) : 0 ≤ c p ∧ c p < 256 := by
  have x := (b.2.2.2 p hp).1
  omega
/-- what stands at a place that is no blank -/
theorem at_kind {p : Nat} (b : BM c R h) (a : atP c R p j) (nb : p < R → c p ≠ 32) : Bf R (Lf c R) j = (p : Int) ∧ (p < R → Kf c R (Lf c R) j = knD c R p ∧ Nf c R (Lf c R) j = nvD c R p ∧ atP c R (enD c R p) (j + 1)) ∧ (R ≤ p → Kf c R (Lf c R) j = -1) := by
  by_cases q : p < R
  · obtain ⟨a1, a2, a3, a4, a5⟩ := atP_th a q (nb q)
    exact ⟨a3, fun _ => ⟨a1, a2, a4⟩, fun w => absurd q (by omega)⟩
  · obtain ⟨a1, a2, a3⟩ := atP_end a (by omega)
    have e : p = R := by have := a.1; omega
    exact ⟨by rw [a2, e], fun w => absurd w q, fun _ => a1⟩
theorem M_blanks (hF : 500 ≤ F) (d : MCx c R h j S rd wr dp) : ∃ p : Nat, X12_blanks F 113 h = some ((), ptH h (p : Int) (p : Int)) ∧ p ≤ R ∧ (p < R → c p ≠ 32) ∧ atP c R p j := by
  obtain ⟨d1, p, e, a⟩ := d
  obtain ⟨p', q1, q2, q3, q4, q5⟩ := Q_bl (F := F) hF d1.1 a.1 e
  exact ⟨p', q1, q3, q4, q5 j a⟩
/-! signs -/
theorem knD_sym {p : Nat} {v : Int} (hv : 33 ≤ v ∧ v < 48 ∨ 58 ≤ v ∧ v < 97) : knD c R p = v ↔ c p = v := by
  unfold knD
  by_cases q1 : 48 ≤ c p ∧ c p ≤ 57
  · rw [if_pos q1]
    by_cases q2 : enD c R p - p ≤ 6
    · rw [if_pos q2]; constructor <;> intro w <;> omega
    · rw [if_neg q2]; constructor <;> intro w <;> omega
  · rw [if_neg q1]
    by_cases q2 : 97 ≤ c p ∧ c p ≤ 122
    · rw [if_pos q2]
      have x := kwA_g3 (c := c) p (enD c R p)
      constructor <;> intro w <;> omega
    · rw [if_neg q2]
theorem enD_sym {p : Nat} {v : Int} (hv : 33 ≤ v ∧ v < 48 ∨ 58 ≤ v ∧ v < 97) (e : c p = v) : enD c R p = p + 1 := by
  unfold enD
  rw [if_neg (by omega), if_neg (by omega)]
theorem M_sign1 (hF : 500 ≤ F) (d : MCx c R h j S rd wr dp) (v : Int) (hv : 33 ≤ v ∧ v < 48 ∨ 58 ≤ v ∧ v < 97) (k : Kf c R (Lf c R) j = v) : ∃ h', X12_sign F 113 v h = some (1, h') ∧ MCx c R h' (j + 1) S rd wr dp ∧ OR h h' ∧ gI h' 113 8 = Bf R (Lf c R) j := by
  obtain ⟨p, e, hp, nb, a⟩ := M_blanks hF d
  have b := d.1.1
  have b' := b.pt (p : Int) (p : Int)
  obtain ⟨k1, k2, k3⟩ := at_kind b a nb
  have lt : p < R := by
    rcases Nat.lt_or_ge p R with w | w
    · exact w
    · have := k3 w; omega
  obtain ⟨m1, m2, m3⟩ := k2 lt
  have cp : c p = v := (knD_sym (R := R) hv).mp (m1.symm.trans k)
  rw [enD_sym hv cp] at m3
  refine ⟨ptH h ((p + 1 : Nat) : Int) (p : Int), ?_, ⟨d.1.pt _ _, p + 1, ptH_g6 _ _ _, m3⟩, OR.pt _ _ _, (ptH_g8 _ _ _).trans k1.symm⟩
  unfold X12_sign
  rw [mR113 h _ b.1, b_xb _ _ _ _ e, mR113 _ _ b'.1, b_xb _ _ _ _ (Q_at1 b' (ptH_g6 _ _ _) lt (by omega) (by omega) (by omega)), if_neg (by decide), mI113 _ 6 _ b'.1, ptH_g6, w32j (by have := b.2.1; omega), mW113 _ 6 _ _ b'.1, ptH_s6]
theorem M_sign0 (hF : 500 ≤ F) (d : MCx c R h j S rd wr dp) (v : Int) (hv : 33 ≤ v ∧ v < 48 ∨ 58 ≤ v ∧ v < 97) (k : Kf c R (Lf c R) j ≠ v) : ∃ h', X12_sign F 113 v h = some (0, h') ∧ MCx c R h' j S rd wr dp ∧ OR h h' ∧ gI h' 113 8 = Bf R (Lf c R) j := by
  obtain ⟨p, e, hp, nb, a⟩ := M_blanks hF d
  have b := d.1.1
  have b' := b.pt (p : Int) (p : Int)
  obtain ⟨k1, k2, k3⟩ := at_kind b a nb
  have cp : ¬ (p < R ∧ v ≤ c p ∧ c p ≤ v) := fun w => k ((k2 w.1).1.trans ((knD_sym (R := R) hv).mpr (by omega)))
  refine ⟨ptH h (p : Int) (p : Int), ?_, ⟨d.1.pt _ _, p, ptH_g6 _ _ _, a⟩, OR.pt _ _ _, (ptH_g8 _ _ _).trans k1.symm⟩
  unfold X12_sign
  rw [mR113 h _ b.1, b_xb _ _ _ _ e, mR113 _ _ b'.1, b_xb _ _ _ _ (Q_at0 b' (ptH_g6 _ _ _) (by omega) (by omega) cp), if_pos rfl]
/-! letters and words -/
def LtS (c : Nat → Int) (R : Nat) (h : HP) (j : Nat) : Prop := ∃ p : Nat, gI h 113 8 = (p : Int) ∧ Bf R (Lf c R) j = (p : Int) ∧ atP c R p j ∧ ((p < R ∧ gI h 113 6 = ((enD c R p : Nat) : Int) ∧ atP c R (enD c R p) (j + 1) ∧ Kf c R (Lf c R) j = kwA c p (enD c R p) kwS 256 (some p)) ∨ (gI h 113 6 = (p : Int) ∧ Kf c R (Lf c R) j < 256))
theorem M_letters (hF : 500 ≤ F) (d : MCx c R h j S rd wr dp) : ∃ h', X12_letters F 113 h = some ((), h') ∧ MR c R h' S rd wr dp ∧ OR h h' ∧ LtS c R h' j := by
  obtain ⟨d1, p, e, a⟩ := d
  obtain ⟨p', q1, q2, q3, q4, q5⟩ := Q_lt (F := F) hF d1.1 a.1 e
  have a' := q5 j a
  obtain ⟨k1, k2, k3⟩ := at_kind d1.1 a' q4
  refine ⟨ptH h ((rnL c (R - p') p' : Nat) : Int) (p' : Int), q1, d1.pt _ _, OR.pt _ _ _, p', ptH_g8 _ _ _, k1, a', ?_⟩
  rw [ptH_g6]
  by_cases w : p' < R ∧ 97 ≤ c p' ∧ c p' ≤ 122
  · obtain ⟨m1, m2, m3⟩ := k2 w.1
    refine Or.inl ⟨w.1, by rw [rnL_en w.1 w.2], m3, ?_⟩
    rw [m1]
    unfold knD
    rw [if_neg (by omega), if_pos w.2]
  · refine Or.inr ⟨by rw [rnL_no w], ?_⟩
    by_cases lt : p' < R
    · have r := d1.1.c0 lt
      rw [(k2 lt).1]
      unfold knD
      by_cases x1 : 48 ≤ c p' ∧ c p' ≤ 57
      · rw [if_pos x1]
        by_cases x2 : enD c R p' - p' ≤ 6
        · rw [if_pos x2]; decide
        · rw [if_neg x2]; decide
      · rw [if_neg x1, if_neg (fun x => w ⟨lt, x⟩)]
        exact r.2
    · rw [k3 (by omega)]; decide
theorem wdS_ne0 : ∀ w, w < 18 → 1 ≤ w → wdS w ≠ [] := by decide +kernel
theorem wdS_ne : ∀ w, 1 ≤ w → w < 18 → wdS w ≠ [] := fun w p q => wdS_ne0 w q p
theorem mW_no {w : List Int} (hw : w ≠ []) (a : Nat) : ¬ mW c w a a := by
  cases w with
  | nil => exact absurd rfl hw
  | cons x w => exact fun q => absurd q.1 (Nat.lt_irrefl _)
/-- word w is of kind kk -/
def Wd (w : Nat) (kk : Int) : Prop := 1 ≤ w ∧ w < 18 ∧ ∃ i : Nat, wdO[i]? = some w ∧ kk = 256 + (i : Int)
theorem Wd.ge {w : Nat} {kk : Int} (hw : Wd w kk) : 256 ≤ kk := by
  obtain ⟨-, -, i, -, e⟩ := hw
  omega
theorem M_isw (hF : 500 ≤ F) (b : BM c R h) (l : LtS c R h j) {w : Nat} {kk : Int} (hw : Wd w kk) : X12_isWord F 113 (some (1000000 + w)) h = some (if Kf c R (Lf c R) j = kk then 1 else 0, h) := by
  obtain ⟨h1, h2, i, hi, ek⟩ := hw
  subst ek
  obtain ⟨p, l1, l2, l3, l4 | l4⟩ := l
  · obtain ⟨m1, m2, m3, m4⟩ := l4
    obtain ⟨e1, e2⟩ := enD_le c m1
    have x := kw_word c p (enD c R p) i w hi
    by_cases q : kwA c p (enD c R p) kwS 256 (some p) = 256 + i
    · rw [m4, if_pos q]
      exact Q_w1 b hF h2 rfl l1 m2 (by omega) e2 (x.mp q)
    · rw [m4, if_neg q]
      exact Q_w0 b hF h2 rfl l1 m2 (by omega) e2 (fun y => q (x.mpr y))
  · obtain ⟨m1, m2⟩ := l4
    rw [if_neg (by omega)]
    exact Q_w0 b hF h2 rfl l1 m1 (Nat.le_refl _) l3.1 (mW_no (wdS_ne w h1 h2) p)
theorem LtS.on (l : LtS c R h j) (q : 256 ≤ Kf c R (Lf c R) j) : PA c R h (j + 1) := by
  obtain ⟨p, l1, l2, l3, l4 | l4⟩ := l
  · exact ⟨enD c R p, l4.2.1, l4.2.2.1⟩
  · exact absurd q (by have := l4.2; omega)
theorem LtS.bg (l : LtS c R h j) : gI h 113 8 = Bf R (Lf c R) j := by
  obtain ⟨p, l1, l2, -⟩ := l
  rw [l1, l2]
theorem LtS.mf (l : LtS c R h j) (b : BM c R h) : MF c R h j := ⟨b, l.bg⟩
theorem M_needs1 (hF : 500 ≤ F) (d : MCx c R h j S rd wr dp) {w : Nat} {kk : Int} (hw : Wd w kk) (k : Kf c R (Lf c R) j = kk) : ∃ h', X12_needs F 113 (some (1000000 + w)) h = some (1, h') ∧ MCx c R h' (j + 1) S rd wr dp ∧ OR h h' := by
  obtain ⟨g, e, m, o, l⟩ := M_letters hF d
  have y := M_isw hF m.1 l hw
  rw [if_pos k] at y
  refine ⟨g, ?_, ⟨m, l.on (by rw [k]; exact hw.ge)⟩, o⟩
  unfold X12_needs
  rw [mR113 h _ d.1.1.1, b_xb _ _ _ _ e, mR113 g _ m.1.1, b_xb _ _ _ _ y]
  rfl
theorem M_needs0 (hF : 500 ≤ F) (d : MCx c R h j S rd wr dp) {w : Nat} {kk : Int} (hw : Wd w kk) (k : Kf c R (Lf c R) j ≠ kk) : ∃ h', X12_needs F 113 (some (1000000 + w)) h = some (0, h') ∧ MF c R h' j ∧ OR h h' := by
  obtain ⟨g, e, m, o, l⟩ := M_letters hF d
  have y := M_isw hF m.1 l hw
  rw [if_neg k] at y
  refine ⟨g, ?_, l.mf m.1, o⟩
  unfold X12_needs
  rw [mR113 h _ d.1.1.1, b_xb _ _ _ _ e, mR113 g _ m.1.1, b_xb _ _ _ _ y]
  rfl
theorem M_pass1 (hF : 500 ≤ F) (d : MCx c R h j S rd wr dp) {w : Nat} {kk : Int} (hw : Wd w kk) (k : Kf c R (Lf c R) j = kk) : ∃ h', X12_passes F 113 (some (1000000 + w)) h = some (1, h') ∧ MCx c R h' (j + 1) S rd wr dp ∧ OR h h' ∧ gI h' 113 8 = Bf R (Lf c R) j := by
  obtain ⟨g, e, m, o, l⟩ := M_letters hF d
  have y := M_isw hF m.1 l hw
  rw [if_pos k] at y
  refine ⟨g, ?_, ⟨m, l.on (by rw [k]; exact hw.ge)⟩, o, l.bg⟩
  unfold X12_passes
  rw [mR113 h _ d.1.1.1, b_xb _ _ _ _ e, mR113 g _ m.1.1, b_xb _ _ _ _ y, if_neg (by decide)]
theorem MR.p6 (d : MR c R h S rd wr dp) (v : Int) : MR c R (sI h 113 6 v) S rd wr dp := by
  have x := d.pt v (gI h 113 8)
  have e : ptH h v (gI h 113 8) = sI h 113 6 v := by
    unfold ptH
    exact sI_idv _ 113 8 _ (by rw [gI_sIk _ _ _ _ _ (by decide)])
  rw [e] at x
  exact x
theorem M_pass0 (hF : 500 ≤ F) (d : MCx c R h j S rd wr dp) {w : Nat} {kk : Int} (hw : Wd w kk) (k : Kf c R (Lf c R) j ≠ kk) : ∃ h', X12_passes F 113 (some (1000000 + w)) h = some (0, h') ∧ MCx c R h' j S rd wr dp ∧ OR h h' ∧ gI h' 113 8 = Bf R (Lf c R) j := by
  obtain ⟨g, e, m, o, l⟩ := M_letters hF d
  have y := M_isw hF m.1 l hw
  rw [if_neg k] at y
  obtain ⟨p, l1, l2, l3, -⟩ := l
  refine ⟨sI g 113 6 (p : Int), ?_, ⟨m.p6 _, p, gI_sIe _ _ _ _, l3⟩, o.tr (OR.I g 6 _ (Or.inl rfl)), ?_⟩
  · unfold X12_passes
    rw [mR113 h _ d.1.1.1, b_xb _ _ _ _ e, mR113 g _ m.1.1, b_xb _ _ _ _ y, if_pos rfl, mI113 g 8 _ m.1.1, l1, mW113 g 6 _ _ m.1.1]
  · rw [gI_sIk _ _ _ _ _ (by decide), l1, l2]
end REF
