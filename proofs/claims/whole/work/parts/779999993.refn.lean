/-! the reference reads numbers, lays steps -/
section REN
variable {F : Nat} {c : Nat → Int} {R : Nat} {h : HP} {j : Nat} {S : List (Int × Int)} {rd wr : Nat → Bool} {dp : Int}
theorem w32_dig {a x : Int} (h0 : 0 ≤ a) (h1 : a < 1000000) (q : 48 ≤ x ∧ x ≤ 57) : w32 (w32 (w32 (10 * a) + x) - 48) = 10 * a + x - 48 := by
  rw [w32i (10 * a) (by omega) (by omega), w32i (10 * a + x) (by omega) (by omega), w32i _ (by omega) (by omega)]
theorem Q_dgL : ∀ (f p k b : Nat) (h : HP) (a lo hi : Int), BM c R h → p + f = R → f < k → gI h 113 6 = (p : Int) → gI h 113 8 = (b : Int) → b ≤ p → 0 ≤ a → (p ≤ b + 6 → a < lim10 (p - b)) → ∃ r, X12_number_L6 F k 113 lo hi a h = some (r, sI h 113 6 ((rnD c f p : Nat) : Int)) ∧ (b + 6 < rnD c f p ∨ rnD c f p = b → r = -1) ∧ (b < rnD c f p → rnD c f p ≤ b + 6 → r = if lo ≤ vlD c (rnD c f p - p) p a ∧ vlD c (rnD c f p - p) p a ≤ hi then vlD c (rnD c f p - p) p a else -1) := by
  have stop : ∀ (p k b : Nat) (h : HP) (a lo hi : Int), BM c R h → p ≤ R → 0 < k → gI h 113 6 = (p : Int) → gI h 113 8 = (b : Int) → b ≤ p → ¬ (p < R ∧ 48 ≤ c p ∧ c p ≤ 57) → ∃ r, X12_number_L6 F k 113 lo hi a h = some (r, h) ∧ (b + 6 < p ∨ p = b → r = -1) ∧ (b < p → p ≤ b + 6 → r = if lo ≤ a ∧ a ≤ hi then a else -1) := by
    intro p k b h a lo hi bm hpR hk hp hb hbp q
    have L := bm.1
    have hR := bm.2.1
    obtain ⟨k, rfl⟩ : ∃ k', k = k' + 1 := ⟨k - 1, by omega⟩
    rw [X12_number_L6_s, mR113 h _ L, b_xb _ _ _ _ (Q_at0 bm hp (by decide) (by decide) q), if_pos rfl, mI113 h 6 _ L, mI113 h 8 _ L, hp, hb]
    unfold X12_number_L101
    by_cases c1 : p = b
    · rw [if_pos (by omega)]
      exact ⟨-1, rfl, fun _ => rfl, fun w => absurd w (by omega)⟩
    rw [if_neg (by omega), mI113 h 6 _ L, mI113 h 8 _ L, hp, hb, w32_sub hbp (by omega)]
    by_cases c2 : b + 6 < p
    · rw [if_pos (by omega)]
      exact ⟨-1, rfl, fun _ => rfl, fun _ w => absurd w (by omega)⟩
    rw [if_neg (by omega)]
    by_cases c3 : a < lo
    · rw [if_pos c3]
      exact ⟨-1, rfl, fun _ => rfl, fun _ _ => by rw [if_neg (by omega)]⟩
    rw [if_neg c3]
    by_cases c4 : a ≤ hi
    · rw [if_pos c4]
      exact ⟨a, rfl, fun w => absurd w (by omega), fun _ _ => by rw [if_pos (by omega)]⟩
    · rw [if_neg c4]
      exact ⟨-1, rfl, fun _ => rfl, fun _ _ => by rw [if_neg (by omega)]⟩
  intro f
  induction f with
  | zero =>
    intro p k b h a lo hi bm hf hk hp hb hbp a0 a1
    have e : rnD c 0 p = p := rfl
    have e2 : vlD c (p - p) p a = a := by rw [Nat.sub_self]; rfl
    rw [e, e2, sI_idv h 113 6 _ hp]
    exact stop p k b h a lo hi bm (by omega) hk hp hb hbp (by omega)
  | succ f ih =>
    intro p k b h a lo hi bm hf hk hp hb hbp a0 a1
    have L := bm.1
    have hR := bm.2.1
    by_cases q : 48 ≤ c p ∧ c p ≤ 57
    · have e : rnD c (f + 1) p = rnD c f (p + 1) := by
        show (if 48 ≤ c p ∧ c p ≤ 57 then rnD c f (p + 1) else p) = _
        rw [if_pos q]
      have ge := (rnD_le c f (p + 1)).1
      have q3 := bm.2.2.2 p (by omega)
      have q4 : aI h 116 (p : Int) = c p := by omega
      have tl : ∀ a' : Int, 0 ≤ a' → (p + 1 ≤ b + 6 → a' < lim10 (p + 1 - b)) → (p < b + 6 → a' = 10 * a + c p - 48) → X12_number_L6 F k 113 lo hi a h = X12_number_L6 F (k - 1) 113 lo hi a' (sI h 113 6 ((p + 1 : Nat) : Int)) → ∃ r, X12_number_L6 F k 113 lo hi a h = some (r, sI h 113 6 ((rnD c f (p + 1) : Nat) : Int)) ∧ (b + 6 < rnD c f (p + 1) ∨ rnD c f (p + 1) = b → r = -1) ∧ (b < rnD c f (p + 1) → rnD c f (p + 1) ≤ b + 6 → r = if lo ≤ vlD c (rnD c f (p + 1) - p) p a ∧ vlD c (rnD c f (p + 1) - p) p a ≤ hi then vlD c (rnD c f (p + 1) - p) p a else -1) := by
        intro a' z1 z2 z3 z4
        obtain ⟨r, y1, y2, y3⟩ := ih (p + 1) (k - 1) b (sI h 113 6 ((p + 1 : Nat) : Int)) a' lo hi (bm.f 6 _ (by decide)) (by omega) (by omega) (gI_sIe _ _ _ _) (by rw [gI_sIk _ _ _ _ _ (by decide)]; exact hb) (by omega) z1 z2
        refine ⟨r, ?_, y2, fun w1 w2 => ?_⟩
        · rw [z4, y1]
          congr 2
          have x : upd2 (upd2 h.1 113 6 ((p + 1 : Nat) : Int)) 113 6 ((rnD c f (p + 1) : Nat) : Int) = upd2 h.1 113 6 ((rnD c f (p + 1) : Nat) : Int) := by
            funext x y
            show (if x = 113 ∧ y = 6 then _ else if x = 113 ∧ y = 6 then _ else h.1 x y) = (if x = 113 ∧ y = 6 then _ else h.1 x y)
            by_cases q : x = 113 ∧ y = 6
            · rw [if_pos q, if_pos q]
            · rw [if_neg q, if_neg q, if_neg q]
          exact congrArg (fun z => (z, h.2)) x
        · have v : vlD c (rnD c f (p + 1) - p) p a = vlD c (rnD c f (p + 1) - (p + 1)) (p + 1) a' := by
            rw [show rnD c f (p + 1) - p = (rnD c f (p + 1) - (p + 1)) + 1 by omega, z3 (by omega)]
            rfl
          rw [v]
          exact y3 w1 w2
      obtain ⟨k, rfl⟩ : ∃ k', k = k' + 1 := ⟨k - 1, by omega⟩
      have st : X12_number_L6 F (k + 1) 113 lo hi a h = if 6 ≤ (p : Int) - (b : Int) then X12_number_L6 F k 113 lo hi a (sI h 113 6 ((p + 1 : Nat) : Int)) else X12_number_L6 F k 113 lo hi (w32 (w32 (w32 (10 * a) + c p) - 48)) (sI h 113 6 ((p + 1 : Nat) : Int)) := by
        rw [X12_number_L6_s, mR113 h _ L, b_xb _ _ _ _ (Q_at1 bm hp (by omega) (by decide) (by decide) q), if_neg (by decide), mI113 h 6 _ L, mI113 h 8 _ L, hp, hb, w32_sub hbp (by omega)]
        unfold X12_number_L52
        by_cases c1 : 6 ≤ (p : Int) - (b : Int)
        · rw [if_pos c1, if_pos c1, mI113 h 6 _ L, hp, w32j (by omega), mW113 h 6 _ _ L]
        · rw [if_neg c1, if_neg c1, mP113_4 h _ L, mI113 h 6 _ L, hp, mA116 h _ _ L (by omega) (by omega), q4, mI113 h 6 _ L, hp, w32j (by omega), mW113 h 6 _ _ L]
      rw [e]
      by_cases c1 : 6 ≤ (p : Int) - (b : Int)
      · rw [if_pos c1] at st
        exact tl a a0 (fun w => absurd w (by omega)) (fun w => absurd w (by omega)) st
      · rw [if_neg c1] at st
        have lm := a1 (by omega)
        have le6 := lim10_le (p - b) (by omega)
        have l2 : lim10 (p + 1 - b) = 10 * lim10 (p - b) := by
          rw [show p + 1 - b = (p - b) + 1 by omega]
          rfl
        rw [w32_dig a0 (by omega) q] at st
        exact tl (10 * a + c p - 48) (by omega) (fun _ => by rw [l2]; omega) (fun _ => rfl) st
    · have e : rnD c (f + 1) p = p := by
        show (if 48 ≤ c p ∧ c p ≤ 57 then rnD c f (p + 1) else p) = _
        rw [if_neg q]
      have e2 : vlD c (p - p) p a = a := by rw [Nat.sub_self]; rfl
      rw [e, e2, sI_idv h 113 6 _ hp]
      exact stop p k b h a lo hi bm (by omega) (by omega) hp hb hbp (by omega)
theorem rnD_en {p : Nat} (hp : p < R) (q : 48 ≤ c p ∧ c p ≤ 57) : rnD c (R - p) p = enD c R p := by
  obtain ⟨f, hf⟩ : ∃ f, R - p = f + 1 := ⟨R - p - 1, by omega⟩
  unfold enD
  rw [if_pos q, hf, show R - (p + 1) = f by omega]
  show (if 48 ≤ c p ∧ c p ≤ 57 then rnD c f (p + 1) else p) = _
  rw [if_pos q]
theorem rnD_no {p : Nat} (q : ¬ (p < R ∧ 48 ≤ c p ∧ c p ≤ 57)) : rnD c (R - p) p = p := by
  by_cases h : p < R
  · obtain ⟨f, hf⟩ : ∃ f, R - p = f + 1 := ⟨R - p - 1, by omega⟩
    rw [hf]
    show (if 48 ≤ c p ∧ c p ≤ 57 then rnD c f (p + 1) else p) = _
    rw [if_neg (by omega)]
  · rw [Nat.sub_eq_zero_of_le (by omega)]
    rfl
/-- a number: what comes of it -/
theorem M_num (hF : 500 ≤ F) (d : MCx c R h j S rd wr dp) (lo hi : Int) : ∃ h', MR c R h' S rd wr dp ∧ OR h h' ∧ gI h' 113 8 = Bf R (Lf c R) j ∧ (Kf c R (Lf c R) j = -2 ∧ lo ≤ Nf c R (Lf c R) j ∧ Nf c R (Lf c R) j ≤ hi → X12_number F 113 lo hi h = some (Nf c R (Lf c R) j, h') ∧ PA c R h' (j + 1)) ∧ (¬ (Kf c R (Lf c R) j = -2 ∧ lo ≤ Nf c R (Lf c R) j ∧ Nf c R (Lf c R) j ≤ hi) → X12_number F 113 lo hi h = some (-1, h')) := by
  obtain ⟨p, e, hp, nb, a⟩ := M_blanks hF d
  have b := d.1.1
  have hR := b.2.1
  have b' := b.pt (p : Int) (p : Int)
  obtain ⟨k1, k2, k3⟩ := at_kind b a nb
  obtain ⟨r, y1, y2, y3⟩ := Q_dgL (F := F) (R - p) p F p (ptH h (p : Int) (p : Int)) 0 lo hi b' (by omega) (by omega) (ptH_g6 _ _ _) (ptH_g8 _ _ _) (Nat.le_refl _) (by decide) (fun _ => by rw [Nat.sub_self]; decide)
  rw [ptH_s6] at y1
  have st : X12_number F 113 lo hi h = some (r, ptH h ((rnD c (R - p) p : Nat) : Int) (p : Int)) := by
    unfold X12_number
    rw [mR113 h _ b.1, b_xb _ _ _ _ e]
    exact y1
  refine ⟨ptH h ((rnD c (R - p) p : Nat) : Int) (p : Int), d.1.pt _ _, OR.pt _ _ _, (ptH_g8 _ _ _).trans k1.symm, fun q => ?_, fun q => ?_⟩
  · obtain ⟨q1, q2, q3⟩ := q
    have lt : p < R := by
      rcases Nat.lt_or_ge p R with w | w
      · exact w
      · have := k3 w; omega
    obtain ⟨m1, m2, m3⟩ := k2 lt
    have w1 := m1.symm.trans q1
    obtain ⟨w2, w3⟩ := knD_2 (b.c0 lt).1 w1
    obtain ⟨e1, e2⟩ := enD_le c lt
    rw [rnD_en lt w2] at y3 st ⊢
    have v : vlD c (enD c R p - p) p 0 = Nf c R (Lf c R) j := by
      rw [m2]
      unfold nvD
      rw [if_pos w1]
    have z := y3 e1 (by omega)
    rw [v, if_pos ⟨q2, q3⟩] at z
    rw [z] at st
    exact ⟨st, enD c R p, ptH_g6 _ _ _, m3⟩
  · have z : r = -1 := by
      by_cases w : p < R ∧ 48 ≤ c p ∧ c p ≤ 57
      · obtain ⟨m1, m2, m3⟩ := k2 w.1
        obtain ⟨e1, e2⟩ := enD_le c w.1
        rw [rnD_en w.1 w.2] at y2 y3
        by_cases w3 : enD c R p ≤ p + 6
        · have w1 : knD c R p = -2 := by
            unfold knD
            rw [if_pos w.2, if_pos (by omega)]
          have v : vlD c (enD c R p - p) p 0 = Nf c R (Lf c R) j := by
            rw [m2]
            unfold nvD
            rw [if_pos w1]
          have z := y3 e1 w3
          rw [v, if_neg (fun x => q ⟨m1.trans w1, x⟩)] at z
          exact z
        · exact y2 (Or.inl (by omega))
      · exact y2 (Or.inr (rnD_no w))
    rw [z] at st
    exact st
theorem M_num1 (hF : 500 ≤ F) (d : MCx c R h j S rd wr dp) (lo hi : Int) (q : Kf c R (Lf c R) j = -2 ∧ lo ≤ Nf c R (Lf c R) j ∧ Nf c R (Lf c R) j ≤ hi) : ∃ h', X12_number F 113 lo hi h = some (Nf c R (Lf c R) j, h') ∧ MCx c R h' (j + 1) S rd wr dp ∧ OR h h' ∧ gI h' 113 8 = Bf R (Lf c R) j := by
  obtain ⟨h', a1, a2, a3, a4, a5⟩ := M_num hF d lo hi
  exact ⟨h', (a4 q).1, ⟨a1, (a4 q).2⟩, a2, a3⟩
theorem M_num0 (hF : 500 ≤ F) (d : MCx c R h j S rd wr dp) (lo hi : Int) (q : ¬ (Kf c R (Lf c R) j = -2 ∧ lo ≤ Nf c R (Lf c R) j ∧ Nf c R (Lf c R) j ≤ hi)) : ∃ h', X12_number F 113 lo hi h = some (-1, h') ∧ MF c R h' j ∧ MR c R h' S rd wr dp ∧ OR h h' := by
  obtain ⟨h', a1, a2, a3, a4, a5⟩ := M_num hF d lo hi
  exact ⟨h', a5 q, ⟨a1.1, a3⟩, a1, a2⟩
/-! steps laid, words read -/
theorem w82 {n : Nat} (h : n < 400) : w32 (82 + w32 (2 * (n : Int))) = 82 + 2 * (n : Int) := by rw [w32i (2 * (n : Int)) (by omega) (by omega), w32i _ (by omega) (by omega)]
theorem w83 {n : Nat} (h : n < 400) : w32 (82 + 2 * (n : Int) + 1) = 82 + 2 * (n : Int) + 1 := w32i _ (by omega) (by omega)
theorem app_gt {α : Type} {a b : List α} {i : Nat} {z : α} (e : (a ++ b)[i]? = some z) : i < a.length ∧ a[i]? = some z ∨ a.length ≤ i ∧ b[i - a.length]? = some z := by
  rcases Nat.lt_or_ge i a.length with q | q
  · rw [List.getElem?_append_left q] at e; exact Or.inl ⟨q, e⟩
  · rw [List.getElem?_append_right q] at e; exact Or.inr ⟨q, e⟩
theorem M_emits (d : MR c R h S rd wr dp) (x y : Int) (room : S.length < 400) : ∃ h', X12_emits F 113 x y h = some ((), h') ∧ MR c R h' (S ++ [(x, y)]) rd wr dp ∧ OR h h' ∧ gI h' 113 6 = gI h 113 6 ∧ gI h' 113 8 = gI h 113 8 := by
  obtain ⟨b1, ⟨b2, b3⟩, b4, b5, b6⟩ := d
  have L := b1.1
  have k2 : ∀ k, k ≠ 13 → gI (sI (sA (sA h 118 (82 + 2 * (S.length : Int)) x) 118 (82 + 2 * (S.length : Int) + 1) y) 113 13 ((S.length + 1 : Nat) : Int)) 113 k = gI h 113 k := fun k q => by rw [gI_sIk _ _ _ _ _ q, gI_sAn _ _ _ _ _ (by decide), gI_sAn _ _ _ _ _ (by decide)]
  have o : OR h (sI (sA (sA h 118 (82 + 2 * (S.length : Int)) x) 118 (82 + 2 * (S.length : Int) + 1) y) 113 13 ((S.length + 1 : Nat) : Int)) := ((OR.A h _ x (by omega)).tr (OR.A _ _ y (by omega))).tr (OR.I _ 13 _ (by omega))
  refine ⟨sI (sA (sA h 118 (82 + 2 * (S.length : Int)) x) 118 (82 + 2 * (S.length : Int) + 1) y) 113 13 ((S.length + 1 : Nat) : Int), ?_, ⟨b1.om o.1, ⟨?_, fun i s e => ?_⟩, ?_, b5, b6⟩, o, k2 6 (by decide), k2 8 (by decide)⟩
  · unfold X12_emits
    rw [mP113_12 h _ L, mI113 h 13 _ L, b2, w82 room, mS118 h _ _ _ L (by omega) (by omega), mP113_12 _ _ (by exact L), mI113 _ 13 _ (by exact L), gI_sAn _ _ _ _ _ (by decide), b2, w82 room, w83 room, mS118 _ _ _ _ (by exact L) (by omega) (by omega), mI113 _ 13 _ (by exact L), gI_sAn _ _ _ _ _ (by decide), gI_sAn _ _ _ _ _ (by decide), b2, w32j (by omega), mW113 _ 13 _ _ (by exact L)]
  · rw [gI_sIe, List.length_append]; rfl
  · rw [aI_sIn _ _ _ _ _ (by decide), aI_sA _ _ _ _ _ (by omega) (by omega), aI_sA _ _ _ _ _ (by omega) (by omega), aI_sA _ _ _ _ _ (by omega) (by omega), aI_sA _ _ _ _ _ (by omega) (by omega)]
    rcases app_gt e with ⟨q1, q2⟩ | ⟨q1, q2⟩
    · rw [if_neg (by omega), if_neg (by omega), if_neg (by omega), if_neg (by omega)]; exact b3 i s q2
    · have q3 : i - S.length < 1 := (List.getElem?_eq_some_iff.mp q2).1
      have q4 : i = S.length := by omega
      rw [q4, Nat.sub_self] at q2
      have q5 : some (x, y) = some s := q2
      cases q5
      rw [q4, if_neg (by omega), if_pos rfl, if_pos rfl]
      exact ⟨rfl, rfl⟩
  · rw [k2 9 (by decide)]; exact b4
theorem PA.of {h' : HP} (a : PA c R h j) (e : gI h' 113 6 = gI h 113 6) : PA c R h' j := by
  obtain ⟨p, a1, a2⟩ := a
  exact ⟨p, e.trans a1, a2⟩
theorem M_emit (d : MCx c R h j S rd wr dp) (x y : Int) (room : S.length < 400) : ∃ h', X12_emits F 113 x y h = some ((), h') ∧ MCx c R h' j (S ++ [(x, y)]) rd wr dp ∧ OR h h' := by
  obtain ⟨h', a1, a2, a3, a4, -⟩ := M_emits (F := F) d.1 x y room
  exact ⟨h', a1, ⟨a2, d.2.of a4⟩, a3⟩
theorem M_isRead (d : MR c R h S rd wr dp) (n : Int) (hn : 0 ≤ n ∧ n < 64) : ∃ h', X12_isRead F 113 n h = some ((), h') ∧ MR c R h' S (fun i => rd i || (decide (n = (i : Int)) && !wr i)) wr dp ∧ OR h h' ∧ gI h' = gI h := by
  obtain ⟨w, rfl⟩ := Int.eq_ofNat_of_zero_le hn.1
  have hw : w < 64 := by omega
  obtain ⟨b1, b2, b4, b5, b6⟩ := d
  have L := b1.1
  have q : (xcmp (yand (yshr (gJ h 113 14) (w : Int)) 1) 0 = 0) ↔ wr w = false := by
    rw [xcmp_0, yand_1, tb_shr _ w hw, b6 w hw]
    cases wr w with
    | true => exact ⟨fun x => absurd x (by decide), fun x => absurd x (by decide)⟩
    | false => exact ⟨fun _ => rfl, fun _ => rfl⟩
  refine ⟨sJ h 113 15 (yor (gJ h 113 15) (if wr w = false then yshl 1 (w : Int) else 0)), ?_, ⟨b1.om (OM.J h 15 _), b2, b4, fun i hi => ?_, fun i hi => ?_⟩, OR.J h 15 _, rfl⟩
  · unfold X12_isRead X12_isRead_L25
    rw [mJ113 h 15 _ L, mJ113 h 14 _ L, mV113 h 15 _ _ L]
    by_cases e : wr w = false
    · rw [if_pos (q.mpr e), if_pos e]
    · rw [if_neg (fun x => e (q.mp x)), if_neg e]
  · show _ = (rd i || (decide ((w : Int) = (i : Int)) && !wr i))
    rw [gJ_sJe, tb_or, b5 i hi, dec_w]
    by_cases e : wr w = false
    · rw [if_pos e, tb_shl1 w hw i hi]
      by_cases e2 : i = w
      · rw [e2, e]; cases rd w <;> cases decide (w = w) <;> rfl
      · rw [decide_eq_false e2]; rfl
    · rw [if_neg e, tb_0]
      by_cases e2 : i = w
      · rw [e2]
        have e3 : wr w = true := by
          cases x : wr w with
          | true => rfl
          | false => exact absurd x e
        rw [e3]
        cases rd w <;> cases decide (w = w) <;> rfl
      · rw [decide_eq_false e2]; rfl
  · rw [gJ_sJ, if_neg (by omega)]; exact b6 i hi
end REN
