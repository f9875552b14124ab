/-! the class reads a text, whole -/
abbrev Lf (c : Nat → Int) (R : Nat) : List Nat := bgs c R R 0
abbrev pTx (c : Nat → Int) (R : Nat) : Rs (List Lin) := pTxt (Kf c R (Lf c R)) (Nf c R (Lf c R))
theorem Lf_in (c : Nat → Int) (R : Nat) : (∀ x ∈ Lf c R, x < R) ∧ (Lf c R).length ≤ R := by
  obtain ⟨a, b⟩ := bgs_in c R R 0
  exact ⟨fun x hx => (a x hx).2, by show (bgs c R R 0).length ≤ R; omega⟩
theorem OT.enn {a b : HP} (x : OT a b) : gn b = gn a := x.1.2.2.2.1
section RDT
variable {F : Nat} {c : Nat → Int} {R : Nat} {h : HP}
theorem T_bad {K N B : Nat → Int} {T e : Nat} (o : okK K N T) (s : SF0 K N B T h e) (z : Int) : X8_readText_L150 F 2 z 0 h = some (none, sI h 2 16 (B e)) := by
  obtain ⟨cd, nm, rd, wr, d⟩ := s
  unfold X8_readText_L150
  rw [if_pos rfl, cR2 h _ d.1, b_xb _ _ _ _ (T_begin o d)]
  unfold X8_readText_L163
  rw [cW2 h 16 _ _ d.1, if_pos rfl]
theorem T_text (b : BY c R h) (hc : ∀ i, i < R → 0 ≤ c i) (hF : 500 ≤ F) (hg : 126 ≤ gn h ∧ gn h < 899990) : match pTx c R with
  | .inl e => ∃ h', X8_readText F 2 (R : Int) h = some (none, sI h' 2 16 (Bf R (Lf c R) e)) ∧ OT h h' ∧ e ≤ (Lf c R).length
  | .inr (A, _) => ∃ h' H, X8_readText F 2 (R : Int) h = some (some (gn h' + 1), H) ∧ OT h h' ∧ NewT h' H (prgC A) (A.length : Int) (gJ h' 2 14) (gJ h' 2 15) ∧ (∀ i, i < 64 → tb (gJ h' 2 14) i = rdF (fun _ => false) (fun _ => false) A i) ∧ (∀ i, i < 64 → tb (gJ h' 2 15) i = wrF (fun _ => false) A i) ∧ (prgC A).length ≤ 1200 ∧ LayC h' ∧ (∀ l ∈ A, okL l) ∧ A.length ≤ 10 ∧ in64 (gJ h' 2 14) ∧ in64 (gJ h' 2 15) := by
  have hR := b.2.1
  obtain ⟨lf1, lf2⟩ := Lf_in c R
  have o := Kf_ok hR hc (Lf c R) lf1 lf2
  have o1 : OT h (sI h 2 5 0) := OT.I h 5 0 (by decide)
  have b1 : BY c R (sI h 2 5 0) := ⟨b.1, hR, fun x hx => by rw [aI_sIn _ _ _ _ _ (by decide)]; exact b.2.2 x hx⟩
  obtain ⟨g, a1, a2, a3, a4, a5, a6, -⟩ := E_scanL (F := F) hF hc R 0 0 F (sI h 2 5 0) b1 (by omega) (by omega) (by omega) (by omega) (gI_sIe _ _ _ _)
  have L := a3.1
  rw [Nat.zero_add] at a4 a6
  have rows : ∀ t : Nat, t ≤ (Lf c R).length → aI g 4 t = Kf c R (Lf c R) t ∧ aI g 5 t = Bf R (Lf c R) t ∧ aI g 6 t = Nf c R (Lf c R) t := by
    intro t ht
    unfold Kf Bf Nf
    cases e : (Lf c R)[t]? with
    | some i =>
      have x := a5 t i e
      rw [Nat.zero_add] at x
      exact x
    | none =>
      have w := List.getElem?_eq_none_iff.mp e
      have w2 : t = (Lf c R).length := by omega
      rw [w2]
      exact a6
  have d : SC (Kf c R (Lf c R)) (Nf c R (Lf c R)) (Bf R (Lf c R)) (Lf c R).length (sJ (sJ (sI (sI g 2 6 0) 2 9 0) 2 14 0) 2 15 0) 0 [] (fun i => tb (gJ g 2 13) i) (fun _ => false) (fun _ => false) := by
    refine ⟨L, fun t ht => ?_, ?_, ?_, Nat.zero_le _, ?_, Nat.zero_le _, fun i z e => (by cases e), fun i hi => ?_, fun i hi => ?_, fun i hi => ?_, ?_, ?_⟩
    · rw [aI_sJ, aI_sJ, aI_sIn _ _ _ _ _ (by decide), aI_sIn _ _ _ _ _ (by decide), aI_sIn _ _ _ _ _ (by decide), aI_sIn _ _ _ _ _ (by decide), aI_sIn _ _ _ _ _ (by decide), aI_sIn _ _ _ _ _ (by decide)]
      exact rows t ht
    · rw [gI_sJ, gI_sJ, gI_sIk _ _ _ _ _ (by decide), gI_sIk _ _ _ _ _ (by decide), a4]
      show (((Lf c R).length + 1 : Nat) : Int) = _
      omega
    · rw [gI_sJ, gI_sJ, gI_sIk _ _ _ _ _ (by decide), gI_sIe]; rfl
    · rw [gI_sJ, gI_sJ, gI_sIe]; rfl
    · rw [gJ_sJ, if_neg (by omega), gJ_sJ, if_neg (by omega)]; rfl
    · rw [gJ_sJ, if_neg (by omega), gJ_sJe]; exact tb_0 i
    · rw [gJ_sJe]; exact tb_0 i
    · rw [gJ_sJ, if_neg (by omega), gJ_sJe]; exact ⟨by omega, by omega⟩
    · rw [gJ_sJe]; exact ⟨by omega, by omega⟩
  have ot : OT h (sJ (sJ (sI (sI g 2 6 0) 2 9 0) 2 14 0) 2 15 0) := ((((o1.tr a2).tr (OT.I g 6 0 (by decide))).tr (OT.I _ 9 0 (by decide))).tr (OT.J _ 14 0)).tr (OT.J _ 15 0)
  have st : X8_readText F 2 (R : Int) h = X8_readText_L50 F 2 0 (if Kf c R (Lf c R) 0 = -1 then 1 else 0) (sJ (sJ (sI (sI g 2 6 0) 2 9 0) 2 14 0) 2 15 0) := by
    have es : X8_scan F 2 (max 0 (min (R : Int) 400)) h = some ((), g) := by
      unfold X8_scan
      rw [show max 0 (min (R : Int) 400) = (R : Int) by omega, cW2 h 5 _ _ b.1]
      exact a1
    unfold X8_readText
    rw [cR2 h _ b.1, b_xb _ _ _ _ es, cW2 g 6 _ _ L, cW2 _ 9 _ _ (by exact L), cV2 _ 14 _ _ (by exact L), cV2 _ 15 _ _ (by exact L), cR2 _ _ (by exact L), b_xb _ _ _ _ (T_kind o d)]
  rw [st]
  revert d ot
  generalize sJ (sJ (sI (sI g 2 6 0) 2 9 0) 2 14 0) 2 15 0 = q
  intro d ot
  unfold X8_readText_L50 X8_readText_L60
  show match (if Kf c R (Lf c R) 0 = -1 then Sum.inr ([], 0) else pLs (Kf c R (Lf c R)) (Nf c R (Lf c R)) 10 0 : Rs (List Lin)) with
    | .inl e => _
    | .inr (A, _) => _
  have hgq : gn q = gn h := ot.enn
  by_cases c1 : Kf c R (Lf c R) 0 = -1
  · rw [if_pos c1, if_pos c1, if_neg (by decide)]
    have d' := d
    obtain ⟨H, p1, p2⟩ := T_made (F := F) d 0 (Nat.zero_le _) (by omega)
    obtain ⟨k, rfl⟩ : ∃ k', F = k' + 1 := ⟨F - 1, by omega⟩
    have e1 : X8_readText_L65 (k + 1) (k + 1) 2 0 1 0 0 q = X8_readText_L150 (k + 1) 2 0 1 q := rfl
    obtain ⟨-, -, -, -, -, -, -, -, -, z1, z2, z3⟩ := d'
    refine ⟨q, H, e1.trans p1, ot, p2, fun i hi => z1 i hi, fun i hi => ?_, Nat.zero_le _, d.1, fun l hl => (by cases hl), Nat.zero_le _, z3⟩
    rw [z2 i hi]
    unfold wrF
    rw [List.any_nil]
    rfl
  · rw [if_neg c1, if_neg c1, if_pos rfl]
    have x := T_lines (F := F) o hF 10 0 F 0 q 0 [] _ _ _ rfl (Nat.le_refl _) (by omega) d (Nat.zero_le _)
    cases e : pLs (Kf c R (Lf c R)) (Nf c R (Lf c R)) 10 0 with
    | inl y =>
      rw [e] at x
      obtain ⟨h', z, x1, x2, x3⟩ := x
      have x1' : X8_readText_L65 F F 2 0 0 1 0 q = X8_readText_L150 F 2 z 0 h' := x1
      refine ⟨h', ?_, ot.tr x3, ?_⟩
      · rw [x1']
        exact T_bad o x2 z
      · obtain ⟨cd, nm, rd, wr, d2⟩ := x2
        exact d2.2.2.2.2.1
    | inr y =>
      obtain ⟨A, m⟩ := y
      rw [e] at x
      obtain ⟨h', nm', x1, x2, x3, x4⟩ := x
      obtain ⟨y1, y2, y3, y4⟩ := pLs_ok o 10 0 m A e
      have x1' : X8_readText_L65 F F 2 0 0 1 0 q = X8_readText_L150 F 2 ((0 + A.length : Nat) : Int) 1 h' := x1
      have hgn : gn h' = gn q := x3.enn
      rw [List.nil_append] at x2 x4
      obtain ⟨H, p1, p2⟩ := T_made (F := F) x2 ((0 + A.length : Nat) : Int) (by omega) (by omega)
      rw [Nat.zero_add] at p2
      have L' := x2.1
      obtain ⟨-, -, -, -, -, -, -, -, -, z1, z2, z3⟩ := x2
      exact ⟨h', H, x1'.trans p1, ot.tr x3, p2, z1, z2, by omega, L', y4, y1, z3⟩
end RDT
