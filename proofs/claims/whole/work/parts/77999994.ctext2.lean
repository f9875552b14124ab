/-! the class makes a new text -/
theorem alc_allS (h : HP) (S : Nat × Nat) (a : Nat) (g : a + 12 ≤ gn h) : (∀ i : Nat, i < 12 → gS (alc h S) (a + i) = (2, 18)) = (∀ i : Nat, i < 12 → gS h (a + i) = (2, 18)) := by
  apply propext
  constructor
  · intro q i hi
    have x := q i hi
    rw [gS_alc, if_neg (by omega)] at x
    exact x
  · intro q i hi
    rw [gS_alc, if_neg (by omega)]
    exact q i hi
theorem alc_allP (h : HP) (S : Nat × Nat) (b a : Nat) (g : b ≤ gn h) : (∀ i : Nat, i < 12 → gP (alc h S) b i = some (a + i)) = (∀ i : Nat, i < 12 → gP h b i = some (a + i)) := by
  apply propext
  constructor
  · intro q i hi
    have x := q i hi
    rw [gP_alc, if_neg (by omega)] at x
    exact x
  · intro q i hi
    rw [gP_alc, if_neg (by omega)]
    exact q i hi
theorem LayC_alc (h : HP) (S : Nat × Nat) (g : 126 ≤ gn h) : LayC (alc h S) = LayC h := by
  unfold LayC
  rw [alc_allS h S 25 (by omega), alc_allP h S 20 25 (by omega)]
  simp (disch := omega) only [gS_alc, gP_alc, if_neg]
theorem LayK_alc (h : HP) (S : Nat × Nat) (g : 126 ≤ gn h) : LayK (alc h S) = LayK h := by
  unfold LayK
  rw [alc_allS h S 72 (by omega), alc_allP h S 67 72 (by omega)]
  simp (disch := omega) only [gS_alc, gP_alc, if_neg]
theorem LayM_alc (h : HP) (S : Nat × Nat) (g : 126 ≤ gn h) : LayM (alc h S) = LayM h := by
  unfold LayM
  simp (disch := omega) only [gS_alc, gP_alc, if_neg]
theorem b_newo {β : Type} (h : HP) (ci N : Nat) (f : HP → Option β) (g : gn h < 900000) : (xnw h ci N).bind f = f (alc h (ci, N)) := by
  unfold xnw
  rw [if_pos g]
  rfl
theorem b_newa {β : Type} (h : HP) (t n : Nat) (f : HP → Option β) (hn : n ≤ 65536) (g : gn h < 900000) : (xna h t (n : Int)).bind f = f (alc h (t, n)) := by
  unfold xna
  rw [if_pos ⟨by omega, by omega, g⟩]
  rfl
def cpyH (h : HP) (n : Nat) : HP := sIr (alc h (100, n)) (gn h + 1) (fun k => if k < n then gI h 7 k else 0)
theorem E_cpyH (F n : Nat) (h : HP) (L : LayC h) (hn : n ≤ 1200) (g : 126 ≤ gn h ∧ gn h < 899999) : XJ7_copyOf_59c91 F (some 7) (n : Int) h = some (some (gn h + 1), cpyH h n) := by
  have s7 : gS h 7 = (100, 1208) := L.2.2.2.2.2.2.1
  have s7' : gS (alc h (100, n)) 7 = (100, 1208) := by rw [gS_alc, if_neg (by omega)]; exact s7
  have sn : gS (alc h (100, n)) (gn h + 1) = (100, n) := by rw [gS_alc, if_pos rfl]
  have e1 : (min ((1208 : Nat) : Int) (n : Int)) = (n : Int) := by omega
  have gnn : gn (alc h (100, n)) = gn h + 1 := rfl
  unfold XJ7_copyOf_59c91
  rw [b_al h 7 100 1208 _ s7 (by decide), if_neg (by omega), b_newa h 100 n _ (by omega) (by omega), b_al _ 7 100 1208 _ s7' (by decide), gnn, e1, b_cp _ 7 (gn h + 1) 0 0 (n : Int) _ 1208 n s7' sn (by omega)]
  have ef : (fun k => if (0 : Int).toNat ≤ k ∧ k < (0 : Int).toNat + ((n : Int)).toNat then gI (alc h (100, n)) 7 ((0 : Int).toNat + (k - (0 : Int).toNat)) else gI (alc h (100, n)) (gn h + 1) k) = (fun k => if k < n then gI h 7 k else 0) := by
    funext k
    by_cases q : k < n
    · rw [if_pos q, if_pos (by omega), gI_alc, if_neg (by omega)]
      congr 1
      omega
    · rw [if_neg q, if_neg (by omega), gI_alc, if_pos rfl]
  rw [ef]
  rfl
/-- what a new text is: H over h, the text at gn h + 1, with its code -/
def NewT (h H : HP) (cd : List Int) (n r w : Int) : Prop := gn H = gn h + 2 ∧ gc H = gc h + 2 ∧ gs H = gs h + 4 + cd.length ∧ (∀ x, x ≤ gn h → x ≠ 2 → gI H x = gI h x) ∧ (∀ k, gI H 2 k = if k = 16 then -1 else gI h 2 k) ∧ (∀ x, x ≤ gn h → gJ H x = gJ h x) ∧ (∀ x, x ≤ gn h → gP H x = gP h x) ∧ (∀ x, x ≤ gn h → gS H x = gS h x) ∧ gS H (gn h + 1) = (9, 4) ∧ gP H (gn h + 1) 0 = some (gn h + 2) ∧ gS H (gn h + 2) = (100, cd.length) ∧ (∀ (i : Nat) (z : Int), cd[i]? = some z → aI H (gn h + 2) i = z) ∧ gI H (gn h + 1) 1 = n ∧ gJ H (gn h + 1) 2 = r ∧ gJ H (gn h + 1) 3 = w
section MKT
variable {F : Nat} {K N B : Nat → Int} {T : Nat} {h : HP} {j : Nat} {cd : List Int} {nm rd wr : Nat → Bool}
theorem T_made (d : SC K N B T h j cd nm rd wr) (n : Int) (hc : cd.length ≤ 1200) (g : 126 ≤ gn h ∧ gn h < 899990) : ∃ H, X8_readText_L150 F 2 n 1 h = some (some (gn h + 1), H) ∧ NewT h H cd n (gJ h 2 14) (gJ h 2 15) := by
  obtain ⟨L, -, -, -, -, d5, -, d7, -⟩ := d
  have L1 : LayC (alc (sI h 2 16 (-1)) (9, 4)) := by rw [LayC_alc _ _ (by exact g.1)]; exact L
  have g9 : gI (alc (sI h 2 16 (-1)) (9, 4)) 2 9 = cd.length := by
    rw [gI_alc, if_neg (by show ¬ 2 = gn h + 1; omega), gI_sIk _ _ _ _ _ (by decide)]; exact d5
  have gn1 : gn (alc (sI h 2 16 (-1)) (9, 4)) = gn h + 1 := rfl
  have emx : max 0 ((cd.length : Nat) : Int) = (cd.length : Nat) := by omega
  have ec := E_cpyH F cd.length _ L1 hc (by rw [gn1]; omega)
  have L2 : LayC (cpyH (alc (sI h 2 16 (-1)) (9, 4)) cd.length) := by
    unfold cpyH
    rw [LayC_sIr, LayC_alc _ _ (by rw [gn1]; omega)]; exact L1
  have st2 : gS (cpyH (alc (sI h 2 16 (-1)) (9, 4)) cd.length) (gn h + 1) = (9, 4) := by
    unfold cpyH
    rw [gS_sIr, gS_alc, gn1, if_neg (by omega), gS_alc]
    exact if_pos rfl
  have j14 : ∀ k, gJ (cpyH (alc (sI h 2 16 (-1)) (9, 4)) cd.length) 2 k = gJ h 2 k := fun k => by
    unfold cpyH
    rw [gJ_sIr, gJ_alc, gn1, if_neg (by omega), gJ_alc, if_neg (by show ¬ 2 = gn h + 1; omega)]
    rfl
  rw [gn1] at ec
  refine ⟨sJ (sJ (sI (sP (cpyH (alc (sI h 2 16 (-1)) (9, 4)) cd.length) (gn h + 1) 0 (some (gn h + 1 + 1))) (gn h + 1) 1 n) (gn h + 1) 2 (gJ h 2 14)) (gn h + 1) 3 (gJ h 2 15), ?_, ?_⟩
  · unfold X8_readText_L150
    rw [if_neg (by decide)]
    unfold X8_readText_L163
    rw [cW2 h 16 _ _ L, if_neg (by decide), b_newo _ 9 4 _ (by show gn h < 900000; omega), cP2_8 _ _ L1, cI2 _ 9 _ L1, g9, emx, b_xb _ _ _ _ ec, cJ2 _ 14 _ L2, cJ2 _ 15 _ L2, j14, j14, gn1]
    unfold X9_init
    rw [b_pP _ (gn h + 1) 9 4 0 _ _ st2, b_pI _ (gn h + 1) 9 4 1 _ _ (by exact st2), b_pJ _ (gn h + 1) 9 4 2 _ _ (by exact st2), b_pJ _ (gn h + 1) 9 4 3 _ _ (by exact st2)]
    rfl
  · have eI : ∀ x k, x ≠ gn h + 1 → gI (sJ (sJ (sI (sP (cpyH (alc (sI h 2 16 (-1)) (9, 4)) cd.length) (gn h + 1) 0 (some (gn h + 1 + 1))) (gn h + 1) 1 n) (gn h + 1) 2 (gJ h 2 14)) (gn h + 1) 3 (gJ h 2 15)) x k = gI (cpyH (alc (sI h 2 16 (-1)) (9, 4)) cd.length) x k := fun x k q => by
      rw [gI_sJ, gI_sJ, gI_sIn _ _ _ _ _ q, gI_sP]
    have eJ : ∀ x k, x ≠ gn h + 1 → gJ (sJ (sJ (sI (sP (cpyH (alc (sI h 2 16 (-1)) (9, 4)) cd.length) (gn h + 1) 0 (some (gn h + 1 + 1))) (gn h + 1) 1 n) (gn h + 1) 2 (gJ h 2 14)) (gn h + 1) 3 (gJ h 2 15)) x k = gJ (cpyH (alc (sI h 2 16 (-1)) (9, 4)) cd.length) x k := fun x k q => by
      rw [gJ_sJ, if_neg (by omega), gJ_sJ, if_neg (by omega)]
      rfl
    have cI : ∀ x k, x ≤ gn h → gI (cpyH (alc (sI h 2 16 (-1)) (9, 4)) cd.length) x k = gI (sI h 2 16 (-1)) x k := fun x k q => by
      unfold cpyH
      rw [gI_sIr, gn1, if_neg (by omega), gI_alc, gn1, if_neg (by omega), gI_alc, if_neg (by show ¬ x = gn h + 1; omega)]
    refine ⟨rfl, rfl, rfl, fun x q1 q2 => ?_, fun k => ?_, fun x q => ?_, fun x q => ?_, fun x q => ?_, st2, ?_, ?_, fun i z q => ?_, ?_, ?_, ?_⟩
    · funext k
      rw [eI x k (by omega), cI x k q1, gI_sIn _ _ _ _ _ q2]
    · rw [eI 2 k (by omega), cI 2 k (by omega), gI_sI]
      by_cases q : k = 16
      · rw [if_pos q, if_pos (by omega)]
      · rw [if_neg q, if_neg (by omega)]
    · funext k
      rw [eJ x k (by omega)]
      unfold cpyH
      rw [gJ_sIr, gJ_alc, gn1, if_neg (by omega), gJ_alc, if_neg (by show ¬ x = gn h + 1; omega)]
      rfl
    · funext k
      rw [gP_sJ, gP_sJ, gP_sI, gP_sP, if_neg (by omega)]
      unfold cpyH
      rw [gP_sIr, gP_alc, gn1, if_neg (by omega), gP_alc, if_neg (by show ¬ x = gn h + 1; omega)]
      rfl
    · show gS (cpyH _ _) x = _
      unfold cpyH
      rw [gS_sIr, gS_alc, gn1, if_neg (by omega), gS_alc, if_neg (by show ¬ x = gn h + 1; omega)]
      rfl
    · rw [gP_sJ, gP_sJ, gP_sI, gP_sP, if_pos ⟨rfl, rfl⟩]
    · show gS (cpyH _ _) (gn h + 2) = _
      unfold cpyH
      rw [gS_sIr, gS_alc, gn1]
      exact if_pos rfl
    · have hi : i < cd.length := by
        rcases Nat.lt_or_ge i cd.length with q1 | q1
        · exact q1
        · rw [List.getElem?_eq_none q1] at q; cases q
      have q7 := d7 i z q
      show gI _ (gn h + 2) ((i : Int)).toNat = z
      rw [eI (gn h + 2) _ (by omega)]
      unfold cpyH
      rw [gI_sIr, gn1, if_pos rfl, show ((i : Int)).toNat = i by omega, if_pos hi, gI_alc, if_neg (by show ¬ 7 = gn h + 1; omega), gI_sIn _ _ _ _ _ (by decide)]
      exact q7
    · rw [gI_sJ, gI_sJ, gI_sIe]
    · rw [gJ_sJ, if_neg (by omega), gJ_sJe]
    · rw [gJ_sJe]
end MKT
