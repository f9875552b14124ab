/-! a line that totals words, and a line that rounds a word -/
def totN (W : Int → Int) : Nat → Int → Int → Int
  | 0, _, v => v
  | n + 1, i, v => totN W n (i + 1) (v + W (9 + i))
theorem totN_0 (W : Int → Int) (i v : Int) : totN W 0 i v = v := rfl
theorem totN_s (W : Int → Int) (n : Nat) (i v : Int) : totN W (n + 1) i v = totN W n (i + 1) (v + W (9 + i)) := rfl
section TT
variable {F : Nat} {W : Int → Int} {h : HP}
theorem E_totC (L : LayC h) (aw : ∀ i : Int, 0 ≤ i → i < 64 → aI h 12 i = W (9 + i) ∧ in32 (W (9 + i))) (w b : Int) (hb : b ≤ 63) : ∀ (m k : Nat) (i v : Int), 0 ≤ i → i + m = b + 1 → m < k → -(i * 2147483648) ≤ v → v ≤ i * 2147483648 → X1_doTotal_L6 F k 10 w b v i h = X1_doTotal_L40 F 10 w (totN W m i v) h := by
  intro m
  induction m with
  | zero =>
    intro k i v h0 hm hk h1 h2
    obtain ⟨k, rfl⟩ : ∃ k', k = k' + 1 := ⟨k - 1, by omega⟩
    show (if b < i then _ else _) = _
    rw [if_pos (by omega), totN_0]
  | succ m ih =>
    intro k i v h0 hm hk h1 h2
    obtain ⟨k, rfl⟩ : ∃ k', k = k' + 1 := ⟨k - 1, by omega⟩
    obtain ⟨a1, a2⟩ := aw i h0 (by omega)
    unfold in32 at a2
    have ew := E_wordAt (F := F) (h := h) i L ⟨h0, by omega⟩
    rw [a1] at ew
    have e1 : w64 (v + W (9 + i)) = v + W (9 + i) := w64i _ (by omega) (by omega)
    have e2 : w32 (i + 1) = i + 1 := w32i _ (by omega) (by omega)
    have x := ih k (i + 1) (v + W (9 + i)) (by omega) (by omega) (by omega) (by omega) (by omega)
    rw [totN_s, ← x]
    show (if b < i then _ else if (64 : Int) ≤ i then _ else (xgP h (some 10) 1 8 0).bind _) = _
    rw [if_neg (by omega), if_neg (by omega), cP10_0 h _ L, cR11 h _ L, b_xb _ _ _ _ ew, e1, e2]
    rfl
theorem E_totM (rc8 : Nat → Int → Int → Int → Int → HP → Option (Int × HP)) (L : LayM h) (rW : aI h 114 = W) (oW : okWT W) (j : Nat) (hj : j < 12) (how fi n w b o : Int) (ho : 22 ≤ o ∧ o < 82) (e3 : W (169 + 882 * (j : Int) + (o + 3)) = b) (hb : b ≤ 63) : ∀ (m k : Nat) (i v : Int), 0 ≤ i → i + m = b + 1 → m < k → -(i * 2147483648) ≤ v → v ≤ i * 2147483648 → X12_goes_L192 F rc8 k 113 j how fi n o w v i h = xb (X12_puts F 113 j w (totN W m i v) fi how h) (fun v7 h8 => if v7 = 0 then some (0, h8) else X12_goes_L327 F rc8 113 j how fi n h8) := by
  have i3 : w32 (o + 3) = o + 3 := w32i _ (by omega) (by omega)
  have t3 := E_its (F := F) (h := h) (j : Int) (o + 3) L (by omega)
  rw [rW, e3] at t3
  intro m
  induction m with
  | zero =>
    intro k i v h0 hm hk h1 h2
    obtain ⟨k, rfl⟩ : ∃ k', k = k' + 1 := ⟨k - 1, by omega⟩
    show ((xrc h (some 113) 12 31).bind fun a3 => xb (X12_its F a3 j (w32 (o + 3)) h) fun v1 h2 => if v1 < i then _ else _) = _
    rw [mR113 h _ L, i3, b_xb _ _ _ _ t3, if_pos (by omega), mR113 h _ L, totN_0]
  | succ m ih =>
    intro k i v h0 hm hk h1 h2
    obtain ⟨k, rfl⟩ : ∃ k', k = k' + 1 := ⟨k - 1, by omega⟩
    obtain ⟨a2, -⟩ := oW.1 i h0 (by omega)
    unfold in32 at a2
    have e1 : w64 (v + W (9 + i)) = v + W (9 + i) := w64i _ (by omega) (by omega)
    have e2 : w32 (i + 1) = i + 1 := w32i _ (by omega) (by omega)
    have e9 : w32 (9 + i) = 9 + i := w32i _ (by omega) (by omega)
    have x := ih k (i + 1) (v + W (9 + i)) (by omega) (by omega) (by omega) (by omega) (by omega)
    rw [totN_s, ← x]
    show ((xrc h (some 113) 12 31).bind fun a3 => xb (X12_its F a3 j (w32 (o + 3)) h) fun v1 h2 => if v1 < i then _ else _) = _
    rw [mR113 h _ L, i3, b_xb _ _ _ _ t3, if_neg (by omega)]
    simp (disch := (first | assumption | with_reducible rfl | (simp only [LayC_sI, LayC_sJ, LayC_sA, LayC_sB, LayC_sIr, LayC_exc, LayM_sI, LayM_sJ, LayM_sA, LayM_sB, LayM_sIr, LayM_exc, LayK_sI, LayK_sJ, LayK_sA, LayK_sB, LayK_sIr, LayK_exc]; assumption) | omega | decide | (simp (disch := (first | decide | omega)) only [gI_sJ, gI_sB, gI_sP, gI_exc, gI_sIe, aI_sJ, aI_sB, aI_sP, aI_exc, aI_sAe, aJ_sI, aJ_sA, aJ_sP, aJ_sIr, aJ_exc, aJ_sBe, gJ_sI, gJ_sA, gJ_sP, gJ_sIr, gJ_exc, gP_sI, gP_sJ, gP_sA, gP_sB, gP_sIr, gP_exc, gI_sIn, gI_sIk, gI_sAn, gI_sIrn, aI_sIn, aI_sAn, aI_sIrn, aI_sAk, aJ_sJn, aJ_sBn, gJ_sJn, gJ_sBn, gJ_sJe, gS_sI, gS_sJ, gS_sP, gS_sA, gS_sB, gS_sIr, gS_exc, w32i, w64i]; first | done | assumption | omega))) only [↓b_xbs, ↓b_xthr, ↓b_xthl, ↓b_xctr, ↓b_xctl, ↓b_xz, ↓b_xzX, ↓b_xd, ↓if_pos, ↓if_neg, ↓mI113, ↓mW113, ↓mZ113, ↓mJ113, ↓mV113, ↓mR113, ↓mA114, ↓mS114, ↓mL114, ↓mA115, ↓mS115, ↓mL115, ↓mA116, ↓mS116, ↓mL116, ↓mA117, ↓mS117, ↓mL117, ↓mA118, ↓mS118, ↓mL118, ↓mA119, ↓mS119, ↓mL119, ↓mA120, ↓mS120, ↓mL120, ↓mA121, ↓mS121, ↓mL121, ↓mA122, ↓mS122, ↓mL122, ↓mA123, ↓mS123, ↓mL123, ↓mA124, ↓mS124, ↓mL124, ↓mA125, ↓mS125, ↓mL125, ↓mA126, ↓mS126, ↓mL126, ↓mP113_1, ↓mP113_2, ↓mP113_4, ↓mP113_11, ↓mP113_12, ↓mP113_16, ↓mP113_17, ↓mP113_18, ↓mP113_24, ↓mP113_25, ↓mP113_29, ↓mP113_30, e9]
    rw [rW, e1, e2]
    rfl
def rndV (x d : Int) : Int := if 2 * (x % d) < d then x - x % d else x - x % d + d
theorem yx_sg (x d : Int) (hx : in32 x) (h0 : 0 ≤ d) (h1 : d ≤ 9999) : 0 ≤ yxor x d ↔ 0 ≤ x := by
  have e : yxor x d = (BitVec.ofInt 64 x ^^^ BitVec.ofInt 64 d).toInt := rfl
  have m := BitVec.msb_eq_toInt (x := BitVec.ofInt 64 x ^^^ BitVec.ofInt 64 d)
  have ex : (BitVec.ofInt 64 x).toInt = x := by
    rw [BitVec.toInt_ofInt]
    unfold in32 at hx
    exact Int.bmod_eq_of_le (by omega) (by omega)
  have ed : (BitVec.ofInt 64 d).toInt = d := by
    rw [BitVec.toInt_ofInt]
    exact Int.bmod_eq_of_le (by omega) (by omega)
  have mx := BitVec.msb_eq_toInt (x := BitVec.ofInt 64 x)
  have md := BitVec.msb_eq_toInt (x := BitVec.ofInt 64 d)
  rw [ex] at mx
  rw [ed, decide_eq_false (by omega)] at md
  rw [BitVec.msb_xor, mx, md, ← e, Bool.xor_false] at m
  have q := decide_eq_decide.mp m
  omega
theorem tm_fl (x d : Int) (hd : 0 < d) : (0 ≤ x → x.tmod d = x % d) ∧ (¬ 0 ≤ x → (x.tmod d = 0 → x % d = 0) ∧ (x.tmod d ≠ 0 → x.tmod d + d = x % d)) := by
  refine ⟨fun h => Int.tmod_eq_emod_of_nonneg h, fun h => ?_⟩
  have a1 := Int.tmod_add_mul_tdiv x d
  have a2 := Int.emod_add_mul_ediv x d
  have b1 := Int.emod_nonneg x (show d ≠ 0 by omega)
  have b2 := Int.emod_lt_of_pos x hd
  have q := Int.tmod_eq_emod (a := x) (b := d)
  by_cases c : d ∣ x
  · rw [if_pos (Or.inr c)] at q
    have z : x % d = 0 := Int.emod_eq_zero_of_dvd c
    exact ⟨fun _ => z, fun w => absurd (by omega) w⟩
  · rw [if_neg (fun w => w.elim h c)] at q
    have z : x % d ≠ 0 := fun w => c (Int.dvd_of_emod_eq_zero w)
    exact ⟨fun _ => by omega, fun _ => by omega⟩
theorem td_fl (x d : Int) (hd : 0 < d) : (0 ≤ x → x.tdiv d = x / d) ∧ (¬ 0 ≤ x → (x.tdiv d * d = x → x.tdiv d = x / d) ∧ (x.tdiv d * d ≠ x → x.tdiv d - 1 = x / d)) := by
  refine ⟨fun h => Int.tdiv_eq_ediv_of_nonneg h, fun h => ?_⟩
  have q := Int.tdiv_eq_ediv (a := x) (b := d)
  have a2 := Int.emod_add_mul_ediv x d
  have b2 := Int.emod_lt_of_pos x hd
  by_cases c : d ∣ x
  · rw [if_pos (Or.inr c)] at q
    have z : x % d = 0 := Int.emod_eq_zero_of_dvd c
    have y : x.tdiv d * d = x := by rw [q, Int.add_zero, Int.mul_comm]; omega
    exact ⟨fun _ => by omega, fun w => absurd y w⟩
  · rw [if_neg (fun w => w.elim h c), Int.sign_eq_one_of_pos hd] at q
    refine ⟨fun w => ?_, fun _ => by omega⟩
    exact absurd ⟨x.tdiv d, by rw [Int.mul_comm]; exact w.symm⟩ c
theorem fl_mod (x d : Int) (hd : 0 < d) (hx : in32 x) (hd2 : d ≤ 9999) : XJ9_floorMod_f86c9 F x d h = some (x % d, h) := by
  obtain ⟨p1, p2⟩ := tm_fl x d hd
  have b1 := Int.emod_nonneg x (show d ≠ 0 by omega)
  have b2 := Int.emod_lt_of_pos x hd
  have ed : xd d = some () := by unfold xd; rw [if_neg (by omega)]
  unfold XJ9_floorMod_f86c9
  rw [ed]
  show some (_, h) = _
  by_cases c : 0 ≤ x
  · rw [if_pos (by rw [xcmp_ge, yx_sg x d hx (by omega) hd2]; exact c), p1 c]
  · rw [if_neg (by rw [xcmp_ge, yx_sg x d hx (by omega) hd2]; exact c)]
    by_cases z : x.tmod d = 0
    · rw [if_pos (by rw [xcmp_0]; exact z), z, (p2 c).1 z]
    · rw [if_neg (by rw [xcmp_0]; exact z), (p2 c).2 z, w64i _ (by omega) (by omega)]
theorem fl_div (x d : Int) (hd : 0 < d) (hx : in32 x) (hd2 : d ≤ 9999) : XJ9_floorDiv_f86c9 F x d h = some (x / d, h) := by
  obtain ⟨p1, p2⟩ := td_fl x d hd
  unfold in32 at hx
  have m1 := Int.emod_add_mul_ediv x d
  have b1 := Int.emod_nonneg x (show d ≠ 0 by omega)
  have b2 := Int.emod_lt_of_pos x hd
  have n1 : (x.tdiv d).natAbs ≤ x.natAbs := by
    rw [Int.natAbs_tdiv]; exact Nat.div_le_self _ _
  have n2 : (x.tdiv d * d).natAbs ≤ x.natAbs := by
    rw [Int.natAbs_mul, Int.natAbs_tdiv]; exact Nat.div_mul_le_self _ _
  have e1 : w64 (x.tdiv d) = x.tdiv d := w64i _ (by omega) (by omega)
  have e2 : w64 (x.tdiv d * d) = x.tdiv d * d := w64i _ (by omega) (by omega)
  have e3 : w64 (x.tdiv d - 1) = x.tdiv d - 1 := w64i _ (by omega) (by omega)
  have ed : xd d = some () := by unfold xd; rw [if_neg (by omega)]
  unfold XJ9_floorDiv_f86c9
  rw [ed]
  show some (_, h) = _
  rw [e1, e2, e3]
  by_cases c : 0 ≤ x
  · rw [if_pos (by rw [xcmp_ge, yx_sg x d (by unfold in32; omega) (by omega) hd2]; exact c), p1 c]
  · rw [if_neg (by rw [xcmp_ge, yx_sg x d (by unfold in32; omega) (by omega) hd2]; exact c)]
    by_cases z : x.tdiv d * d = x
    · rw [if_pos (by rw [xcmp_0]; exact z), (p2 c).1 z]
    · rw [if_neg (by rw [xcmp_0]; exact z), (p2 c).2 z]
theorem E_roundM (x d : Int) (hd : 0 < d) (hx : in32 x) (hd2 : d ≤ 9999) : X12_rounded F x d h = some (rndV x d, h) := by
  have m1 := Int.emod_add_mul_ediv x d
  have b1 := Int.emod_nonneg x (show d ≠ 0 by omega)
  have b2 := Int.emod_lt_of_pos x hd
  have eL : x / d * d = x - x % d := by rw [Int.mul_comm]; omega
  have x9 := hx
  unfold in32 at x9
  unfold X12_rounded rndV
  rw [b_xb _ _ _ _ (fl_div (F := F) (h := h) x d hd hx hd2), eL]
  generalize x % d = r at *
  rw [w64i (x - r) (by omega) (by omega), w64i (x - r + d) (by omega) (by omega), w64i (x - (x - r)) (by omega) (by omega), w64i (x - r + d - x) (by omega) (by omega)]
  by_cases c : 2 * r < d
  · rw [if_pos c, if_pos (by rw [xcmp_lt]; omega)]
  · rw [if_neg c, if_neg (by rw [xcmp_lt]; omega)]
theorem E_roundC (L : LayC h) (w d : Int) (hw : 0 ≤ w ∧ w < 64) (hd : 0 < d) (hd2 : d ≤ 9999) (x : Int) (hx : in32 x) (ex : aI h 12 w = x) : X1_doRound F 10 w d h = xb (X1_put F 10 w (rndV x d) h) (fun v1 h2 => xz v1 h2) := by
  have b1 := Int.emod_nonneg x (show d ≠ 0 by omega)
  have b2 := Int.emod_lt_of_pos x hd
  have ew := E_wordAt (F := F) (h := h) w L hw
  rw [ex] at ew
  have x9 := hx
  unfold in32 at x9
  have fm := fl_mod (F := F) (h := h) x d hd hx hd2
  unfold X1_doRound X1_doRound_L52 rndV
  rw [if_pos hd, cP10_0 h _ L, cR11 h _ L, b_xb _ _ _ _ ew, b_xb _ _ _ _ fm, cR10 h _ L]
  generalize x % d = r at *
  rw [w64i (2 * r) (by omega) (by omega), w64i (x - r) (by omega) (by omega), w64i (x - r + d) (by omega) (by omega)]
  by_cases c : 2 * r < d
  · rw [if_pos c, if_pos (by rw [xcmp_lt]; omega)]
  · rw [if_neg c, if_neg (by rw [xcmp_lt]; omega)]
end TT
