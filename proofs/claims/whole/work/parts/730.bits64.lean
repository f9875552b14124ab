/-! longs by their bits -/
theorem tb_ext {a b : Int} (ha : in64 a) (hb : in64 b) (h : ∀ i, i < 64 → tb a i = tb b i) : a = b := by
  have e : BitVec.ofInt 64 a = BitVec.ofInt 64 b := BitVec.eq_of_getLsbD_eq h
  have := congrArg BitVec.toInt e
  rw [BitVec.toInt_ofInt, BitVec.toInt_ofInt] at this
  unfold in64 at ha hb
  rw [show Int.bmod a (2 ^ 64) = a by rw [Int.bmod_def]; omega, show Int.bmod b (2 ^ 64) = b by rw [Int.bmod_def]; omega] at this
  exact this
theorem tb_big (a : Int) (i : Nat) (h : 64 ≤ i) : tb a i = false := BitVec.getLsbD_of_ge _ _ h
theorem tb_and (a b : Int) (i : Nat) : tb (yand a b) i = (tb a i && tb b i) := by
  have e : yand a b = (BitVec.ofInt 64 a &&& BitVec.ofInt 64 b).toInt := rfl
  unfold tb
  rw [e, BitVec.ofInt_toInt, BitVec.getLsbD_and]
theorem tb_or (a b : Int) (i : Nat) : tb (yor a b) i = (tb a i || tb b i) := by
  have e : yor a b = (BitVec.ofInt 64 a ||| BitVec.ofInt 64 b).toInt := rfl
  unfold tb
  rw [e, BitVec.ofInt_toInt, BitVec.getLsbD_or]
theorem tb_xor (a b : Int) (i : Nat) : tb (yxor a b) i = (tb a i ^^ tb b i) := by
  have e : yxor a b = (BitVec.ofInt 64 a ^^^ BitVec.ofInt 64 b).toInt := rfl
  unfold tb
  rw [e, BitVec.ofInt_toInt, BitVec.getLsbD_xor]
theorem tb_m1 : ∀ i, i < 64 → tb (-1) i = true := by decide +kernel
theorem tb_0 (i : Nat) : tb 0 i = false := by unfold tb; simp
theorem tb_shl1 : ∀ w, w < 64 → ∀ i, i < 64 → tb (yshl 1 (w : Nat)) i = decide (i = w) := by decide +kernel
theorem tb_1 : ∀ i, i < 64 → tb 1 i = decide (i = 0) := by decide +kernel
theorem yand_in (a b : Int) : in64 (yand a b) := in64_toInt _
theorem yor_in (a b : Int) : in64 (yor a b) := in64_toInt _
theorem yand_0 (a b : Int) : yand a b = 0 ↔ ∀ i, i < 64 → tb a i = true → tb b i = false := by
  constructor
  · intro h i hi ha
    have := tb_and a b i
    rw [h, tb_0, ha] at this
    cases e : tb b i with
    | false => rfl
    | true => rw [e] at this; cases this
  · intro h
    refine tb_ext (yand_in _ _) (by unfold in64; omega) (fun i hi => ?_)
    rw [tb_and, tb_0]
    cases e : tb a i with
    | false => rfl
    | true => rw [h i hi e]; rfl
theorem yshr_m : ∀ w, w < 64 → ((Int32.ofInt (w : Nat)).toInt64 &&& 63).toBitVec.smod 64#64 = BitVec.ofNat 64 w := by decide +kernel
theorem tb_shr (a : Int) (w : Nat) (hw : w < 64) : tb (yshr a w) 0 = tb a w := by
  have e : yshr a w = ((BitVec.ofInt 64 a).sshiftRight' (((Int32.ofInt (w : Nat)).toInt64 &&& 63).toBitVec.smod 64#64)).toInt := rfl
  rw [yshr_m w hw] at e
  unfold tb
  rw [e, BitVec.ofInt_toInt]
  rw [BitVec.sshiftRight'_ofNat_eq_sshiftRight]
  rw [Nat.mod_eq_of_lt (by omega), BitVec.getLsbD_sshiftRight]
  simp [hw]
theorem yand_1 (a : Int) : yand a 1 = if tb a 0 = true then 1 else 0 := by
  refine tb_ext (yand_in _ _) (by split <;> (unfold in64; omega)) (fun i hi => ?_)
  rw [tb_and, tb_1 i hi]
  by_cases e : i = 0
  · subst e
    cases q : tb a 0 with
    | false => rw [if_neg (by decide), tb_0]; rfl
    | true => rw [if_pos rfl]; rfl
  · rw [decide_eq_false e, Bool.and_false]
    split
    · rw [tb_1 i hi, decide_eq_false e]
    · rw [tb_0]
theorem how_2 (w : Int) (h0 : 0 ≤ w) (h1 : w < 16) : (w32 (w.tdiv 2)).tmod 2 = w / 2 % 2 := by
  rw [Int.tdiv_eq_ediv_of_nonneg h0, w32i _ (by omega) (by omega), Int.tmod_eq_emod_of_nonneg (by omega)]
theorem how_4 (w : Int) (h0 : 0 ≤ w) (h1 : w < 16) : (w32 (w.tdiv 4)).tmod 2 = w / 4 % 2 := by
  rw [Int.tdiv_eq_ediv_of_nonneg h0, w32i _ (by omega) (by omega), Int.tmod_eq_emod_of_nonneg (by omega)]
theorem how_8 (w : Int) (h0 : 0 ≤ w) (h1 : w < 16) : w32 (w.tdiv 8) = w / 8 := by
  rw [Int.tdiv_eq_ediv_of_nonneg h0, w32i _ (by omega) (by omega)]
theorem how_1 (w : Int) (h0 : 0 ≤ w) : w.tmod 2 = w % 2 := Int.tmod_eq_emod_of_nonneg h0
