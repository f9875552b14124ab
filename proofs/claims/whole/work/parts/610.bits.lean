/-! bits -/
theorem bn32 (a : Int) (h0 : 0 ≤ a) (h1 : a < 2147483648) : (BitVec.ofInt 32 a).toNat = a.toNat := by
  rw [BitVec.toNat_ofInt]
  have e : ((2 ^ 32 : Nat) : Int) = 4294967296 := by decide
  rw [e]; omega
theorem ti32 (x : BitVec 32) (h : x.toNat < 2147483648) : x.toInt = (x.toNat : Int) := BitVec.toInt_eq_toNat_of_lt (by omega)
theorem xand_nn (a b : Int) (ha : 0 ≤ a) (ha' : a < 2147483648) (hb : 0 ≤ b) (hb' : b < 2147483648) : xand a b = ((a.toNat &&& b.toNat : Nat) : Int) := by
  have e : xand a b = (BitVec.ofInt 32 a &&& BitVec.ofInt 32 b).toInt := rfl
  have h1 : a.toNat &&& b.toNat ≤ a.toNat := Nat.and_le_left
  rw [e, ti32 _ (by rw [BitVec.toNat_and, bn32 a ha ha', bn32 b hb hb']; omega), BitVec.toNat_and, bn32 a ha ha', bn32 b hb hb']
theorem xor_nn (a b : Int) (ha : 0 ≤ a) (ha' : a < 2147483648) (hb : 0 ≤ b) (hb' : b < 2147483648) : xor_ a b = ((a.toNat ||| b.toNat : Nat) : Int) := by
  have e : xor_ a b = (BitVec.ofInt 32 a ||| BitVec.ofInt 32 b).toInt := rfl
  have h1 : a.toNat ||| b.toNat < 2 ^ 31 := Nat.or_lt_two_pow (by omega) (by omega)
  rw [e, ti32 _ (by rw [BitVec.toNat_or, bn32 a ha ha', bn32 b hb hb']; omega), BitVec.toNat_or, bn32 a ha ha', bn32 b hb hb']
theorem xand_m (a : Int) (n : Nat) (ha : 0 ≤ a) (ha' : a < 2147483648) (hn : n < 31) : xand a ((2 ^ n - 1 : Nat) : Int) = a % ((2 ^ n : Nat) : Int) := by
  have h1 : 2 ^ n < 2 ^ 31 := Nat.pow_lt_pow_right (by decide) hn
  have h0 : 0 < 2 ^ n := Nat.two_pow_pos n
  rw [xand_nn a _ ha ha' (by omega) (by omega), Int.toNat_natCast, Nat.and_two_pow_sub_one_eq_mod]
  rw [Int.natCast_emod, Int.toNat_of_nonneg ha]
theorem xand_63 (a : Int) (ha : 0 ≤ a) (ha' : a < 2147483648) : xand a 63 = a % 64 := xand_m a 6 ha ha' (by decide)
theorem xand_15 (a : Int) (ha : 0 ≤ a) (ha' : a < 2147483648) : xand a 15 = a % 16 := xand_m a 4 ha ha' (by decide)
theorem xand_511 (a : Int) (ha : 0 ≤ a) (ha' : a < 2147483648) : xand a 511 = a % 512 := xand_m a 9 ha ha' (by decide)
theorem xand_1 (a : Int) (ha : 0 ≤ a) (ha' : a < 2147483648) : xand a 1 = a % 2 := xand_m a 1 ha ha' (by decide)
theorem xand_3 (a : Int) (ha : 0 ≤ a) (ha' : a < 2147483648) : xand a 3 = a % 4 := xand_m a 2 ha ha' (by decide)
theorem am32 : ∀ n : Nat, n < 32 → ((BitVec.ofInt 32 (n : Int) &&& 31#32) % 32#32).toNat = n := by decide +kernel
theorem as32 : ∀ n : Nat, n < 32 → ((BitVec.ofInt 32 (n : Int) &&& 31#32).smod 32#32).toNat = n := by decide +kernel
theorem xush_nn (a : Int) (n : Nat) (ha : 0 ≤ a) (ha' : a < 2147483648) (hn : n < 32) : xush a (n : Int) = a / ((2 ^ n : Nat) : Int) := by
  have e : xush a n = (BitVec.ofInt 32 a >>> ((BitVec.ofInt 32 (n : Int) &&& 31#32) % 32#32)).toInt := rfl
  have f : (BitVec.ofInt 32 a >>> ((BitVec.ofInt 32 (n : Int) &&& 31#32) % 32#32)).toNat = a.toNat / 2 ^ n := by
    rw [BitVec.ushiftRight_eq', BitVec.toNat_ushiftRight, am32 n hn, bn32 a ha ha', Nat.shiftRight_eq_div_pow]
  have g : a.toNat / 2 ^ n ≤ a.toNat := Nat.div_le_self _ _
  rw [e, ti32 _ (by rw [f]; omega), f, Int.natCast_ediv, Int.toNat_of_nonneg ha]
theorem xshl_nn (a : Int) (n : Nat) (ha : 0 ≤ a) (hn : n < 31) (hb : a * ((2 ^ n : Nat) : Int) < 2147483648) : xshl a (n : Int) = a * ((2 ^ n : Nat) : Int) := by
  have e : xshl a n = (BitVec.ofInt 32 a <<< ((BitVec.ofInt 32 (n : Int) &&& 31#32).smod 32#32)).toInt := rfl
  obtain ⟨m, rfl⟩ := Int.eq_ofNat_of_zero_le ha
  have h0 : 0 < 2 ^ n := Nat.two_pow_pos n
  have hb2 : m * 2 ^ n < 2147483648 := by rw [← Int.natCast_mul] at hb; omega
  have hm : m ≤ m * 2 ^ n := Nat.le_mul_of_pos_right m h0
  have f : (BitVec.ofInt 32 (m : Int) <<< ((BitVec.ofInt 32 (n : Int) &&& 31#32).smod 32#32)).toNat = m * 2 ^ n := by
    rw [BitVec.shiftLeft_eq', BitVec.toNat_shiftLeft, as32 n (by omega), bn32 _ ha (by omega), Nat.shiftLeft_eq, Int.toNat_natCast]
    exact Nat.mod_eq_of_lt (by omega)
  rw [e, ti32 _ (by rw [f]; omega), f, Int.natCast_mul]
theorem xshl_1 : ∀ n : Nat, n < 31 → xshl 1 (n : Int) = ((2 ^ n : Nat) : Int) := by decide +kernel
/-- a bit that is not there is put there -/
theorem or_bit (a k : Nat) (h : a / 2 ^ k % 2 = 0) : a ||| 2 ^ k = a + 2 ^ k := by
  have hk : 0 < 2 ^ k := Nat.two_pow_pos k
  have h1 : a = 2 ^ (k + 1) * (a / 2 ^ (k + 1)) + a % 2 ^ k := by
    have e1 := Nat.div_add_mod a (2 ^ k)
    have e2 := Nat.div_add_mod (a / 2 ^ k) 2
    rw [Nat.div_div_eq_div_mul, ← Nat.pow_succ, h] at e2
    have e3 : 2 ^ k * (2 * (a / 2 ^ (k + 1)) + 0) + a % 2 ^ k = a := by rw [e2]; exact e1
    have e4 : 2 ^ (k + 1) = 2 ^ k * 2 := Nat.pow_succ ..
    rw [e4, Nat.mul_assoc]
    rw [e4] at e3
    exact e3.symm
  have hr : a % 2 ^ k < 2 ^ k := Nat.mod_lt _ hk
  have hr2 : a % 2 ^ k < 2 ^ (k + 1) := by rw [Nat.pow_succ]; omega
  have hr3 : 2 ^ k + a % 2 ^ k < 2 ^ (k + 1) := by rw [Nat.pow_succ]; omega
  have e5 : a % 2 ^ k ||| 2 ^ k = 2 ^ k + a % 2 ^ k := by
    have q := Nat.two_pow_add_eq_or_of_lt hr 1
    rw [Nat.mul_one] at q
    rw [Nat.or_comm, ← q]
  calc a ||| 2 ^ k = (2 ^ (k + 1) * (a / 2 ^ (k + 1)) + a % 2 ^ k) ||| 2 ^ k := by rw [← h1]
    _ = (2 ^ (k + 1) * (a / 2 ^ (k + 1)) ||| a % 2 ^ k) ||| 2 ^ k := by rw [Nat.two_pow_add_eq_or_of_lt hr2]
    _ = 2 ^ (k + 1) * (a / 2 ^ (k + 1)) ||| (a % 2 ^ k ||| 2 ^ k) := Nat.or_assoc ..
    _ = 2 ^ (k + 1) * (a / 2 ^ (k + 1)) ||| (2 ^ k + a % 2 ^ k) := by rw [e5]
    _ = 2 ^ (k + 1) * (a / 2 ^ (k + 1)) + (2 ^ k + a % 2 ^ k) := by rw [Nat.two_pow_add_eq_or_of_lt hr3]
    _ = a + 2 ^ k := by omega
theorem xor_bit (a : Int) (k : Nat) (ha : 0 ≤ a) (ha' : a < 2147483648) (hk : k < 31) (h : a / ((2 ^ k : Nat) : Int) % 2 = 0) : xor_ a ((2 ^ k : Nat) : Int) = a + ((2 ^ k : Nat) : Int) := by
  obtain ⟨m, rfl⟩ := Int.eq_ofNat_of_zero_le ha
  have h0 : 0 < 2 ^ k := Nat.two_pow_pos k
  have h1 : 2 ^ k < 2 ^ 31 := Nat.pow_lt_pow_right (by decide) hk
  rw [xor_nn _ _ ha ha' (by omega) (by omega), Int.toNat_natCast, Int.toNat_natCast, or_bit m k (by
    have e : ((m / 2 ^ k % 2 : Nat) : Int) = 0 := by rw [Int.natCast_emod, Int.natCast_ediv]; exact h
    omega), Int.natCast_add]
/-- what stands below is put below -/
theorem xor_low (a b : Int) (k : Nat) (ha : 0 ≤ a) (ha' : a < 2147483648) (hk : k < 31) (h : a % ((2 ^ k : Nat) : Int) = 0) (hb : 0 ≤ b) (hb' : b < ((2 ^ k : Nat) : Int)) : xor_ a b = a + b := by
  obtain ⟨m, rfl⟩ := Int.eq_ofNat_of_zero_le ha
  obtain ⟨n, rfl⟩ := Int.eq_ofNat_of_zero_le hb
  have h1 : 2 ^ k < 2 ^ 31 := Nat.pow_lt_pow_right (by decide) hk
  have e : m % 2 ^ k = 0 := by rw [← Int.natCast_emod] at h; omega
  have e2 : 2 ^ k * (m / 2 ^ k) = m := by have := Nat.div_add_mod m (2 ^ k); omega
  rw [xor_nn _ _ ha ha' hb (by omega), Int.toNat_natCast, Int.toNat_natCast]
  have q := Nat.two_pow_add_eq_or_of_lt (i := k) (b := n) (by omega) (m / 2 ^ k)
  rw [e2] at q
  rw [← q, Int.natCast_add]
theorem and_bit (a k : Nat) : a &&& 2 ^ k = a / 2 ^ k % 2 * 2 ^ k := by
  apply Nat.eq_of_testBit_eq
  intro i
  rw [Nat.testBit_and, Nat.testBit_two_pow]
  have hb : a.testBit k = decide (a / 2 ^ k % 2 = 1) := Nat.testBit_eq_decide_div_mod_eq
  rcases Nat.mod_two_eq_zero_or_one (a / 2 ^ k) with z | z
  · rw [z, Nat.zero_mul, Nat.zero_testBit]
    by_cases c : k = i
    · subst c; rw [hb, z]; rfl
    · simp [c]
  · rw [z, Nat.one_mul, Nat.testBit_two_pow]
    by_cases c : k = i
    · subst c; rw [hb, z]; simp
    · simp [c]
theorem xand_bit (a : Int) (k : Nat) (ha : 0 ≤ a) (ha' : a < 2147483648) (hk : k < 31) : xand a ((2 ^ k : Nat) : Int) = a / ((2 ^ k : Nat) : Int) % 2 * ((2 ^ k : Nat) : Int) := by
  obtain ⟨m, rfl⟩ := Int.eq_ofNat_of_zero_le ha
  have h0 : 0 < 2 ^ k := Nat.two_pow_pos k
  have h1 : 2 ^ k < 2 ^ 31 := Nat.pow_lt_pow_right (by decide) hk
  rw [xand_nn _ _ ha ha' (by omega) (by omega), Int.toNat_natCast, Int.toNat_natCast, and_bit, Int.natCast_mul, Int.natCast_emod, Int.natCast_ediv]; rfl
