/-! the pen and the tags -/
theorem xand_c21 (a : Int) (ha : 0 ≤ a) (ha' : a < 2147483648) : xand a (-2097153) = a - a / 2097152 % 2 * 2097152 := by
  have e : xand a (-2097153) = (BitVec.ofInt 32 a &&& ~~~ 2097152#32).toInt := rfl
  have hd : (BitVec.ofInt 32 a &&& 2097152#32) &&& (BitVec.ofInt 32 a &&& ~~~ 2097152#32) = 0#32 := by
    ext i hi
    simp only [BitVec.getElem_and, BitVec.getElem_not, BitVec.getElem_zero]
    cases (BitVec.ofInt 32 a)[i] <;> cases (2097152#32)[i] <;> rfl
  have ho : (BitVec.ofInt 32 a &&& 2097152#32) ||| (BitVec.ofInt 32 a &&& ~~~ 2097152#32) = BitVec.ofInt 32 a := by
    ext i hi
    simp only [BitVec.getElem_and, BitVec.getElem_or, BitVec.getElem_not]
    cases (BitVec.ofInt 32 a)[i] <;> cases (2097152#32)[i] <;> rfl
  have hs := BitVec.add_eq_or_of_and_eq_zero _ _ hd
  rw [ho] at hs
  have h1 : (BitVec.ofInt 32 a &&& 2097152#32).toNat = a.toNat / 2097152 % 2 * 2097152 := by
    rw [BitVec.toNat_and, bn32 a ha ha']
    exact and_bit a.toNat 21
  have h2 : (BitVec.ofInt 32 a &&& ~~~ 2097152#32).toNat ≤ a.toNat := by
    rw [BitVec.toNat_and, bn32 a ha ha']; exact Nat.and_le_left
  have h3 := congrArg BitVec.toNat hs
  rw [BitVec.toNat_add, h1, bn32 a ha ha'] at h3
  rw [e, ti32 _ (by omega)]
  omega
def penO (job minute m t f : Int) : Int := 64 * (job + 1) + 1024 * minute + 524288 * m + 1048576 * t + 2097152 * f
theorem pen_mk (job minute m t : Int) (hj : -1 ≤ job ∧ job ≤ 11) (hm : 0 ≤ minute ∧ minute ≤ 480) (h1 : m = 0 ∨ m = 1) (h2 : t = 0 ∨ t = 1) : xor_ (xor_ (xor_ (xor_ (xshl (w32 (job + 1)) 6) (xshl minute 10)) 2097152) (if m = 0 then 0 else 524288)) (if t = 0 then 0 else 1048576) = penO job minute m t 1 := by
  have e1 : xshl (w32 (job + 1)) 6 = 64 * (job + 1) := by
    rw [w32i _ (by omega) (by omega)]
    have := xshl_nn (job + 1) 6 (by omega) (by decide) (by omega)
    rw [show ((6 : Nat) : Int) = 6 from rfl] at this
    omega
  have e2 : xshl minute 10 = 1024 * minute := by
    have := xshl_nn minute 10 (by omega) (by decide) (by omega)
    rw [show ((10 : Nat) : Int) = 10 from rfl] at this
    omega
  have e3 : xor_ (64 * (job + 1)) (1024 * minute) = 64 * (job + 1) + 1024 * minute := by
    have q := xor_low (1024 * minute) (64 * (job + 1)) 10 (by omega) (by omega) (by decide) (by omega) (by omega) (by omega)
    have c : xor_ (64 * (job + 1)) (1024 * minute) = xor_ (1024 * minute) (64 * (job + 1)) := by
      rw [xor_nn _ _ (by omega) (by omega) (by omega) (by omega), xor_nn _ _ (by omega) (by omega) (by omega) (by omega), Nat.or_comm]
    omega
  rw [e1, e2, e3]
  have e4 := xor_bit (64 * (job + 1) + 1024 * minute) 21 (by omega) (by omega) (by decide) (by omega)
  rw [show ((2 ^ 21 : Nat) : Int) = 2097152 from rfl] at e4
  rw [e4]
  unfold penO
  have e5 : xor_ (64 * (job + 1) + 1024 * minute + 2097152) (if m = 0 then 0 else 524288) = 64 * (job + 1) + 1024 * minute + 2097152 + 524288 * m := by
    rcases h1 with rfl | rfl
    · rw [if_pos rfl]
      have q := xor_low (64 * (job + 1) + 1024 * minute + 2097152) 0 0 (by omega) (by omega) (by decide) (by omega) (by omega) (by omega)
      omega
    · rw [if_neg (by decide)]
      have q := xor_bit (64 * (job + 1) + 1024 * minute + 2097152) 19 (by omega) (by omega) (by decide) (by omega)
      rw [show ((2 ^ 19 : Nat) : Int) = 524288 from rfl] at q
      omega
  rw [e5]
  rcases h2 with rfl | rfl
  · rw [if_pos rfl]
    have q := xor_low (64 * (job + 1) + 1024 * minute + 2097152 + 524288 * m) 0 0 (by omega) (by omega) (by decide) (by omega) (by omega) (by omega)
    omega
  · rw [if_neg (by decide)]
    have q := xor_bit (64 * (job + 1) + 1024 * minute + 2097152 + 524288 * m) 20 (by omega) (by omega) (by decide) (by omega)
    rw [show ((2 ^ 20 : Nat) : Int) = 1048576 from rfl] at q
    omega
/-- what a tag says -/
theorem tg_word (t : Int) (h0 : 0 ≤ t) (h1 : t < 2147483648) : xand t 63 = t % 64 := xand_63 t h0 h1
theorem tg_min (t : Int) (h0 : 0 ≤ t) (h1 : t < 2147483648) : xand (xush t 10) 511 = t / 1024 % 512 := by
  have e := xush_nn t 10 h0 h1 (by decide)
  rw [show ((10 : Nat) : Int) = 10 from rfl, show ((2 ^ 10 : Nat) : Int) = 1024 from rfl] at e
  rw [e, xand_511 _ (by omega) (by omega)]
theorem tg_job (t : Int) (h0 : 0 ≤ t) (h1 : t < 2147483648) : w32 (xand (xush t 6) 15 - 1) = t / 64 % 16 - 1 := by
  have e := xush_nn t 6 h0 h1 (by decide)
  rw [show ((6 : Nat) : Int) = 6 from rfl, show ((2 ^ 6 : Nat) : Int) = 64 from rfl] at e
  rw [e, xand_15 _ (by omega) (by omega), w32i _ (by omega) (by omega)]
theorem tg_bit (t : Int) (k : Nat) (h0 : 0 ≤ t) (h1 : t < 2147483648) (hk : k < 31) : xand t ((2 ^ k : Nat) : Int) = t / ((2 ^ k : Nat) : Int) % 2 * ((2 ^ k : Nat) : Int) := xand_bit t k h0 h1 hk
