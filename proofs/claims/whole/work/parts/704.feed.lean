/-! feed -/
theorem as24 : ∀ s : Nat, s ≤ 24 → ((BitVec.ofInt 32 (s : Int) &&& 31#32) % 32#32).toNat = s ∧ ((BitVec.ofInt 32 (s : Int) &&& 31#32).smod 32#32).toNat = s := by decide +kernel
theorem wb_def (z : Int) : wbyte z = ((BitVec.ofInt 32 z).setWidth 8).toInt := by
  unfold wbyte
  rw [Int8.toInt_toInt32, ← Int8.toInt_toBitVec, Int32.toBitVec_toInt8, BitVec.signExtend_eq_setWidth_of_le _ (by decide)]; rfl
theorem wb_in (z : Int) : -128 ≤ wbyte z ∧ wbyte z < 128 := by
  rw [wb_def]
  have h1 := BitVec.le_toInt ((BitVec.ofInt 32 z).setWidth 8)
  have h2 := BitVec.toInt_lt (x := (BitVec.ofInt 32 z).setWidth 8)
  omega
theorem wb_mod (x : BitVec 32) : wbyte x.toInt % 256 = ((x.toNat % 256 : Nat) : Int) := by
  rw [wb_def, BitVec.ofInt_toInt, BitVec.toInt_eq_toNat_bmod, BitVec.toNat_setWidth]
  rw [Int.bmod_def]
  have e : ((2 ^ 8 : Nat) : Int) = 256 := by decide
  rw [e, show (2 : Nat) ^ 8 = 256 from rfl]
  split <;> omega
theorem wb_wb (z : Int) : wbyte (wbyte z) % 256 = wbyte z % 256 := by
  obtain ⟨h1, h2⟩ := wb_in z
  have h3 : wbyte (wbyte z) = wbyte z := by
    generalize wbyte z = y at *
    have : ∀ n : Nat, n < 256 → wbyte ((n : Int) - 128) = (n : Int) - 128 := by decide +kernel
    have q := this (y + 128).toNat (by omega)
    rw [show (((y + 128).toNat : Nat) : Int) - 128 = y by omega] at q
    exact q
  rw [h3]
theorem byte_eq (n : Int) (s : Nat) (hs : s ≤ 24) : xand (xush n s) 255 = wbyte (wbyte (xshr n s)) % 256 := by
  have e1 : xush n s = (BitVec.ofInt 32 n >>> ((BitVec.ofInt 32 (s : Int) &&& 31#32) % 32#32)).toInt := rfl
  have e2 : xshr n s = (BitVec.sshiftRight' (BitVec.ofInt 32 n) ((BitVec.ofInt 32 (s : Int) &&& 31#32).smod 32#32)).toInt := rfl
  have e3 : xand (xush n s) 255 = (BitVec.ofInt 32 (xush n s) &&& 255#32).toInt := rfl
  rw [wb_wb, e2, wb_mod, e3, e1, BitVec.ofInt_toInt, BitVec.ushiftRight_eq', (as24 s hs).1]
  unfold BitVec.sshiftRight'
  rw [(as24 s hs).2]
  have f1 : ((BitVec.ofInt 32 n >>> s) &&& 255#32).toNat = (BitVec.ofInt 32 n >>> s).toNat % 256 := by
    rw [BitVec.toNat_and]; exact Nat.and_two_pow_sub_one_eq_mod _ 8
  have f2 : (BitVec.ofInt 32 n >>> s).toNat % 256 = ((BitVec.ofInt 32 n).sshiftRight s).toNat % 256 := by
    have q : (BitVec.ofInt 32 n >>> s).setWidth 8 = ((BitVec.ofInt 32 n).sshiftRight s).setWidth 8 := by
      apply BitVec.eq_of_getLsbD_eq
      intro i hi
      rw [BitVec.getLsbD_setWidth, BitVec.getLsbD_setWidth, BitVec.getLsbD_ushiftRight, BitVec.getLsbD_sshiftRight]
      have : s + i < 32 := by omega
      have h2 : ¬ 32 ≤ i := by omega
      simp [this, h2]
    have q2 := congrArg BitVec.toNat q
    rw [BitVec.toNat_setWidth, BitVec.toNat_setWidth] at q2
    exact q2
  rw [ti32 _ (by rw [f1]; omega), f1, f2]
