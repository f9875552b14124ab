/-! texts: length and charAt of the constants, down to the JDK's own code -/
theorem wt_cmp : Cond.fieldLink RJ0 38 "java/lang/String" "COMPACT_STRINGS" "Z" ∈ BW := bw_of 1107 (by decide +kernel) rfl
theorem wt_val : Cond.fieldLink RJ0 9 "java/lang/String" "value" "[B" ∈ BW := bw_of 2348 (by decide +kernel) rfl
theorem wt_cod : Cond.fieldLink RJ0 15 "java/lang/String" "coder" "B" ∈ BW := bw_of 2349 (by decide +kernel) rfl
theorem wt_sio : Cond.fieldLink RJ0 1053 "jdk/internal/util/Preconditions" "SIOOBE_FORMATTER" "Ljava/util/function/BiFunction;" ∈ BW := bw_of 1123 (by decide +kernel) rfl
theorem ywt_J0_coder_7d493 : YW yJ0_coder_7d493 cJ0_coder_7d493 1 (some .byte) 0 := ⟨bw_of 1106 (by decide +kernel) rfl, bw_of 136 (by decide +kernel) rfl, ⟨by decide +kernel, by decide +kernel, by decide +kernel⟩, by decide +kernel⟩
theorem wimt_J0_coder_7d493 : Cond.instanceMethod yJ0_coder_7d493 ∈ BW := bw_of 1104 (by decide +kernel) rfl
theorem wset_J0_coder_7d493 : Cond.selects RJ0 yJ0_coder_7d493 yJ0_coder_7d493 ∈ BW := bw_of 1105 (by decide +kernel) rfl
abbrev MJ0_coder_7d493 : MI := (RJ0, cJ0_coder_7d493, 1, (some .byte), 2, none, "coder")
theorem ywt_J0_isLatin1_aae02 : YW yJ0_isLatin1_aae02 cJ0_isLatin1_aae02 1 (some .boolean) 0 := ⟨bw_of 1116 (by decide +kernel) rfl, bw_of 136 (by decide +kernel) rfl, ⟨by decide +kernel, by decide +kernel, by decide +kernel⟩, by decide +kernel⟩
theorem wimt_J0_isLatin1_aae02 : Cond.instanceMethod yJ0_isLatin1_aae02 ∈ BW := bw_of 1114 (by decide +kernel) rfl
theorem wset_J0_isLatin1_aae02 : Cond.selects RJ0 yJ0_isLatin1_aae02 yJ0_isLatin1_aae02 ∈ BW := bw_of 1115 (by decide +kernel) rfl
abbrev MJ0_isLatin1_aae02 : MI := (RJ0, cJ0_isLatin1_aae02, 1, (some .boolean), 2, none, "isLatin1")
theorem ywt_J0_length_8abf5 : YW yJ0_length_8abf5 cJ0_length_8abf5 1 (some .int) 0 := ⟨bw_of 1102 (by decide +kernel) rfl, bw_of 136 (by decide +kernel) rfl, ⟨by decide +kernel, by decide +kernel, by decide +kernel⟩, by decide +kernel⟩
theorem wimt_J0_length_8abf5 : Cond.instanceMethod yJ0_length_8abf5 ∈ BW := bw_of 1100 (by decide +kernel) rfl
theorem wset_J0_length_8abf5 : Cond.selects RJ0 yJ0_length_8abf5 yJ0_length_8abf5 ∈ BW := bw_of 1101 (by decide +kernel) rfl
abbrev MJ0_length_8abf5 : MI := (RJ0, cJ0_length_8abf5, 1, (some .int), 3, none, "length")
theorem ywt_J0_charAt_5068e : YW yJ0_charAt_5068e cJ0_charAt_5068e 2 (some .char) 1 := ⟨bw_of 1112 (by decide +kernel) rfl, bw_of 136 (by decide +kernel) rfl, ⟨by decide +kernel, by decide +kernel, by decide +kernel⟩, by decide +kernel⟩
theorem wimt_J0_charAt_5068e : Cond.instanceMethod yJ0_charAt_5068e ∈ BW := bw_of 1110 (by decide +kernel) rfl
theorem wset_J0_charAt_5068e : Cond.selects RJ0 yJ0_charAt_5068e yJ0_charAt_5068e ∈ BW := bw_of 1111 (by decide +kernel) rfl
abbrev MJ0_charAt_5068e : MI := (RJ0, cJ0_charAt_5068e, 2, (some .char), 5, none, "charAt")
theorem ywt_J0_checkIndex_df160 : YW yJ0_checkIndex_df160 cJ0_checkIndex_df160 2 none 2 := ⟨bw_of 1122 (by decide +kernel) rfl, bw_of 136 (by decide +kernel) rfl, ⟨by decide +kernel, by decide +kernel, by decide +kernel⟩, by decide +kernel⟩
theorem wstt_J0_checkIndex_df160 : Cond.static yJ0_checkIndex_df160 ∈ BW := bw_of 1121 (by decide +kernel) rfl
abbrev MJ0_checkIndex_df160 : MI := (RJ0, cJ0_checkIndex_df160, 2, none, 3, none, "checkIndex")
theorem ywt_J1_charAt_3b067 : YW yJ1_charAt_3b067 cJ1_charAt_3b067 2 (some .char) 2 := ⟨bw_of 1119 (by decide +kernel) rfl, bw_of 137 (by decide +kernel) rfl, ⟨by decide +kernel, by decide +kernel, by decide +kernel⟩, by decide +kernel⟩
theorem wstt_J1_charAt_3b067 : Cond.static yJ1_charAt_3b067 ∈ BW := bw_of 1118 (by decide +kernel) rfl
abbrev MJ1_charAt_3b067 : MI := (RJ1, cJ1_charAt_3b067, 2, (some .char), 4, none, "charAt")
theorem ywt_J3_checkIndex_8e157 : YW yJ3_checkIndex_8e157 cJ3_checkIndex_8e157 3 (some .int) 3 := ⟨bw_of 1127 (by decide +kernel) rfl, bw_of 138 (by decide +kernel) rfl, ⟨by decide +kernel, by decide +kernel, by decide +kernel⟩, by decide +kernel⟩
theorem wstt_J3_checkIndex_8e157 : Cond.static yJ3_checkIndex_8e157 ∈ BW := bw_of 1126 (by decide +kernel) rfl
abbrev MJ3_checkIndex_8e157 : MI := (RJ3, cJ3_checkIndex_8e157, 3, (some .int), 2, none, "checkIndex")
theorem wml_RJ0_335 : Cond.methodLink RJ0 335 yJ0_coder_7d493 ∈ BW := bw_of 1103 (by decide +kernel) rfl
theorem wml_RJ0_492 : Cond.methodLink RJ0 492 yJ0_isLatin1_aae02 ∈ BW := bw_of 1113 (by decide +kernel) rfl
theorem wml_RJ0_495 : Cond.methodLink RJ0 495 yJ1_charAt_3b067 ∈ BW := bw_of 1117 (by decide +kernel) rfl
theorem wml_RJ1_9 : Cond.methodLink RJ1 9 yJ0_checkIndex_df160 ∈ BW := bw_of 1120 (by decide +kernel) rfl
theorem wml_RJ0_1059 : Cond.methodLink RJ0 1059 yJ3_checkIndex_8e157 ∈ BW := bw_of 1125 (by decide +kernel) rfl
theorem xshr_0 {a : Int} (h : in32 a) : xshr a 0 = a := by
  unfold xshr
  rw [show (Int32.ofInt 0 &&& 31 : Int32) = 0 from rfl, Int32.shiftRight_zero, t32i h]
theorem stb_and : ∀ j, j < 18 → ∀ b ∈ STB j, b &&& 255 = b := by decide +kernel
theorem sch_mem {j : Nat} {i : Int} (h0 : 0 ≤ i) (h1 : i < (STB j).length) : (STB j).getD i.toNat 0 ∈ STB j := by
  have h2 : i.toNat < (STB j).length := by omega
  rw [List.getD_eq_getElem?_getD, List.getElem?_eq_getElem h2]
  exact List.getElem_mem h2
theorem sch_rng {j : Nat} {i : Int} (hj : j < 18) (h0 : 0 ≤ i) (h1 : i < (STB j).length) : 0 ≤ sch j i ∧ sch j i < 128 := stb_byte j hj _ (sch_mem h0 h1)
theorem sch_and {j : Nat} {i : Int} (hj : j < 18) (h0 : 0 ≤ i) (h1 : i < (STB j).length) : xand (sch j i) 255 = sch j i := by
  unfold xand sch
  rw [o32, show Int32.ofInt 255 = (255 : Int32) from rfl, stb_and j hj _ (sch_mem h0 h1)]
theorem stb_in {j : Nat} (hj : j < 18) : in32 ((STB j).length : Int) := by have := stb_len j hj; unfold in32; omega
theorem ok_coder {j : Nat} (hj : j < 18) (h : HP) : Ok MJ0_coder_7d493 [vr (some (1000000 + j))] (some (vi 0)) h h := fun K _ _ _ => by
  show Go K _ _ h 0 [(0, vr (some (1000000 + j)))] [] h
  refine go_cmp (n := 3) wt_cmp dJ0_coder_7d493_0 rfl ?_
  refine go_if_eq (tgt := 13) (n := 6) dJ0_coder_7d493_3 rfl rfl (fun c => absurd c (by decide)) (fun _ => ?_)
  refine go_aload_n (j := 0) (n := 7) rfl rfl dJ0_coder_7d493_6 rfl ?_
  refine go_txC (n := 10) hj wt_cod dJ0_coder_7d493_7 rfl ?_
  refine go_goto (tgt := 14) dJ0_coder_7d493_10 rfl ?_
  exact go_nreturn (ty := .byte) rfl rfl dJ0_coder_7d493_14
theorem ok_isLatin {j : Nat} (hj : j < 18) (h : HP) : Ok MJ0_isLatin1_aae02 [vr (some (1000000 + j))] (some (vi 1)) h h := fun K _ _ _ => by
  show Go K _ _ h 0 [(0, vr (some (1000000 + j)))] [] h
  refine go_cmp (n := 3) wt_cmp dJ0_isLatin1_aae02_0 rfl ?_
  refine go_if_eq (tgt := 17) (n := 6) dJ0_isLatin1_aae02_3 rfl rfl (fun c => absurd c (by decide)) (fun _ => ?_)
  refine go_aload_n (j := 0) (n := 7) rfl rfl dJ0_isLatin1_aae02_6 rfl ?_
  refine go_txC (n := 10) hj wt_cod dJ0_isLatin1_aae02_7 rfl ?_
  refine go_if_ne (tgt := 17) (n := 13) dJ0_isLatin1_aae02_10 rfl rfl (fun c => absurd rfl c) (fun _ => ?_)
  refine go_iconst (z := 1) (n := 14) ⟨by decide, by decide⟩ dJ0_isLatin1_aae02_13 rfl ?_
  refine go_goto (tgt := 18) dJ0_isLatin1_aae02_14 rfl ?_
  exact go_zreturn rfl (Or.inr rfl) dJ0_isLatin1_aae02_18
theorem ok_length {j : Nat} (hj : j < 18) (h : HP) : Ok MJ0_length_8abf5 [vr (some (1000000 + j))] (some (vi ((STB j).length : Int))) h h := fun K _ _ _ => by
  show Go K _ _ h 0 [(0, vr (some (1000000 + j)))] [] h
  refine go_aload_n (j := 0) (n := 1) rfl rfl dJ0_length_8abf5_0 rfl ?_
  refine go_txV (n := 4) hj wt_val dJ0_length_8abf5_1 rfl ?_
  refine go_txL (n := 5) hj dJ0_length_8abf5_4 rfl ?_
  refine go_aload_n (j := 0) (n := 6) rfl rfl dJ0_length_8abf5_5 rfl ?_
  refine go_callVT (y := yJ0_coder_7d493) (n := 9) (st := [vi ((STB j).length : Int)]) (as := []) (stk9 := [vi 0, vi ((STB j).length : Int)]) (ok_coder hj h) ywt_J0_coder_7d493 hj rfl rfl wml_RJ0_335 wimt_J0_coder_7d493 wset_J0_coder_7d493 (Nat.le_of_ble_eq_true rfl) rfl ⟨Nat.le_of_ble_eq_true rfl, Nat.le_of_ble_eq_true rfl⟩ (Nat.le_of_ble_eq_true rfl) dJ0_length_8abf5_6 rfl rfl rfl ?_
  refine go_ishr (n := 10) dJ0_length_8abf5_9 rfl ?_
  rw [xshr_0 (stb_in hj)]
  exact go_ireturn rfl dJ0_length_8abf5_10
theorem ok_pre {i n : Int} {r : Option Nat} (h0 : 0 ≤ i) (h1 : i < n) (h : HP) : Ok MJ3_checkIndex_8e157 [vi i, vi n, vr r] (some (vi i)) h h := fun K _ _ _ => by
  show Go K _ _ h 0 [(0, vi i), (1, vi n), (2, vr r)] [] h
  refine go_iload_n (j := 0) (n := 1) rfl rfl dJ3_checkIndex_8e157_0 rfl ?_
  refine go_if_lt (tgt := 9) (n := 4) dJ3_checkIndex_8e157_1 rfl rfl (fun c => by omega) (fun _ => ?_)
  refine go_iload_n (j := 0) (n := 5) rfl rfl dJ3_checkIndex_8e157_4 rfl ?_
  refine go_iload_n (j := 1) (n := 6) rfl rfl dJ3_checkIndex_8e157_5 rfl ?_
  refine go_icmp_lt (tgt := 16) (n := 9) dJ3_checkIndex_8e157_6 rfl rfl (fun _ => ?_) (fun c => by omega)
  refine go_iload_n (j := 0) (n := 17) rfl rfl dJ3_checkIndex_8e157_16 rfl ?_
  exact go_ireturn rfl dJ3_checkIndex_8e157_17
theorem ok_check {i n : Int} (h0 : 0 ≤ i) (h1 : i < n) (h : HP) : Ok MJ0_checkIndex_df160 [vi i, vi n] none h h := fun K _ _ _ => by
  show Go K _ _ h 0 [(0, vi i), (1, vi n)] [] h
  refine go_iload_n (j := 0) (n := 1) rfl rfl dJ0_checkIndex_df160_0 rfl ?_
  refine go_iload_n (j := 1) (n := 2) rfl rfl dJ0_checkIndex_df160_1 rfl ?_
  refine go_sio (n := 5) wt_sio dJ0_checkIndex_df160_2 rfl (Mo.rf h) fun r => ?_
  refine go_callS (y := yJ3_checkIndex_8e157) (n := 8) (st := []) (as := [vi i, vi n, vr r]) (stk9 := [vi i]) (ok_pre h0 h1 h) ywt_J3_checkIndex_8e157 wml_RJ0_1059 wstt_J3_checkIndex_8e157 (Nat.le_of_ble_eq_true rfl) rfl ⟨Nat.le_of_ble_eq_true rfl, Nat.le_of_ble_eq_true rfl⟩ (Nat.le_of_ble_eq_true rfl) dJ0_checkIndex_df160_5 rfl rfl rfl ?_
  refine go_pop (n := 9) rfl dJ0_checkIndex_df160_8 rfl ?_
  exact go_return rfl dJ0_checkIndex_df160_9
theorem ok_lchar {j : Nat} {i : Int} (hj : j < 18) (h0 : 0 ≤ i) (h1 : i < (STB j).length) (h : HP) : Ok MJ1_charAt_3b067 [vr (some (2000000 + j)), vi i] (some (vi (sch j i))) h h := fun K _ _ _ => by
  show Go K _ _ h 0 [(0, vr (some (2000000 + j))), (1, vi i)] [] h
  refine go_iload_n (j := 1) (n := 1) rfl rfl dJ1_charAt_3b067_0 rfl ?_
  refine go_aload_n (j := 0) (n := 2) rfl rfl dJ1_charAt_3b067_1 rfl ?_
  refine go_txL (n := 3) hj dJ1_charAt_3b067_2 rfl ?_
  refine go_callS (y := yJ0_checkIndex_df160) (n := 6) (st := []) (as := [vi i, vi ((STB j).length : Int)]) (stk9 := []) (ok_check h0 h1 h) ywt_J0_checkIndex_df160 wml_RJ1_9 wstt_J0_checkIndex_df160 (Nat.le_of_ble_eq_true rfl) rfl ⟨Nat.le_of_ble_eq_true rfl, Nat.le_of_ble_eq_true rfl⟩ (Nat.le_of_ble_eq_true rfl) dJ1_charAt_3b067_3 rfl rfl rfl ?_
  refine go_aload_n (j := 0) (n := 7) rfl rfl dJ1_charAt_3b067_6 rfl ?_
  refine go_iload_n (j := 1) (n := 8) rfl rfl dJ1_charAt_3b067_7 rfl ?_
  refine go_txB (n := 9) hj h0 h1 dJ1_charAt_3b067_8 rfl ?_
  refine go_sipush (z := 255) (n := 12) ⟨by decide, by decide⟩ dJ1_charAt_3b067_9 rfl ?_
  refine go_iand (n := 13) dJ1_charAt_3b067_12 rfl ?_
  rw [sch_and hj h0 h1]
  obtain ⟨q1, q2⟩ := sch_rng hj h0 h1
  refine go_i2c (n := 14) ⟨q1, by omega⟩ dJ1_charAt_3b067_13 rfl ?_
  exact go_nreturn (ty := .char) rfl (nar_char ⟨q1, by omega⟩) dJ1_charAt_3b067_14
theorem ok_char {j : Nat} {i : Int} (hj : j < 18) (h0 : 0 ≤ i) (h1 : i < (STB j).length) (h : HP) : Ok MJ0_charAt_5068e [vr (some (1000000 + j)), vi i] (some (vi (sch j i))) h h := fun K _ _ _ => by
  show Go K _ _ h 0 [(0, vr (some (1000000 + j))), (1, vi i)] [] h
  refine go_aload_n (j := 0) (n := 1) rfl rfl dJ0_charAt_5068e_0 rfl ?_
  refine go_callVT (y := yJ0_isLatin1_aae02) (n := 4) (st := []) (as := []) (stk9 := [vi 1]) (ok_isLatin hj h) ywt_J0_isLatin1_aae02 hj rfl rfl wml_RJ0_492 wimt_J0_isLatin1_aae02 wset_J0_isLatin1_aae02 (Nat.le_of_ble_eq_true rfl) rfl ⟨Nat.le_of_ble_eq_true rfl, Nat.le_of_ble_eq_true rfl⟩ (Nat.le_of_ble_eq_true rfl) dJ0_charAt_5068e_1 rfl rfl rfl ?_
  refine go_if_eq (tgt := 16) (n := 7) dJ0_charAt_5068e_4 rfl rfl (fun c => absurd c (by decide)) (fun _ => ?_)
  refine go_aload_n (j := 0) (n := 8) rfl rfl dJ0_charAt_5068e_7 rfl ?_
  refine go_txV (n := 11) hj wt_val dJ0_charAt_5068e_8 rfl ?_
  refine go_iload_n (j := 1) (n := 12) rfl rfl dJ0_charAt_5068e_11 rfl ?_
  refine go_callS (y := yJ1_charAt_3b067) (n := 15) (st := []) (as := [vr (some (2000000 + j)), vi i]) (stk9 := [vi (sch j i)]) (ok_lchar hj h0 h1 h) ywt_J1_charAt_3b067 wml_RJ0_495 wstt_J1_charAt_3b067 (Nat.le_of_ble_eq_true rfl) rfl ⟨Nat.le_of_ble_eq_true rfl, Nat.le_of_ble_eq_true rfl⟩ (Nat.le_of_ble_eq_true rfl) dJ0_charAt_5068e_12 rfl rfl rfl ?_
  obtain ⟨q1, q2⟩ := sch_rng hj h0 h1
  exact go_nreturn (ty := .char) rfl (nar_char ⟨q1, by omega⟩) dJ0_charAt_5068e_15
noncomputable def XJ0_length_8abf5 (F : Nat) (a : Nat) (h : HP) : Option (Int × HP) := if 1000000 ≤ a ∧ a < 1000018 then some (((STB (a - 1000000)).length : Int), h) else none
theorem OXJ0_length_8abf5 {F a : Nat} {h hf : HP} {r : Int} (e : XJ0_length_8abf5 F a h = some (r, hf)) : ∃ j : Nat, j < 18 ∧ a = 1000000 + j ∧ Ok MJ0_length_8abf5 [vr (some a)] (some (vi r)) h hf := by
  unfold XJ0_length_8abf5 at e
  split at e
  · next c =>
    obtain ⟨rfl, rfl⟩ := Prod.mk.inj (Option.some.inj e)
    have e1 : a = 1000000 + (a - 1000000) := by omega
    refine ⟨a - 1000000, by omega, e1, ?_⟩
    have := ok_length (j := a - 1000000) (by omega) h
    rw [← e1] at this
    exact this
  · cases e
noncomputable def XJ0_charAt_5068e (F : Nat) (a : Nat) (i : Int) (h : HP) : Option (Int × HP) := if 1000000 ≤ a ∧ a < 1000018 ∧ 0 ≤ i ∧ i < (STB (a - 1000000)).length then some (sch (a - 1000000) i, h) else none
theorem OXJ0_charAt_5068e {F a : Nat} {i : Int} {h hf : HP} {r : Int} (e : XJ0_charAt_5068e F a i h = some (r, hf)) : ∃ j : Nat, j < 18 ∧ a = 1000000 + j ∧ Ok MJ0_charAt_5068e [vr (some a), vi i] (some (vi r)) h hf := by
  unfold XJ0_charAt_5068e at e
  split at e
  · next c =>
    obtain ⟨rfl, rfl⟩ := Prod.mk.inj (Option.some.inj e)
    have e1 : a = 1000000 + (a - 1000000) := by omega
    refine ⟨a - 1000000, by omega, e1, ?_⟩
    have := ok_char (j := a - 1000000) (i := i) (by omega) c.2.2.1 c.2.2.2 h
    rw [← e1] at this
    exact this
  · cases e
