/-! the methods, decompiled: written by dec.py -/
theorem fl_RX10_9 : FL RX10 9 10 10 0 true := ⟨RX10, TX10, ci_10, by decide, bw_of 416 (by decide +kernel) rfl, rfl, rfl⟩
theorem wml_RX10_52 : Cond.methodLink RX10 52 arraycopyName ∈ BW := bw_of 843 (by decide +kernel) rfl
theorem fl_RX10_15 : FL RX10 15 10 10 1 true := ⟨RX10, TX10, ci_10, by decide, bw_of 417 (by decide +kernel) rfl, rfl, rfl⟩
theorem fl_RX10_18 : FL RX10 18 10 10 2 true := ⟨RX10, TX10, ci_10, by decide, bw_of 418 (by decide +kernel) rfl, rfl, rfl⟩
theorem fl_RX10_21 : FL RX10 21 10 10 3 true := ⟨RX10, TX10, ci_10, by decide, bw_of 419 (by decide +kernel) rfl, rfl, rfl⟩
theorem fl_RX10_24 : FL RX10 24 10 10 4 false := ⟨RX10, TX10, ci_10, by decide, bw_of 420 (by decide +kernel) rfl, rfl, rfl⟩
abbrev MX10_copyFrom : MI := (RX10, cX10_copyFrom, 2, none, 2, none, "copyFrom")
noncomputable def X10_copyFrom (F : Nat)   (l0 : Nat) (l1 : Option Nat)  (h : HP) : Option (Unit × HP) :=
  (xgP h l1 10 10 0).bind fun v1 =>
  (xgP h (some l0) 10 10 0).bind fun v2 =>
  (xcp h v1 0 v2 0 100).bind fun h3 =>
  (xgP h3 l1 10 10 1).bind fun v4 =>
  (xgP h3 (some l0) 10 10 1).bind fun v5 =>
  (xcp h3 v4 0 v5 0 100).bind fun h6 =>
  (xgP h6 l1 10 10 2).bind fun v7 =>
  (xgP h6 (some l0) 10 10 2).bind fun v8 =>
  (xcp h6 v7 0 v8 0 100).bind fun h9 =>
  (xgP h9 l1 10 10 3).bind fun v10 =>
  (xgP h9 (some l0) 10 10 3).bind fun v11 =>
  (xcp h9 v10 0 v11 0 100).bind fun h12 =>
  (xgI h12 l1 10 10 4).bind fun v13 =>
  (xpI h12 (some l0) 10 10 4 v13).bind fun h14 =>
  some ((), h14)
set_option maxRecDepth 100000 in
theorem SX10_copyFrom {K : Ctx} {F : Nat} {r : Unit} {hf : HP}     (l0 : Nat) (l1 : Option Nat)  (h : HP) (E : X10_copyFrom F   l0 l1 h = some (r, hf)) : Go K MX10_copyFrom (QM K none hf) hf 0 [(0, vr (some l0)), (1, vr l1)] [] h := by
  unfold X10_copyFrom at E
  refine go_aload_n (j := 1) (n := 1) rfl rfl dX10_copyFrom_0 rfl ?_
  replace E := Option.bind_eq_some_iff.mp E; obtain ⟨v1, ev1, E⟩ := E
  refine go_getP (n := 4) ev1 fl_RX10_9 rfl dX10_copyFrom_1 rfl ?_
  refine go_iconst (z := 0) (n := 5) ⟨by decide, by decide⟩ dX10_copyFrom_4 rfl ?_
  refine go_aload_n (j := 0) (n := 6) rfl rfl dX10_copyFrom_5 rfl ?_
  replace E := Option.bind_eq_some_iff.mp E; obtain ⟨v2, ev2, E⟩ := E
  refine go_getP (n := 9) ev2 fl_RX10_9 rfl dX10_copyFrom_6 rfl ?_
  refine go_iconst (z := 0) (n := 10) ⟨by decide, by decide⟩ dX10_copyFrom_9 rfl ?_
  refine go_bipush (z := 100) (n := 12) ⟨by decide, by decide⟩ dX10_copyFrom_10 rfl ?_
  replace E := Option.bind_eq_some_iff.mp E; obtain ⟨h3, eh3, E⟩ := E
  refine go_copy (n := 15) eh3 wml_RX10_52 w_copy (Nat.le_of_ble_eq_true rfl) (Nat.le_of_ble_eq_true rfl) dX10_copyFrom_12 rfl ?_
  refine go_aload_n (j := 1) (n := 16) rfl rfl dX10_copyFrom_15 rfl ?_
  replace E := Option.bind_eq_some_iff.mp E; obtain ⟨v4, ev4, E⟩ := E
  refine go_getP (n := 19) ev4 fl_RX10_15 rfl dX10_copyFrom_16 rfl ?_
  refine go_iconst (z := 0) (n := 20) ⟨by decide, by decide⟩ dX10_copyFrom_19 rfl ?_
  refine go_aload_n (j := 0) (n := 21) rfl rfl dX10_copyFrom_20 rfl ?_
  replace E := Option.bind_eq_some_iff.mp E; obtain ⟨v5, ev5, E⟩ := E
  refine go_getP (n := 24) ev5 fl_RX10_15 rfl dX10_copyFrom_21 rfl ?_
  refine go_iconst (z := 0) (n := 25) ⟨by decide, by decide⟩ dX10_copyFrom_24 rfl ?_
  refine go_bipush (z := 100) (n := 27) ⟨by decide, by decide⟩ dX10_copyFrom_25 rfl ?_
  replace E := Option.bind_eq_some_iff.mp E; obtain ⟨h6, eh6, E⟩ := E
  refine go_copy (n := 30) eh6 wml_RX10_52 w_copy (Nat.le_of_ble_eq_true rfl) (Nat.le_of_ble_eq_true rfl) dX10_copyFrom_27 rfl ?_
  refine go_aload_n (j := 1) (n := 31) rfl rfl dX10_copyFrom_30 rfl ?_
  replace E := Option.bind_eq_some_iff.mp E; obtain ⟨v7, ev7, E⟩ := E
  refine go_getP (n := 34) ev7 fl_RX10_18 rfl dX10_copyFrom_31 rfl ?_
  refine go_iconst (z := 0) (n := 35) ⟨by decide, by decide⟩ dX10_copyFrom_34 rfl ?_
  refine go_aload_n (j := 0) (n := 36) rfl rfl dX10_copyFrom_35 rfl ?_
  replace E := Option.bind_eq_some_iff.mp E; obtain ⟨v8, ev8, E⟩ := E
  refine go_getP (n := 39) ev8 fl_RX10_18 rfl dX10_copyFrom_36 rfl ?_
  refine go_iconst (z := 0) (n := 40) ⟨by decide, by decide⟩ dX10_copyFrom_39 rfl ?_
  refine go_bipush (z := 100) (n := 42) ⟨by decide, by decide⟩ dX10_copyFrom_40 rfl ?_
  replace E := Option.bind_eq_some_iff.mp E; obtain ⟨h9, eh9, E⟩ := E
  refine go_copy (n := 45) eh9 wml_RX10_52 w_copy (Nat.le_of_ble_eq_true rfl) (Nat.le_of_ble_eq_true rfl) dX10_copyFrom_42 rfl ?_
  refine go_aload_n (j := 1) (n := 46) rfl rfl dX10_copyFrom_45 rfl ?_
  replace E := Option.bind_eq_some_iff.mp E; obtain ⟨v10, ev10, E⟩ := E
  refine go_getP (n := 49) ev10 fl_RX10_21 rfl dX10_copyFrom_46 rfl ?_
  refine go_iconst (z := 0) (n := 50) ⟨by decide, by decide⟩ dX10_copyFrom_49 rfl ?_
  refine go_aload_n (j := 0) (n := 51) rfl rfl dX10_copyFrom_50 rfl ?_
  replace E := Option.bind_eq_some_iff.mp E; obtain ⟨v11, ev11, E⟩ := E
  refine go_getP (n := 54) ev11 fl_RX10_21 rfl dX10_copyFrom_51 rfl ?_
  refine go_iconst (z := 0) (n := 55) ⟨by decide, by decide⟩ dX10_copyFrom_54 rfl ?_
  refine go_bipush (z := 100) (n := 57) ⟨by decide, by decide⟩ dX10_copyFrom_55 rfl ?_
  replace E := Option.bind_eq_some_iff.mp E; obtain ⟨h12, eh12, E⟩ := E
  refine go_copy (n := 60) eh12 wml_RX10_52 w_copy (Nat.le_of_ble_eq_true rfl) (Nat.le_of_ble_eq_true rfl) dX10_copyFrom_57 rfl ?_
  refine go_aload_n (j := 0) (n := 61) rfl rfl dX10_copyFrom_60 rfl ?_
  refine go_aload_n (j := 1) (n := 62) rfl rfl dX10_copyFrom_61 rfl ?_
  replace E := Option.bind_eq_some_iff.mp E; obtain ⟨v13, ev13, E⟩ := E
  refine go_getI (n := 65) ev13 fl_RX10_24 rfl dX10_copyFrom_62 rfl ?_
  replace E := Option.bind_eq_some_iff.mp E; obtain ⟨h14, eh14, E⟩ := E
  refine go_putI (n := 68) eh14 fl_RX10_24 rfl dX10_copyFrom_65 rfl ?_
  cases E
  exact go_return rfl dX10_copyFrom_68
theorem OX10_copyFrom {F : Nat} {l0 : Nat} {l1 : Option Nat} {h hf : HP} {r : Unit} (e : X10_copyFrom F l0 l1 h = some (r, hf)) : Ok MX10_copyFrom [vr (some l0), vr l1] none h hf := fun K _ _ _ => SX10_copyFrom l0 l1 h e
theorem wml_RX0_104 : Cond.methodLink RX0 104 arraycopyName ∈ BW := bw_of 848 (by decide +kernel) rfl
theorem fl_RX0_21 : FL RX0 21 0 10 3 true := ⟨RX0, TX0, ci_0, by decide, bw_of 460 (by decide +kernel) rfl, rfl, rfl⟩
theorem fl_RX0_24 : FL RX0 24 0 10 4 true := ⟨RX0, TX0, ci_0, by decide, bw_of 461 (by decide +kernel) rfl, rfl, rfl⟩
theorem fl_RX0_43 : FL RX0 43 0 10 6 false := ⟨RX0, TX0, ci_0, by decide, bw_of 463 (by decide +kernel) rfl, rfl, rfl⟩
theorem fl_RX0_47 : FL RX0 47 0 10 7 false := ⟨RX0, TX0, ci_0, by decide, bw_of 464 (by decide +kernel) rfl, rfl, rfl⟩
abbrev MX0_copyFrom : MI := (RX0, cX0_copyFrom, 2, none, 2, none, "copyFrom")
noncomputable def X0_copyFrom (F : Nat)   (l0 : Nat) (l1 : Option Nat)  (h : HP) : Option (Unit × HP) :=
  (xgP h l1 0 10 0).bind fun v1 =>
  (xgP h (some l0) 0 10 0).bind fun v2 =>
  (xcp h v1 0 v2 0 4).bind fun h3 =>
  (xgP h3 l1 0 10 1).bind fun v4 =>
  (xgP h3 (some l0) 0 10 1).bind fun v5 =>
  (xcp h3 v4 0 v5 0 4).bind fun h6 =>
  (xgP h6 l1 0 10 2).bind fun v7 =>
  (xgP h6 (some l0) 0 10 2).bind fun v8 =>
  (xcp h6 v7 0 v8 0 4).bind fun h9 =>
  (xgP h9 l1 0 10 3).bind fun v10 =>
  (xgP h9 (some l0) 0 10 3).bind fun v11 =>
  (xcp h9 v10 0 v11 0 4).bind fun h12 =>
  (xgP h12 l1 0 10 4).bind fun v13 =>
  (xgP h12 (some l0) 0 10 4).bind fun v14 =>
  (xcp h12 v13 0 v14 0 3).bind fun h15 =>
  (xgI h15 l1 0 10 6).bind fun v16 =>
  (xpI h15 (some l0) 0 10 6 v16).bind fun h17 =>
  (xgI h17 l1 0 10 7).bind fun v18 =>
  (xpI h17 (some l0) 0 10 7 v18).bind fun h19 =>
  some ((), h19)
set_option maxRecDepth 100000 in
theorem SX0_copyFrom {K : Ctx} {F : Nat} {r : Unit} {hf : HP}     (l0 : Nat) (l1 : Option Nat)  (h : HP) (E : X0_copyFrom F   l0 l1 h = some (r, hf)) : Go K MX0_copyFrom (QM K none hf) hf 0 [(0, vr (some l0)), (1, vr l1)] [] h := by
  unfold X0_copyFrom at E
  refine go_aload_n (j := 1) (n := 1) rfl rfl dX0_copyFrom_0 rfl ?_
  replace E := Option.bind_eq_some_iff.mp E; obtain ⟨v1, ev1, E⟩ := E
  refine go_getP (n := 4) ev1 fl_RX0_9 rfl dX0_copyFrom_1 rfl ?_
  refine go_iconst (z := 0) (n := 5) ⟨by decide, by decide⟩ dX0_copyFrom_4 rfl ?_
  refine go_aload_n (j := 0) (n := 6) rfl rfl dX0_copyFrom_5 rfl ?_
  replace E := Option.bind_eq_some_iff.mp E; obtain ⟨v2, ev2, E⟩ := E
  refine go_getP (n := 9) ev2 fl_RX0_9 rfl dX0_copyFrom_6 rfl ?_
  refine go_iconst (z := 0) (n := 10) ⟨by decide, by decide⟩ dX0_copyFrom_9 rfl ?_
  refine go_iconst (z := 4) (n := 11) ⟨by decide, by decide⟩ dX0_copyFrom_10 rfl ?_
  replace E := Option.bind_eq_some_iff.mp E; obtain ⟨h3, eh3, E⟩ := E
  refine go_copy (n := 14) eh3 wml_RX0_104 w_copy (Nat.le_of_ble_eq_true rfl) (Nat.le_of_ble_eq_true rfl) dX0_copyFrom_11 rfl ?_
  refine go_aload_n (j := 1) (n := 15) rfl rfl dX0_copyFrom_14 rfl ?_
  replace E := Option.bind_eq_some_iff.mp E; obtain ⟨v4, ev4, E⟩ := E
  refine go_getP (n := 18) ev4 fl_RX0_15 rfl dX0_copyFrom_15 rfl ?_
  refine go_iconst (z := 0) (n := 19) ⟨by decide, by decide⟩ dX0_copyFrom_18 rfl ?_
  refine go_aload_n (j := 0) (n := 20) rfl rfl dX0_copyFrom_19 rfl ?_
  replace E := Option.bind_eq_some_iff.mp E; obtain ⟨v5, ev5, E⟩ := E
  refine go_getP (n := 23) ev5 fl_RX0_15 rfl dX0_copyFrom_20 rfl ?_
  refine go_iconst (z := 0) (n := 24) ⟨by decide, by decide⟩ dX0_copyFrom_23 rfl ?_
  refine go_iconst (z := 4) (n := 25) ⟨by decide, by decide⟩ dX0_copyFrom_24 rfl ?_
  replace E := Option.bind_eq_some_iff.mp E; obtain ⟨h6, eh6, E⟩ := E
  refine go_copy (n := 28) eh6 wml_RX0_104 w_copy (Nat.le_of_ble_eq_true rfl) (Nat.le_of_ble_eq_true rfl) dX0_copyFrom_25 rfl ?_
  refine go_aload_n (j := 1) (n := 29) rfl rfl dX0_copyFrom_28 rfl ?_
  replace E := Option.bind_eq_some_iff.mp E; obtain ⟨v7, ev7, E⟩ := E
  refine go_getP (n := 32) ev7 fl_RX0_18 rfl dX0_copyFrom_29 rfl ?_
  refine go_iconst (z := 0) (n := 33) ⟨by decide, by decide⟩ dX0_copyFrom_32 rfl ?_
  refine go_aload_n (j := 0) (n := 34) rfl rfl dX0_copyFrom_33 rfl ?_
  replace E := Option.bind_eq_some_iff.mp E; obtain ⟨v8, ev8, E⟩ := E
  refine go_getP (n := 37) ev8 fl_RX0_18 rfl dX0_copyFrom_34 rfl ?_
  refine go_iconst (z := 0) (n := 38) ⟨by decide, by decide⟩ dX0_copyFrom_37 rfl ?_
  refine go_iconst (z := 4) (n := 39) ⟨by decide, by decide⟩ dX0_copyFrom_38 rfl ?_
  replace E := Option.bind_eq_some_iff.mp E; obtain ⟨h9, eh9, E⟩ := E
  refine go_copy (n := 42) eh9 wml_RX0_104 w_copy (Nat.le_of_ble_eq_true rfl) (Nat.le_of_ble_eq_true rfl) dX0_copyFrom_39 rfl ?_
  refine go_aload_n (j := 1) (n := 43) rfl rfl dX0_copyFrom_42 rfl ?_
  replace E := Option.bind_eq_some_iff.mp E; obtain ⟨v10, ev10, E⟩ := E
  refine go_getP (n := 46) ev10 fl_RX0_21 rfl dX0_copyFrom_43 rfl ?_
  refine go_iconst (z := 0) (n := 47) ⟨by decide, by decide⟩ dX0_copyFrom_46 rfl ?_
  refine go_aload_n (j := 0) (n := 48) rfl rfl dX0_copyFrom_47 rfl ?_
  replace E := Option.bind_eq_some_iff.mp E; obtain ⟨v11, ev11, E⟩ := E
  refine go_getP (n := 51) ev11 fl_RX0_21 rfl dX0_copyFrom_48 rfl ?_
  refine go_iconst (z := 0) (n := 52) ⟨by decide, by decide⟩ dX0_copyFrom_51 rfl ?_
  refine go_iconst (z := 4) (n := 53) ⟨by decide, by decide⟩ dX0_copyFrom_52 rfl ?_
  replace E := Option.bind_eq_some_iff.mp E; obtain ⟨h12, eh12, E⟩ := E
  refine go_copy (n := 56) eh12 wml_RX0_104 w_copy (Nat.le_of_ble_eq_true rfl) (Nat.le_of_ble_eq_true rfl) dX0_copyFrom_53 rfl ?_
  refine go_aload_n (j := 1) (n := 57) rfl rfl dX0_copyFrom_56 rfl ?_
  replace E := Option.bind_eq_some_iff.mp E; obtain ⟨v13, ev13, E⟩ := E
  refine go_getP (n := 60) ev13 fl_RX0_24 rfl dX0_copyFrom_57 rfl ?_
  refine go_iconst (z := 0) (n := 61) ⟨by decide, by decide⟩ dX0_copyFrom_60 rfl ?_
  refine go_aload_n (j := 0) (n := 62) rfl rfl dX0_copyFrom_61 rfl ?_
  replace E := Option.bind_eq_some_iff.mp E; obtain ⟨v14, ev14, E⟩ := E
  refine go_getP (n := 65) ev14 fl_RX0_24 rfl dX0_copyFrom_62 rfl ?_
  refine go_iconst (z := 0) (n := 66) ⟨by decide, by decide⟩ dX0_copyFrom_65 rfl ?_
  refine go_iconst (z := 3) (n := 67) ⟨by decide, by decide⟩ dX0_copyFrom_66 rfl ?_
  replace E := Option.bind_eq_some_iff.mp E; obtain ⟨h15, eh15, E⟩ := E
  refine go_copy (n := 70) eh15 wml_RX0_104 w_copy (Nat.le_of_ble_eq_true rfl) (Nat.le_of_ble_eq_true rfl) dX0_copyFrom_67 rfl ?_
  refine go_aload_n (j := 0) (n := 71) rfl rfl dX0_copyFrom_70 rfl ?_
  refine go_aload_n (j := 1) (n := 72) rfl rfl dX0_copyFrom_71 rfl ?_
  replace E := Option.bind_eq_some_iff.mp E; obtain ⟨v16, ev16, E⟩ := E
  refine go_getI (n := 75) ev16 fl_RX0_43 rfl dX0_copyFrom_72 rfl ?_
  replace E := Option.bind_eq_some_iff.mp E; obtain ⟨h17, eh17, E⟩ := E
  refine go_putI (n := 78) eh17 fl_RX0_43 rfl dX0_copyFrom_75 rfl ?_
  refine go_aload_n (j := 0) (n := 79) rfl rfl dX0_copyFrom_78 rfl ?_
  refine go_aload_n (j := 1) (n := 80) rfl rfl dX0_copyFrom_79 rfl ?_
  replace E := Option.bind_eq_some_iff.mp E; obtain ⟨v18, ev18, E⟩ := E
  refine go_getI (n := 83) ev18 fl_RX0_47 rfl dX0_copyFrom_80 rfl ?_
  replace E := Option.bind_eq_some_iff.mp E; obtain ⟨h19, eh19, E⟩ := E
  refine go_putI (n := 86) eh19 fl_RX0_47 rfl dX0_copyFrom_83 rfl ?_
  cases E
  exact go_return rfl dX0_copyFrom_86
theorem OX0_copyFrom {F : Nat} {l0 : Nat} {l1 : Option Nat} {h hf : HP} {r : Unit} (e : X0_copyFrom F l0 l1 h = some (r, hf)) : Ok MX0_copyFrom [vr (some l0), vr l1] none h hf := fun K _ _ _ => SX0_copyFrom l0 l1 h e
theorem wml_RX5_38 : Cond.methodLink RX5 38 arraycopyName ∈ BW := bw_of 853 (by decide +kernel) rfl
theorem fl_RX5_15 : FL RX5 15 5 6 1 true := ⟨RX5, TX5, ci_5, by decide, bw_of 496 (by decide +kernel) rfl, rfl, rfl⟩
theorem fl_RX5_24 : FL RX5 24 5 6 4 false := ⟨RX5, TX5, ci_5, by decide, bw_of 499 (by decide +kernel) rfl, rfl, rfl⟩
theorem fl_RX5_44 : FL RX5 44 5 6 5 false := ⟨RX5, TX5, ci_5, by decide, bw_of 501 (by decide +kernel) rfl, rfl, rfl⟩
abbrev MX5_copyFrom : MI := (RX5, cX5_copyFrom, 2, none, 2, none, "copyFrom")
noncomputable def X5_copyFrom (F : Nat)   (l0 : Nat) (l1 : Option Nat)  (h : HP) : Option (Unit × HP) :=
  (xgP h l1 5 6 0).bind fun v1 =>
  (xgP h (some l0) 5 6 0).bind fun v2 =>
  (xcp h v1 0 v2 0 20).bind fun h3 =>
  (xgP h3 l1 5 6 1).bind fun v4 =>
  (xgP h3 (some l0) 5 6 1).bind fun v5 =>
  (xcp h3 v4 0 v5 0 20).bind fun h6 =>
  (xgP h6 l1 5 6 2).bind fun v7 =>
  (xgP h6 (some l0) 5 6 2).bind fun v8 =>
  (xcp h6 v7 0 v8 0 20).bind fun h9 =>
  (xgP h9 l1 5 6 3).bind fun v10 =>
  (xgP h9 (some l0) 5 6 3).bind fun v11 =>
  (xcp h9 v10 0 v11 0 20).bind fun h12 =>
  (xgI h12 l1 5 6 4).bind fun v13 =>
  (xpI h12 (some l0) 5 6 4 v13).bind fun h14 =>
  (xgI h14 l1 5 6 5).bind fun v15 =>
  (xpZ h14 (some l0) 5 6 5 v15).bind fun h16 =>
  some ((), h16)
set_option maxRecDepth 100000 in
theorem SX5_copyFrom {K : Ctx} {F : Nat} {r : Unit} {hf : HP}     (l0 : Nat) (l1 : Option Nat)  (h : HP) (E : X5_copyFrom F   l0 l1 h = some (r, hf)) : Go K MX5_copyFrom (QM K none hf) hf 0 [(0, vr (some l0)), (1, vr l1)] [] h := by
  unfold X5_copyFrom at E
  refine go_aload_n (j := 1) (n := 1) rfl rfl dX5_copyFrom_0 rfl ?_
  replace E := Option.bind_eq_some_iff.mp E; obtain ⟨v1, ev1, E⟩ := E
  refine go_getP (n := 4) ev1 fl_RX5_9 rfl dX5_copyFrom_1 rfl ?_
  refine go_iconst (z := 0) (n := 5) ⟨by decide, by decide⟩ dX5_copyFrom_4 rfl ?_
  refine go_aload_n (j := 0) (n := 6) rfl rfl dX5_copyFrom_5 rfl ?_
  replace E := Option.bind_eq_some_iff.mp E; obtain ⟨v2, ev2, E⟩ := E
  refine go_getP (n := 9) ev2 fl_RX5_9 rfl dX5_copyFrom_6 rfl ?_
  refine go_iconst (z := 0) (n := 10) ⟨by decide, by decide⟩ dX5_copyFrom_9 rfl ?_
  refine go_bipush (z := 20) (n := 12) ⟨by decide, by decide⟩ dX5_copyFrom_10 rfl ?_
  replace E := Option.bind_eq_some_iff.mp E; obtain ⟨h3, eh3, E⟩ := E
  refine go_copy (n := 15) eh3 wml_RX5_38 w_copy (Nat.le_of_ble_eq_true rfl) (Nat.le_of_ble_eq_true rfl) dX5_copyFrom_12 rfl ?_
  refine go_aload_n (j := 1) (n := 16) rfl rfl dX5_copyFrom_15 rfl ?_
  replace E := Option.bind_eq_some_iff.mp E; obtain ⟨v4, ev4, E⟩ := E
  refine go_getP (n := 19) ev4 fl_RX5_15 rfl dX5_copyFrom_16 rfl ?_
  refine go_iconst (z := 0) (n := 20) ⟨by decide, by decide⟩ dX5_copyFrom_19 rfl ?_
  refine go_aload_n (j := 0) (n := 21) rfl rfl dX5_copyFrom_20 rfl ?_
  replace E := Option.bind_eq_some_iff.mp E; obtain ⟨v5, ev5, E⟩ := E
  refine go_getP (n := 24) ev5 fl_RX5_15 rfl dX5_copyFrom_21 rfl ?_
  refine go_iconst (z := 0) (n := 25) ⟨by decide, by decide⟩ dX5_copyFrom_24 rfl ?_
  refine go_bipush (z := 20) (n := 27) ⟨by decide, by decide⟩ dX5_copyFrom_25 rfl ?_
  replace E := Option.bind_eq_some_iff.mp E; obtain ⟨h6, eh6, E⟩ := E
  refine go_copy (n := 30) eh6 wml_RX5_38 w_copy (Nat.le_of_ble_eq_true rfl) (Nat.le_of_ble_eq_true rfl) dX5_copyFrom_27 rfl ?_
  refine go_aload_n (j := 1) (n := 31) rfl rfl dX5_copyFrom_30 rfl ?_
  replace E := Option.bind_eq_some_iff.mp E; obtain ⟨v7, ev7, E⟩ := E
  refine go_getP (n := 34) ev7 fl_RX5_18 rfl dX5_copyFrom_31 rfl ?_
  refine go_iconst (z := 0) (n := 35) ⟨by decide, by decide⟩ dX5_copyFrom_34 rfl ?_
  refine go_aload_n (j := 0) (n := 36) rfl rfl dX5_copyFrom_35 rfl ?_
  replace E := Option.bind_eq_some_iff.mp E; obtain ⟨v8, ev8, E⟩ := E
  refine go_getP (n := 39) ev8 fl_RX5_18 rfl dX5_copyFrom_36 rfl ?_
  refine go_iconst (z := 0) (n := 40) ⟨by decide, by decide⟩ dX5_copyFrom_39 rfl ?_
  refine go_bipush (z := 20) (n := 42) ⟨by decide, by decide⟩ dX5_copyFrom_40 rfl ?_
  replace E := Option.bind_eq_some_iff.mp E; obtain ⟨h9, eh9, E⟩ := E
  refine go_copy (n := 45) eh9 wml_RX5_38 w_copy (Nat.le_of_ble_eq_true rfl) (Nat.le_of_ble_eq_true rfl) dX5_copyFrom_42 rfl ?_
  refine go_aload_n (j := 1) (n := 46) rfl rfl dX5_copyFrom_45 rfl ?_
  replace E := Option.bind_eq_some_iff.mp E; obtain ⟨v10, ev10, E⟩ := E
  refine go_getP (n := 49) ev10 fl_RX5_21 rfl dX5_copyFrom_46 rfl ?_
  refine go_iconst (z := 0) (n := 50) ⟨by decide, by decide⟩ dX5_copyFrom_49 rfl ?_
  refine go_aload_n (j := 0) (n := 51) rfl rfl dX5_copyFrom_50 rfl ?_
  replace E := Option.bind_eq_some_iff.mp E; obtain ⟨v11, ev11, E⟩ := E
  refine go_getP (n := 54) ev11 fl_RX5_21 rfl dX5_copyFrom_51 rfl ?_
  refine go_iconst (z := 0) (n := 55) ⟨by decide, by decide⟩ dX5_copyFrom_54 rfl ?_
  refine go_bipush (z := 20) (n := 57) ⟨by decide, by decide⟩ dX5_copyFrom_55 rfl ?_
  replace E := Option.bind_eq_some_iff.mp E; obtain ⟨h12, eh12, E⟩ := E
  refine go_copy (n := 60) eh12 wml_RX5_38 w_copy (Nat.le_of_ble_eq_true rfl) (Nat.le_of_ble_eq_true rfl) dX5_copyFrom_57 rfl ?_
  refine go_aload_n (j := 0) (n := 61) rfl rfl dX5_copyFrom_60 rfl ?_
  refine go_aload_n (j := 1) (n := 62) rfl rfl dX5_copyFrom_61 rfl ?_
  replace E := Option.bind_eq_some_iff.mp E; obtain ⟨v13, ev13, E⟩ := E
  refine go_getI (n := 65) ev13 fl_RX5_24 rfl dX5_copyFrom_62 rfl ?_
  replace E := Option.bind_eq_some_iff.mp E; obtain ⟨h14, eh14, E⟩ := E
  refine go_putI (n := 68) eh14 fl_RX5_24 rfl dX5_copyFrom_65 rfl ?_
  refine go_aload_n (j := 0) (n := 69) rfl rfl dX5_copyFrom_68 rfl ?_
  refine go_aload_n (j := 1) (n := 70) rfl rfl dX5_copyFrom_69 rfl ?_
  replace E := Option.bind_eq_some_iff.mp E; obtain ⟨v15, ev15, E⟩ := E
  refine go_getI (n := 73) ev15 fl_RX5_44 rfl dX5_copyFrom_70 rfl ?_
  replace E := Option.bind_eq_some_iff.mp E; obtain ⟨h16, eh16, E⟩ := E
  refine go_putZ (n := 76) eh16 fl_RX5_44 rfl dX5_copyFrom_73 rfl ?_
  cases E
  exact go_return rfl dX5_copyFrom_76
theorem OX5_copyFrom {F : Nat} {l0 : Nat} {l1 : Option Nat} {h hf : HP} {r : Unit} (e : X5_copyFrom F l0 l1 h = some (r, hf)) : Ok MX5_copyFrom [vr (some l0), vr l1] none h hf := fun K _ _ _ => SX5_copyFrom l0 l1 h e
theorem fl_RX4_22 : FL RX4 22 4 12 1 true := ⟨RX4, TX4, ci_4, by decide, bw_of 517 (by decide +kernel) rfl, rfl, rfl⟩
theorem yw_X7_copyFrom : YW yX7_copyFrom cX7_copyFrom 3 none 1 := ⟨bw_of 825 (by decide +kernel) rfl, bw_of 121 (by decide +kernel) rfl, ⟨by decide +kernel, by decide +kernel, by decide +kernel⟩, by decide +kernel⟩
theorem wml_RX4_147 : Cond.methodLink RX4 147 yX7_copyFrom ∈ BW := bw_of 822 (by decide +kernel) rfl
theorem wim_X7_copyFrom : Cond.instanceMethod yX7_copyFrom ∈ BW := bw_of 823 (by decide +kernel) rfl
theorem wse_X7_copyFrom : Cond.selects RX7 yX7_copyFrom yX7_copyFrom ∈ BW := bw_of 824 (by decide +kernel) rfl
theorem fl_RX4_26 : FL RX4 26 4 12 2 true := ⟨RX4, TX4, ci_4, by decide, bw_of 519 (by decide +kernel) rfl, rfl, rfl⟩
theorem yw_X3_copyFrom : YW yX3_copyFrom cX3_copyFrom 3 none 1 := ⟨bw_of 833 (by decide +kernel) rfl, bw_of 122 (by decide +kernel) rfl, ⟨by decide +kernel, by decide +kernel, by decide +kernel⟩, by decide +kernel⟩
theorem wml_RX4_151 : Cond.methodLink RX4 151 yX3_copyFrom ∈ BW := bw_of 830 (by decide +kernel) rfl
theorem wim_X3_copyFrom : Cond.instanceMethod yX3_copyFrom ∈ BW := bw_of 831 (by decide +kernel) rfl
theorem wse_X3_copyFrom : Cond.selects RX3 yX3_copyFrom yX3_copyFrom ∈ BW := bw_of 832 (by decide +kernel) rfl
theorem fl_RX4_33 : FL RX4 33 4 12 3 true := ⟨RX4, TX4, ci_4, by decide, bw_of 521 (by decide +kernel) rfl, rfl, rfl⟩
theorem yw_X10_copyFrom : YW yX10_copyFrom cX10_copyFrom 2 none 1 := ⟨bw_of 842 (by decide +kernel) rfl, bw_of 124 (by decide +kernel) rfl, ⟨by decide +kernel, by decide +kernel, by decide +kernel⟩, by decide +kernel⟩
theorem wml_RX4_154 : Cond.methodLink RX4 154 yX10_copyFrom ∈ BW := bw_of 839 (by decide +kernel) rfl
theorem wim_X10_copyFrom : Cond.instanceMethod yX10_copyFrom ∈ BW := bw_of 840 (by decide +kernel) rfl
theorem wse_X10_copyFrom : Cond.selects RX10 yX10_copyFrom yX10_copyFrom ∈ BW := bw_of 841 (by decide +kernel) rfl
theorem fl_RX4_40 : FL RX4 40 4 12 4 true := ⟨RX4, TX4, ci_4, by decide, bw_of 523 (by decide +kernel) rfl, rfl, rfl⟩
theorem yw_X0_copyFrom : YW yX0_copyFrom cX0_copyFrom 2 none 1 := ⟨bw_of 847 (by decide +kernel) rfl, bw_of 125 (by decide +kernel) rfl, ⟨by decide +kernel, by decide +kernel, by decide +kernel⟩, by decide +kernel⟩
theorem wml_RX4_157 : Cond.methodLink RX4 157 yX0_copyFrom ∈ BW := bw_of 844 (by decide +kernel) rfl
theorem wim_X0_copyFrom : Cond.instanceMethod yX0_copyFrom ∈ BW := bw_of 845 (by decide +kernel) rfl
theorem wse_X0_copyFrom : Cond.selects RX0 yX0_copyFrom yX0_copyFrom ∈ BW := bw_of 846 (by decide +kernel) rfl
theorem fl_RX4_47 : FL RX4 47 4 12 5 true := ⟨RX4, TX4, ci_4, by decide, bw_of 525 (by decide +kernel) rfl, rfl, rfl⟩
theorem yw_X5_copyFrom : YW yX5_copyFrom cX5_copyFrom 2 none 1 := ⟨bw_of 852 (by decide +kernel) rfl, bw_of 127 (by decide +kernel) rfl, ⟨by decide +kernel, by decide +kernel, by decide +kernel⟩, by decide +kernel⟩
theorem wml_RX4_160 : Cond.methodLink RX4 160 yX5_copyFrom ∈ BW := bw_of 849 (by decide +kernel) rfl
theorem wim_X5_copyFrom : Cond.instanceMethod yX5_copyFrom ∈ BW := bw_of 850 (by decide +kernel) rfl
theorem wse_X5_copyFrom : Cond.selects RX5 yX5_copyFrom yX5_copyFrom ∈ BW := bw_of 851 (by decide +kernel) rfl
theorem fl_RX4_58 : FL RX4 58 4 12 6 false := ⟨RX4, TX4, ci_4, by decide, bw_of 527 (by decide +kernel) rfl, rfl, rfl⟩
theorem fl_RX4_130 : FL RX4 130 4 12 7 false := ⟨RX4, TX4, ci_4, by decide, bw_of 530 (by decide +kernel) rfl, rfl, rfl⟩
theorem fl_RX4_133 : FL RX4 133 4 12 8 false := ⟨RX4, TX4, ci_4, by decide, bw_of 532 (by decide +kernel) rfl, rfl, rfl⟩
theorem fl_RX4_71 : FL RX4 71 4 12 9 false := ⟨RX4, TX4, ci_4, by decide, bw_of 533 (by decide +kernel) rfl, rfl, rfl⟩
theorem fl_RX4_55 : FL RX4 55 4 12 11 false := ⟨RX4, TX4, ci_4, by decide, bw_of 537 (by decide +kernel) rfl, rfl, rfl⟩
abbrev MX4_copyFrom : MI := (RX4, cX4_copyFrom, 2, none, 4, none, "copyFrom")
noncomputable def X4_copyFrom (F : Nat)   (l0 : Nat) (l1 : Option Nat)  (h : HP) : Option (Unit × HP) :=
  (xgP h (some l0) 4 12 1).bind fun v1 =>
  (xgP h l1 4 12 1).bind fun v2 =>
  (xrc h v1 7 10).bind fun a5 =>
  xb (X7_copyFrom F a5 v2 h) fun v3 h4 =>
  (xgP h4 (some l0) 4 12 2).bind fun v6 =>
  (xgP h4 l1 4 12 2).bind fun v7 =>
  (xrc h4 v6 3 7).bind fun a10 =>
  xb (X3_copyFrom F a10 v7 h4) fun v8 h9 =>
  (xgP h9 (some l0) 4 12 3).bind fun v11 =>
  (xgP h9 l1 4 12 3).bind fun v12 =>
  (xrc h9 v11 10 10).bind fun a15 =>
  xb (X10_copyFrom F a15 v12 h9) fun v13 h14 =>
  (xgP h14 (some l0) 4 12 4).bind fun v16 =>
  (xgP h14 l1 4 12 4).bind fun v17 =>
  (xrc h14 v16 0 10).bind fun a20 =>
  xb (X0_copyFrom F a20 v17 h14) fun v18 h19 =>
  (xgP h19 (some l0) 4 12 5).bind fun v21 =>
  (xgP h19 l1 4 12 5).bind fun v22 =>
  (xrc h19 v21 5 6).bind fun a25 =>
  xb (X5_copyFrom F a25 v22 h19) fun v23 h24 =>
  (xgI h24 l1 4 12 6).bind fun v26 =>
  (xpI h24 (some l0) 4 12 6 v26).bind fun h27 =>
  (xgI h27 l1 4 12 7).bind fun v28 =>
  (xpI h27 (some l0) 4 12 7 v28).bind fun h29 =>
  (xgI h29 l1 4 12 8).bind fun v30 =>
  (xpI h29 (some l0) 4 12 8 v30).bind fun h31 =>
  (xgI h31 l1 4 12 9).bind fun v32 =>
  (xpI h31 (some l0) 4 12 9 v32).bind fun h33 =>
  (xgI h33 l1 4 12 10).bind fun v34 =>
  (xpI h33 (some l0) 4 12 10 v34).bind fun h35 =>
  (xgI h35 l1 4 12 11).bind fun v36 =>
  (xpI h35 (some l0) 4 12 11 v36).bind fun h37 =>
  some ((), h37)
set_option maxRecDepth 100000 in
theorem SX4_copyFrom {K : Ctx} {F : Nat} {r : Unit} {hf : HP}     (l0 : Nat) (l1 : Option Nat)  (h : HP) (E : X4_copyFrom F   l0 l1 h = some (r, hf)) : Go K MX4_copyFrom (QM K none hf) hf 0 [(0, vr (some l0)), (1, vr l1)] [] h := by
  unfold X4_copyFrom at E
  refine go_aload_n (j := 0) (n := 1) rfl rfl dX4_copyFrom_0 rfl ?_
  replace E := Option.bind_eq_some_iff.mp E; obtain ⟨v1, ev1, E⟩ := E
  refine go_getP (n := 4) ev1 fl_RX4_22 rfl dX4_copyFrom_1 rfl ?_
  refine go_aload_n (j := 1) (n := 5) rfl rfl dX4_copyFrom_4 rfl ?_
  replace E := Option.bind_eq_some_iff.mp E; obtain ⟨v2, ev2, E⟩ := E
  refine go_getP (n := 8) ev2 fl_RX4_22 rfl dX4_copyFrom_5 rfl ?_
  replace E := Option.bind_eq_some_iff.mp E; obtain ⟨a5, ea5, E⟩ := E
  obtain ⟨fa5, ga5⟩ := xrc_some ea5
  replace E := xb_some E; obtain ⟨v3, h4, ev3, E⟩ := E
  refine go_callV (y := yX7_copyFrom) (n := 11) (st := []) (as := [vr v2]) (stk9 := []) (OX7_copyFrom ev3) yw_X7_copyFrom ci_7 ga5 wml_RX4_147 wim_X7_copyFrom wse_X7_copyFrom (Nat.le_of_ble_eq_true rfl) rfl ⟨Nat.le_of_ble_eq_true rfl, Nat.le_of_ble_eq_true rfl⟩ (Nat.le_of_ble_eq_true rfl) dX4_copyFrom_8 rfl (by cases fa5; rfl) rfl ?_
  refine go_aload_n (j := 0) (n := 12) rfl rfl dX4_copyFrom_11 rfl ?_
  replace E := Option.bind_eq_some_iff.mp E; obtain ⟨v6, ev6, E⟩ := E
  refine go_getP (n := 15) ev6 fl_RX4_26 rfl dX4_copyFrom_12 rfl ?_
  refine go_aload_n (j := 1) (n := 16) rfl rfl dX4_copyFrom_15 rfl ?_
  replace E := Option.bind_eq_some_iff.mp E; obtain ⟨v7, ev7, E⟩ := E
  refine go_getP (n := 19) ev7 fl_RX4_26 rfl dX4_copyFrom_16 rfl ?_
  replace E := Option.bind_eq_some_iff.mp E; obtain ⟨a10, ea10, E⟩ := E
  obtain ⟨fa10, ga10⟩ := xrc_some ea10
  replace E := xb_some E; obtain ⟨v8, h9, ev8, E⟩ := E
  refine go_callV (y := yX3_copyFrom) (n := 22) (st := []) (as := [vr v7]) (stk9 := []) (OX3_copyFrom ev8) yw_X3_copyFrom ci_3 ga10 wml_RX4_151 wim_X3_copyFrom wse_X3_copyFrom (Nat.le_of_ble_eq_true rfl) rfl ⟨Nat.le_of_ble_eq_true rfl, Nat.le_of_ble_eq_true rfl⟩ (Nat.le_of_ble_eq_true rfl) dX4_copyFrom_19 rfl (by cases fa10; rfl) rfl ?_
  refine go_aload_n (j := 0) (n := 23) rfl rfl dX4_copyFrom_22 rfl ?_
  replace E := Option.bind_eq_some_iff.mp E; obtain ⟨v11, ev11, E⟩ := E
  refine go_getP (n := 26) ev11 fl_RX4_33 rfl dX4_copyFrom_23 rfl ?_
  refine go_aload_n (j := 1) (n := 27) rfl rfl dX4_copyFrom_26 rfl ?_
  replace E := Option.bind_eq_some_iff.mp E; obtain ⟨v12, ev12, E⟩ := E
  refine go_getP (n := 30) ev12 fl_RX4_33 rfl dX4_copyFrom_27 rfl ?_
  replace E := Option.bind_eq_some_iff.mp E; obtain ⟨a15, ea15, E⟩ := E
  obtain ⟨fa15, ga15⟩ := xrc_some ea15
  replace E := xb_some E; obtain ⟨v13, h14, ev13, E⟩ := E
  refine go_callV (y := yX10_copyFrom) (n := 33) (st := []) (as := [vr v12]) (stk9 := []) (OX10_copyFrom ev13) yw_X10_copyFrom ci_10 ga15 wml_RX4_154 wim_X10_copyFrom wse_X10_copyFrom (Nat.le_of_ble_eq_true rfl) rfl ⟨Nat.le_of_ble_eq_true rfl, Nat.le_of_ble_eq_true rfl⟩ (Nat.le_of_ble_eq_true rfl) dX4_copyFrom_30 rfl (by cases fa15; rfl) rfl ?_
  refine go_aload_n (j := 0) (n := 34) rfl rfl dX4_copyFrom_33 rfl ?_
  replace E := Option.bind_eq_some_iff.mp E; obtain ⟨v16, ev16, E⟩ := E
  refine go_getP (n := 37) ev16 fl_RX4_40 rfl dX4_copyFrom_34 rfl ?_
  refine go_aload_n (j := 1) (n := 38) rfl rfl dX4_copyFrom_37 rfl ?_
  replace E := Option.bind_eq_some_iff.mp E; obtain ⟨v17, ev17, E⟩ := E
  refine go_getP (n := 41) ev17 fl_RX4_40 rfl dX4_copyFrom_38 rfl ?_
  replace E := Option.bind_eq_some_iff.mp E; obtain ⟨a20, ea20, E⟩ := E
  obtain ⟨fa20, ga20⟩ := xrc_some ea20
  replace E := xb_some E; obtain ⟨v18, h19, ev18, E⟩ := E
  refine go_callV (y := yX0_copyFrom) (n := 44) (st := []) (as := [vr v17]) (stk9 := []) (OX0_copyFrom ev18) yw_X0_copyFrom ci_0 ga20 wml_RX4_157 wim_X0_copyFrom wse_X0_copyFrom (Nat.le_of_ble_eq_true rfl) rfl ⟨Nat.le_of_ble_eq_true rfl, Nat.le_of_ble_eq_true rfl⟩ (Nat.le_of_ble_eq_true rfl) dX4_copyFrom_41 rfl (by cases fa20; rfl) rfl ?_
  refine go_aload_n (j := 0) (n := 45) rfl rfl dX4_copyFrom_44 rfl ?_
  replace E := Option.bind_eq_some_iff.mp E; obtain ⟨v21, ev21, E⟩ := E
  refine go_getP (n := 48) ev21 fl_RX4_47 rfl dX4_copyFrom_45 rfl ?_
  refine go_aload_n (j := 1) (n := 49) rfl rfl dX4_copyFrom_48 rfl ?_
  replace E := Option.bind_eq_some_iff.mp E; obtain ⟨v22, ev22, E⟩ := E
  refine go_getP (n := 52) ev22 fl_RX4_47 rfl dX4_copyFrom_49 rfl ?_
  replace E := Option.bind_eq_some_iff.mp E; obtain ⟨a25, ea25, E⟩ := E
  obtain ⟨fa25, ga25⟩ := xrc_some ea25
  replace E := xb_some E; obtain ⟨v23, h24, ev23, E⟩ := E
  refine go_callV (y := yX5_copyFrom) (n := 55) (st := []) (as := [vr v22]) (stk9 := []) (OX5_copyFrom ev23) yw_X5_copyFrom ci_5 ga25 wml_RX4_160 wim_X5_copyFrom wse_X5_copyFrom (Nat.le_of_ble_eq_true rfl) rfl ⟨Nat.le_of_ble_eq_true rfl, Nat.le_of_ble_eq_true rfl⟩ (Nat.le_of_ble_eq_true rfl) dX4_copyFrom_52 rfl (by cases fa25; rfl) rfl ?_
  refine go_aload_n (j := 0) (n := 56) rfl rfl dX4_copyFrom_55 rfl ?_
  refine go_aload_n (j := 1) (n := 57) rfl rfl dX4_copyFrom_56 rfl ?_
  replace E := Option.bind_eq_some_iff.mp E; obtain ⟨v26, ev26, E⟩ := E
  refine go_getI (n := 60) ev26 fl_RX4_58 rfl dX4_copyFrom_57 rfl ?_
  replace E := Option.bind_eq_some_iff.mp E; obtain ⟨h27, eh27, E⟩ := E
  refine go_putI (n := 63) eh27 fl_RX4_58 rfl dX4_copyFrom_60 rfl ?_
  refine go_aload_n (j := 0) (n := 64) rfl rfl dX4_copyFrom_63 rfl ?_
  refine go_aload_n (j := 1) (n := 65) rfl rfl dX4_copyFrom_64 rfl ?_
  replace E := Option.bind_eq_some_iff.mp E; obtain ⟨v28, ev28, E⟩ := E
  refine go_getI (n := 68) ev28 fl_RX4_130 rfl dX4_copyFrom_65 rfl ?_
  replace E := Option.bind_eq_some_iff.mp E; obtain ⟨h29, eh29, E⟩ := E
  refine go_putI (n := 71) eh29 fl_RX4_130 rfl dX4_copyFrom_68 rfl ?_
  refine go_aload_n (j := 0) (n := 72) rfl rfl dX4_copyFrom_71 rfl ?_
  refine go_aload_n (j := 1) (n := 73) rfl rfl dX4_copyFrom_72 rfl ?_
  replace E := Option.bind_eq_some_iff.mp E; obtain ⟨v30, ev30, E⟩ := E
  refine go_getI (n := 76) ev30 fl_RX4_133 rfl dX4_copyFrom_73 rfl ?_
  replace E := Option.bind_eq_some_iff.mp E; obtain ⟨h31, eh31, E⟩ := E
  refine go_putI (n := 79) eh31 fl_RX4_133 rfl dX4_copyFrom_76 rfl ?_
  refine go_aload_n (j := 0) (n := 80) rfl rfl dX4_copyFrom_79 rfl ?_
  refine go_aload_n (j := 1) (n := 81) rfl rfl dX4_copyFrom_80 rfl ?_
  replace E := Option.bind_eq_some_iff.mp E; obtain ⟨v32, ev32, E⟩ := E
  refine go_getI (n := 84) ev32 fl_RX4_71 rfl dX4_copyFrom_81 rfl ?_
  replace E := Option.bind_eq_some_iff.mp E; obtain ⟨h33, eh33, E⟩ := E
  refine go_putI (n := 87) eh33 fl_RX4_71 rfl dX4_copyFrom_84 rfl ?_
  refine go_aload_n (j := 0) (n := 88) rfl rfl dX4_copyFrom_87 rfl ?_
  refine go_aload_n (j := 1) (n := 89) rfl rfl dX4_copyFrom_88 rfl ?_
  replace E := Option.bind_eq_some_iff.mp E; obtain ⟨v34, ev34, E⟩ := E
  refine go_getI (n := 92) ev34 fl_RX4_51 rfl dX4_copyFrom_89 rfl ?_
  replace E := Option.bind_eq_some_iff.mp E; obtain ⟨h35, eh35, E⟩ := E
  refine go_putI (n := 95) eh35 fl_RX4_51 rfl dX4_copyFrom_92 rfl ?_
  refine go_aload_n (j := 0) (n := 96) rfl rfl dX4_copyFrom_95 rfl ?_
  refine go_aload_n (j := 1) (n := 97) rfl rfl dX4_copyFrom_96 rfl ?_
  replace E := Option.bind_eq_some_iff.mp E; obtain ⟨v36, ev36, E⟩ := E
  refine go_getI (n := 100) ev36 fl_RX4_55 rfl dX4_copyFrom_97 rfl ?_
  replace E := Option.bind_eq_some_iff.mp E; obtain ⟨h37, eh37, E⟩ := E
  refine go_putI (n := 103) eh37 fl_RX4_55 rfl dX4_copyFrom_100 rfl ?_
  cases E
  exact go_return rfl dX4_copyFrom_103
theorem OX4_copyFrom {F : Nat} {l0 : Nat} {l1 : Option Nat} {h hf : HP} {r : Unit} (e : X4_copyFrom F l0 l1 h = some (r, hf)) : Ok MX4_copyFrom [vr (some l0), vr l1] none h hf := fun K _ _ _ => SX4_copyFrom l0 l1 h e
theorem fl_RX11_320 : FL RX11 320 11 6 4 false := ⟨RX11, TX11, ci_11, by decide, bw_of 620 (by decide +kernel) rfl, rfl, rfl⟩
theorem fl_RX11_27 : FL RX11 27 11 6 3 true := ⟨RX11, TX11, ci_11, by decide, bw_of 619 (by decide +kernel) rfl, rfl, rfl⟩
theorem yw_X4_copyFrom : YW yX4_copyFrom cX4_copyFrom 2 none 1 := ⟨bw_of 821 (by decide +kernel) rfl, bw_of 119 (by decide +kernel) rfl, ⟨by decide +kernel, by decide +kernel, by decide +kernel⟩, by decide +kernel⟩
theorem wml_RX11_316 : Cond.methodLink RX11 316 yX4_copyFrom ∈ BW := bw_of 818 (by decide +kernel) rfl
theorem wim_X4_copyFrom : Cond.instanceMethod yX4_copyFrom ∈ BW := bw_of 819 (by decide +kernel) rfl
theorem wse_X4_copyFrom : Cond.selects RX4 yX4_copyFrom yX4_copyFrom ∈ BW := bw_of 820 (by decide +kernel) rfl
abbrev MX11_back : MI := (RX11, cX11_back, 1, (some .boolean), 5, none, "back")
noncomputable def X11_back (F : Nat)   (l0 : Nat)  (h : HP) : Option (Int × HP) :=
  (xgI h (some l0) 11 6 4).bind fun v1 =>
  if v1 = 0 then
    some (0, h)
  else
    (xgP h (some l0) 11 6 2).bind fun v3 =>
    (xgP h (some l0) 11 6 3).bind fun v4 =>
    (xrc h v3 4 12).bind fun a7 =>
    xb (X4_copyFrom F a7 v4 h) fun v5 h6 =>
    some (1, h6)
set_option maxRecDepth 100000 in
theorem SX11_back {K : Ctx} {F : Nat} {r : Int} {hf : HP}     (l0 : Nat)  (h : HP) (E : X11_back F   l0 h = some (r, hf)) : Go K MX11_back (QM K (some (vi r)) hf) hf 0 [(0, vr (some l0))] [] h := by
  unfold X11_back at E
  refine go_aload_n (j := 0) (n := 1) rfl rfl dX11_back_0 rfl ?_
  replace E := Option.bind_eq_some_iff.mp E; obtain ⟨v1, ev1, E⟩ := E
  refine go_getI (n := 4) ev1 fl_RX11_320 rfl dX11_back_1 rfl ?_
  refine go_if_ne (tgt := 9) (n := 7) dX11_back_4 rfl rfl (fun c2 => ?_) (fun c2 => ?_)
  · rw [if_neg c2] at E
    refine go_aload_n (j := 0) (n := 10) rfl rfl dX11_back_9 rfl ?_
    replace E := Option.bind_eq_some_iff.mp E; obtain ⟨v3, ev3, E⟩ := E
    refine go_getP (n := 13) ev3 fl_RX11_23 rfl dX11_back_10 rfl ?_
    refine go_aload_n (j := 0) (n := 14) rfl rfl dX11_back_13 rfl ?_
    replace E := Option.bind_eq_some_iff.mp E; obtain ⟨v4, ev4, E⟩ := E
    refine go_getP (n := 17) ev4 fl_RX11_27 rfl dX11_back_14 rfl ?_
    replace E := Option.bind_eq_some_iff.mp E; obtain ⟨a7, ea7, E⟩ := E
    obtain ⟨fa7, ga7⟩ := xrc_some ea7
    replace E := xb_some E; obtain ⟨v5, h6, ev5, E⟩ := E
    refine go_callV (y := yX4_copyFrom) (n := 20) (st := []) (as := [vr v4]) (stk9 := []) (OX4_copyFrom ev5) yw_X4_copyFrom ci_4 ga7 wml_RX11_316 wim_X4_copyFrom wse_X4_copyFrom (Nat.le_of_ble_eq_true rfl) rfl ⟨Nat.le_of_ble_eq_true rfl, Nat.le_of_ble_eq_true rfl⟩ (Nat.le_of_ble_eq_true rfl) dX11_back_17 rfl (by cases fa7; rfl) rfl ?_
    refine go_iconst (z := 1) (n := 21) ⟨by decide, by decide⟩ dX11_back_20 rfl ?_
    cases E
    exact go_zreturn rfl (Or.inr rfl) dX11_back_21
  · rw [if_pos c2] at E
    refine go_iconst (z := 0) (n := 8) ⟨by decide, by decide⟩ dX11_back_7 rfl ?_
    cases E
    exact go_zreturn rfl (Or.inl rfl) dX11_back_8
theorem OX11_back {F : Nat} {l0 : Nat} {h hf : HP} {r : Int} (e : X11_back F l0 h = some (r, hf)) : Ok MX11_back [vr (some l0)] (some (vi r)) h hf := fun K _ _ _ => SX11_back l0 h e
abbrev MX3_placed : MI := (RX3, cX3_placed, 2, (some .int), 2, none, "placed")
noncomputable def X3_placed (F : Nat)   (l0 : Nat) (l1 : Int)  (h : HP) : Option (Int × HP) :=
  (xgI h (some l0) 3 7 4).bind fun v1 =>
  if v1 = 0 then
    some ((-1), h)
  else
    if l1 < 0 then
      some ((-1), h)
    else
      (xgI h (some l0) 3 7 5).bind fun v4 =>
      if v4 ≤ l1 then
        some ((-1), h)
      else
        if 12 ≤ l1 then
          some ((-1), h)
        else
          (xgP h (some l0) 3 7 2).bind fun v7 =>
          (xaI h v7 100 l1).bind fun v8 =>
          some (v8, h)
set_option maxRecDepth 100000 in
theorem SX3_placed {K : Ctx} {F : Nat} {r : Int} {hf : HP}     (l0 : Nat) (l1 : Int)  (h : HP) (E : X3_placed F   l0 l1 h = some (r, hf)) : Go K MX3_placed (QM K (some (vi r)) hf) hf 0 [(0, vr (some l0)), (1, vi l1)] [] h := by
  unfold X3_placed at E
  refine go_aload_n (j := 0) (n := 1) rfl rfl dX3_placed_0 rfl ?_
  replace E := Option.bind_eq_some_iff.mp E; obtain ⟨v1, ev1, E⟩ := E
  refine go_getI (n := 4) ev1 fl_RX3_27 rfl dX3_placed_1 rfl ?_
  refine go_if_eq (tgt := 34) (n := 7) dX3_placed_4 rfl rfl (fun c2 => ?_) (fun c2 => ?_)
  · rw [if_pos c2] at E
    refine go_iconst (z := (-1)) (n := 35) ⟨by decide, by decide⟩ dX3_placed_34 rfl ?_
    cases E
    exact go_ireturn rfl dX3_placed_35
  · rw [if_neg c2] at E
    refine go_iload_n (j := 1) (n := 8) rfl rfl dX3_placed_7 rfl ?_
    refine go_if_lt (tgt := 34) (n := 11) dX3_placed_8 rfl rfl (fun c3 => ?_) (fun c3 => ?_)
    · rw [if_pos c3] at E
      refine go_iconst (z := (-1)) (n := 35) ⟨by decide, by decide⟩ dX3_placed_34 rfl ?_
      cases E
      exact go_ireturn rfl dX3_placed_35
    · rw [if_neg c3] at E
      refine go_iload_n (j := 1) (n := 12) rfl rfl dX3_placed_11 rfl ?_
      refine go_aload_n (j := 0) (n := 13) rfl rfl dX3_placed_12 rfl ?_
      replace E := Option.bind_eq_some_iff.mp E; obtain ⟨v4, ev4, E⟩ := E
      refine go_getI (n := 16) ev4 fl_RX3_36 rfl dX3_placed_13 rfl ?_
      refine go_icmp_ge (tgt := 34) (n := 19) dX3_placed_16 rfl rfl (fun c5 => ?_) (fun c5 => ?_)
      · rw [if_pos c5] at E
        refine go_iconst (z := (-1)) (n := 35) ⟨by decide, by decide⟩ dX3_placed_34 rfl ?_
        cases E
        exact go_ireturn rfl dX3_placed_35
      · rw [if_neg c5] at E
        refine go_iload_n (j := 1) (n := 20) rfl rfl dX3_placed_19 rfl ?_
        refine go_bipush (z := 12) (n := 22) ⟨by decide, by decide⟩ dX3_placed_20 rfl ?_
        refine go_icmp_ge (tgt := 34) (n := 25) dX3_placed_22 rfl rfl (fun c6 => ?_) (fun c6 => ?_)
        · rw [if_pos c6] at E
          refine go_iconst (z := (-1)) (n := 35) ⟨by decide, by decide⟩ dX3_placed_34 rfl ?_
          cases E
          exact go_ireturn rfl dX3_placed_35
        · rw [if_neg c6] at E
          refine go_aload_n (j := 0) (n := 26) rfl rfl dX3_placed_25 rfl ?_
          replace E := Option.bind_eq_some_iff.mp E; obtain ⟨v7, ev7, E⟩ := E
          refine go_getP (n := 29) ev7 fl_RX3_21 rfl dX3_placed_26 rfl ?_
          refine go_iload_n (j := 1) (n := 30) rfl rfl dX3_placed_29 rfl ?_
          replace E := Option.bind_eq_some_iff.mp E; obtain ⟨v8, ev8, E⟩ := E
          refine go_iaload (n := 31) ev8 dX3_placed_30 rfl ?_
          refine go_goto (tgt := 35) dX3_placed_31 rfl ?_
          cases E
          exact go_ireturn rfl dX3_placed_35
theorem OX3_placed {F : Nat} {l0 : Nat} {l1 : Int} {h hf : HP} {r : Int} (e : X3_placed F l0 l1 h = some (r, hf)) : Ok MX3_placed [vr (some l0), vi l1] (some (vi r)) h hf := fun K _ _ _ => SX3_placed l0 l1 h e
abbrev MX3_leansOf : MI := (RX3, cX3_leansOf, 2, (some .int), 2, none, "leansOf")
noncomputable def X3_leansOf (F : Nat)   (l0 : Nat) (l1 : Int)  (h : HP) : Option (Int × HP) :=
  if l1 < 0 then
    some (0, h)
  else
    if 12 ≤ l1 then
      some (0, h)
    else
      (xgP h (some l0) 3 7 1).bind fun v3 =>
      (xaI h v3 100 l1).bind fun v4 =>
      some (v4, h)
set_option maxRecDepth 100000 in
theorem SX3_leansOf {K : Ctx} {F : Nat} {r : Int} {hf : HP}     (l0 : Nat) (l1 : Int)  (h : HP) (E : X3_leansOf F   l0 l1 h = some (r, hf)) : Go K MX3_leansOf (QM K (some (vi r)) hf) hf 0 [(0, vr (some l0)), (1, vi l1)] [] h := by
  unfold X3_leansOf at E
  refine go_iload_n (j := 1) (n := 1) rfl rfl dX3_leansOf_0 rfl ?_
  refine go_if_lt (tgt := 19) (n := 4) dX3_leansOf_1 rfl rfl (fun c1 => ?_) (fun c1 => ?_)
  · rw [if_pos c1] at E
    refine go_iconst (z := 0) (n := 20) ⟨by decide, by decide⟩ dX3_leansOf_19 rfl ?_
    cases E
    exact go_ireturn rfl dX3_leansOf_20
  · rw [if_neg c1] at E
    refine go_iload_n (j := 1) (n := 5) rfl rfl dX3_leansOf_4 rfl ?_
    refine go_bipush (z := 12) (n := 7) ⟨by decide, by decide⟩ dX3_leansOf_5 rfl ?_
    refine go_icmp_ge (tgt := 19) (n := 10) dX3_leansOf_7 rfl rfl (fun c2 => ?_) (fun c2 => ?_)
    · rw [if_pos c2] at E
      refine go_iconst (z := 0) (n := 20) ⟨by decide, by decide⟩ dX3_leansOf_19 rfl ?_
      cases E
      exact go_ireturn rfl dX3_leansOf_20
    · rw [if_neg c2] at E
      refine go_aload_n (j := 0) (n := 11) rfl rfl dX3_leansOf_10 rfl ?_
      replace E := Option.bind_eq_some_iff.mp E; obtain ⟨v3, ev3, E⟩ := E
      refine go_getP (n := 14) ev3 fl_RX3_17 rfl dX3_leansOf_11 rfl ?_
      refine go_iload_n (j := 1) (n := 15) rfl rfl dX3_leansOf_14 rfl ?_
      replace E := Option.bind_eq_some_iff.mp E; obtain ⟨v4, ev4, E⟩ := E
      refine go_iaload (n := 16) ev4 dX3_leansOf_15 rfl ?_
      refine go_goto (tgt := 20) dX3_leansOf_16 rfl ?_
      cases E
      exact go_ireturn rfl dX3_leansOf_20
theorem OX3_leansOf {F : Nat} {l0 : Nat} {l1 : Int} {h hf : HP} {r : Int} (e : X3_leansOf F l0 l1 h = some (r, hf)) : Ok MX3_leansOf [vr (some l0), vi l1] (some (vi r)) h hf := fun K _ _ _ => SX3_leansOf l0 l1 h e
theorem yw_X3_leansOf : YW yX3_leansOf cX3_leansOf 2 (some .int) 1 := ⟨bw_of 770 (by decide +kernel) rfl, bw_of 122 (by decide +kernel) rfl, ⟨by decide +kernel, by decide +kernel, by decide +kernel⟩, by decide +kernel⟩
theorem wml_RX3_67 : Cond.methodLink RX3 67 yX3_leansOf ∈ BW := bw_of 767 (by decide +kernel) rfl
theorem wim_X3_leansOf : Cond.instanceMethod yX3_leansOf ∈ BW := bw_of 768 (by decide +kernel) rfl
theorem wse_X3_leansOf : Cond.selects RX3 yX3_leansOf yX3_leansOf ∈ BW := bw_of 769 (by decide +kernel) rfl
theorem fl_RX3_24 : FL RX3 24 3 7 3 true := ⟨RX3, TX3, ci_3, by decide, bw_of 389 (by decide +kernel) rfl, rfl, rfl⟩
theorem wml_RX3_99 : Cond.methodLink RX3 99 Lib.Math.max.name ∈ BW := bw_of 796 (by decide +kernel) rfl
abbrev MX3_leansDone : MI := (RX3, cX3_leansDone, 4, (some .int), 3, none, "leansDone")
noncomputable def X3_leansDone_L41 (F : Nat)  (rc4 : Nat → Int → Int → Int → HP → Option (Int × HP)) (l0 : Nat) (l1 : Int) (l2 : Int) (l3 : Int)  (h : HP) : Option (Int × HP) :=
  rc4 l0 l1 l2 (w32 (l3 + 1)) h
set_option maxRecDepth 100000 in
theorem SX3_leansDone_L41 {K : Ctx} {F : Nat} {r : Int} {hf : HP}   (rc4 : Nat → Int → Int → Int → HP → Option (Int × HP)) (hrc4 : ∀ l0 l1 l2 l3 h, rc4 l0 l1 l2 l3 h = some (r, hf) → Go K MX3_leansDone (QM K (some (vi r)) hf) hf 4 [(0, vr (some l0)), (1, vi l1), (2, vi l2), (3, vi l3)] [] h) (l0 : Nat) (l1 : Int) (l2 : Int) (l3 : Int)  (h : HP) (E : X3_leansDone_L41 F  rc4 l0 l1 l2 l3 h = some (r, hf)) : Go K MX3_leansDone (QM K (some (vi r)) hf) hf 41 [(0, vr (some l0)), (1, vi l1), (2, vi l2), (3, vi l3)] [] h := by
  unfold X3_leansDone_L41 at E
  refine go_iinc (j := 3) (n := 44) (lv' := [(3, vi (w32 (l3 + 1))), (0, vr (some l0)), (1, vi l1), (2, vi l2)]) rfl dX3_leansDone_41 rfl (Nat.le_of_ble_eq_true rfl) rfl ?_
  refine go_goto (tgt := 4) dX3_leansDone_44 rfl ?_
  refine go_pick (lv' := [(0, vr (some l0)), (1, vi l1), (2, vi l2), (3, vi (w32 (l3 + 1)))]) [1, 2, 3, 0] rfl ?_
  exact hrc4 _ _ _ _ _ E
noncomputable def X3_leansDone_L4 (F : Nat)   (k : Nat) : Nat → Int → Int → Int → HP → Option (Int × HP) :=
  Nat.rec (motive := fun _ => Nat → Int → Int → Int → HP → Option (Int × HP)) (fun _ _ _ _ _ => none) (fun _ rc4 l0 l1 l2 l3 h =>
    (xgI h (some l0) 3 7 5).bind fun v1 =>
    if v1 ≤ l3 then
      some (l2, h)
    else
      if 12 ≤ l3 then
        some (l2, h)
      else
        (xrc h (some l0) 3 7).bind fun a6 =>
        xb (X3_leansOf F a6 l1 h) fun v4 h5 =>
        if (xand (xush v4 l3) 1) = 0 then
          X3_leansDone_L41 F rc4 l0 l1 l2 l3 h5
        else
          (xgP h5 (some l0) 3 7 3).bind fun v8 =>
          (xaI h5 v8 100 l3).bind fun v9 =>
          X3_leansDone_L41 F rc4 l0 l1 (max l2 v9) l3 h5) k
theorem X3_leansDone_L4_s (F : Nat)   (k : Nat) (l0 : Nat) (l1 : Int) (l2 : Int) (l3 : Int)  (h : HP) : X3_leansDone_L4 F   (k + 1) l0 l1 l2 l3 h =
    (xgI h (some l0) 3 7 5).bind fun v1 =>
    if v1 ≤ l3 then
      some (l2, h)
    else
      if 12 ≤ l3 then
        some (l2, h)
      else
        (xrc h (some l0) 3 7).bind fun a6 =>
        xb (X3_leansOf F a6 l1 h) fun v4 h5 =>
        if (xand (xush v4 l3) 1) = 0 then
          X3_leansDone_L41 F (X3_leansDone_L4 F k) l0 l1 l2 l3 h5
        else
          (xgP h5 (some l0) 3 7 3).bind fun v8 =>
          (xaI h5 v8 100 l3).bind fun v9 =>
          X3_leansDone_L41 F (X3_leansDone_L4 F k) l0 l1 (max l2 v9) l3 h5 := rfl
set_option maxRecDepth 100000 in
theorem SX3_leansDone_L4 {K : Ctx} {F : Nat} {r : Int} {hf : HP}     : ∀ (k : Nat) (l0 : Nat) (l1 : Int) (l2 : Int) (l3 : Int)  (h : HP), X3_leansDone_L4 F   k l0 l1 l2 l3 h = some (r, hf) → Go K MX3_leansDone (QM K (some (vi r)) hf) hf 4 [(0, vr (some l0)), (1, vi l1), (2, vi l2), (3, vi l3)] [] h := by
  intro k
  induction k with
  | zero => intro l0 l1 l2 l3 h E; exact nomatch E
  | succ k hrc4 =>
    intro l0 l1 l2 l3 h E
    rw [X3_leansDone_L4_s] at E
    refine go_iload_n (j := 3) (n := 5) rfl rfl dX3_leansDone_4 rfl ?_
    refine go_aload_n (j := 0) (n := 6) rfl rfl dX3_leansDone_5 rfl ?_
    replace E := Option.bind_eq_some_iff.mp E; obtain ⟨v1, ev1, E⟩ := E
    refine go_getI (n := 9) ev1 fl_RX3_36 rfl dX3_leansDone_6 rfl ?_
    refine go_icmp_ge (tgt := 47) (n := 12) dX3_leansDone_9 rfl rfl (fun c2 => ?_) (fun c2 => ?_)
    · rw [if_pos c2] at E
      refine go_iload_n (j := 2) (n := 48) rfl rfl dX3_leansDone_47 rfl ?_
      cases E
      exact go_ireturn rfl dX3_leansDone_48
    · rw [if_neg c2] at E
      refine go_iload_n (j := 3) (n := 13) rfl rfl dX3_leansDone_12 rfl ?_
      refine go_bipush (z := 12) (n := 15) ⟨by decide, by decide⟩ dX3_leansDone_13 rfl ?_
      refine go_icmp_ge (tgt := 47) (n := 18) dX3_leansDone_15 rfl rfl (fun c3 => ?_) (fun c3 => ?_)
      · rw [if_pos c3] at E
        refine go_iload_n (j := 2) (n := 48) rfl rfl dX3_leansDone_47 rfl ?_
        cases E
        exact go_ireturn rfl dX3_leansDone_48
      · rw [if_neg c3] at E
        refine go_aload_n (j := 0) (n := 19) rfl rfl dX3_leansDone_18 rfl ?_
        refine go_iload_n (j := 1) (n := 20) rfl rfl dX3_leansDone_19 rfl ?_
        replace E := Option.bind_eq_some_iff.mp E; obtain ⟨a6, ea6, E⟩ := E
        obtain ⟨fa6, ga6⟩ := xrc_some ea6
        replace E := xb_some E; obtain ⟨v4, h5, ev4, E⟩ := E
        refine go_callV (y := yX3_leansOf) (n := 23) (st := []) (as := [vi l1]) (stk9 := [vi v4]) (OX3_leansOf ev4) yw_X3_leansOf ci_3 ga6 wml_RX3_67 wim_X3_leansOf wse_X3_leansOf (Nat.le_of_ble_eq_true rfl) rfl ⟨Nat.le_of_ble_eq_true rfl, Nat.le_of_ble_eq_true rfl⟩ (Nat.le_of_ble_eq_true rfl) dX3_leansDone_20 rfl (by cases fa6; rfl) rfl ?_
        refine go_iload_n (j := 3) (n := 24) rfl rfl dX3_leansDone_23 rfl ?_
        refine go_iushr (n := 25) dX3_leansDone_24 rfl ?_
        refine go_iconst (z := 1) (n := 26) ⟨by decide, by decide⟩ dX3_leansDone_25 rfl ?_
        refine go_iand (n := 27) dX3_leansDone_26 rfl ?_
        refine go_if_eq (tgt := 41) (n := 30) dX3_leansDone_27 rfl rfl (fun c7 => ?_) (fun c7 => ?_)
        · rw [if_pos c7] at E
          exact SX3_leansDone_L41   _ hrc4 _ _ _ _  _ E
        · rw [if_neg c7] at E
          refine go_iload_n (j := 2) (n := 31) rfl rfl dX3_leansDone_30 rfl ?_
          refine go_aload_n (j := 0) (n := 32) rfl rfl dX3_leansDone_31 rfl ?_
          replace E := Option.bind_eq_some_iff.mp E; obtain ⟨v8, ev8, E⟩ := E
          refine go_getP (n := 35) ev8 fl_RX3_24 rfl dX3_leansDone_32 rfl ?_
          refine go_iload_n (j := 3) (n := 36) rfl rfl dX3_leansDone_35 rfl ?_
          replace E := Option.bind_eq_some_iff.mp E; obtain ⟨v9, ev9, E⟩ := E
          refine go_iaload (n := 37) ev9 dX3_leansDone_36 rfl ?_
          refine go_mmax (n := 40) wml_RX3_99 jm_max_i (Nat.le_of_ble_eq_true rfl) (Nat.le_of_ble_eq_true rfl) dX3_leansDone_37 rfl ?_
          refine go_istore_n (n := 41) (lv' := [(2, vi (max l2 v9)), (0, vr (some l0)), (1, vi l1), (3, vi l3)]) rfl dX3_leansDone_40 rfl (Nat.le_of_ble_eq_true rfl) rfl ?_
          refine go_pick (lv' := [(0, vr (some l0)), (1, vi l1), (2, vi (max l2 v9)), (3, vi l3)]) [1, 2, 0, 3] rfl ?_
          exact SX3_leansDone_L41   _ hrc4 _ _ _ _  _ E
noncomputable def X3_leansDone (F : Nat)   (l0 : Nat) (l1 : Int)  (h : HP) : Option (Int × HP) :=
  X3_leansDone_L4 F F l0 l1 0 0 h
set_option maxRecDepth 100000 in
theorem SX3_leansDone {K : Ctx} {F : Nat} {r : Int} {hf : HP}     (l0 : Nat) (l1 : Int)  (h : HP) (E : X3_leansDone F   l0 l1 h = some (r, hf)) : Go K MX3_leansDone (QM K (some (vi r)) hf) hf 0 [(0, vr (some l0)), (1, vi l1)] [] h := by
  unfold X3_leansDone at E
  refine go_iconst (z := 0) (n := 1) ⟨by decide, by decide⟩ dX3_leansDone_0 rfl ?_
  refine go_istore_n (n := 2) (lv' := [(2, vi 0), (0, vr (some l0)), (1, vi l1)]) rfl dX3_leansDone_1 rfl (Nat.le_of_ble_eq_true rfl) rfl ?_
  refine go_iconst (z := 0) (n := 3) ⟨by decide, by decide⟩ dX3_leansDone_2 rfl ?_
  refine go_istore_n (n := 4) (lv' := [(3, vi 0), (2, vi 0), (0, vr (some l0)), (1, vi l1)]) rfl dX3_leansDone_3 rfl (Nat.le_of_ble_eq_true rfl) rfl ?_
  refine go_pick (lv' := [(0, vr (some l0)), (1, vi l1), (2, vi 0), (3, vi 0)]) [2, 3, 1, 0] rfl ?_
  exact SX3_leansDone_L4     F _ _ _ _ _ E
theorem OX3_leansDone {F : Nat} {l0 : Nat} {l1 : Int} {h hf : HP} {r : Int} (e : X3_leansDone F l0 l1 h = some (r, hf)) : Ok MX3_leansDone [vr (some l0), vi l1] (some (vi r)) h hf := fun K _ _ _ => SX3_leansDone l0 l1 h e
theorem yw_X3_placed : YW yX3_placed cX3_placed 2 (some .int) 1 := ⟨bw_of 674 (by decide +kernel) rfl, bw_of 122 (by decide +kernel) rfl, ⟨by decide +kernel, by decide +kernel, by decide +kernel⟩, by decide +kernel⟩
theorem wml_RX3_70 : Cond.methodLink RX3 70 yX3_placed ∈ BW := bw_of 788 (by decide +kernel) rfl
theorem wim_X3_placed : Cond.instanceMethod yX3_placed ∈ BW := bw_of 672 (by decide +kernel) rfl
theorem wse_X3_placed : Cond.selects RX3 yX3_placed yX3_placed ∈ BW := bw_of 673 (by decide +kernel) rfl
theorem wml_RX3_40 : Cond.methodLink RX3 40 Lib.Math.min.name ∈ BW := bw_of 789 (by decide +kernel) rfl
theorem yw_X3_leansDone : YW yX3_leansDone cX3_leansDone 4 (some .int) 1 := ⟨bw_of 795 (by decide +kernel) rfl, bw_of 122 (by decide +kernel) rfl, ⟨by decide +kernel, by decide +kernel, by decide +kernel⟩, by decide +kernel⟩
theorem wml_RX3_96 : Cond.methodLink RX3 96 yX3_leansDone ∈ BW := bw_of 792 (by decide +kernel) rfl
theorem wim_X3_leansDone : Cond.instanceMethod yX3_leansDone ∈ BW := bw_of 794 (by decide +kernel) rfl
theorem wse_X3_leansDone : Cond.selects RX3 yX3_leansDone yX3_leansDone ∈ BW := bw_of 6 (by decide +kernel) rfl
theorem fl_RX3_102 : FL RX3 102 2 18 0 false := ⟨RX2, TX2, ci_2, by decide, bw_of 307 (by decide +kernel) rfl, rfl, rfl⟩
abbrev MX3_withTwoMachines : MI := (RX3, cX3_withTwoMachines, 7, (some .int), 4, none, "withTwoMachines")
noncomputable def X3_withTwoMachines_L95 (F : Nat)  (rc15 : Nat → Int → Int → Int → HP → Option (Int × HP)) (l0 : Nat) (l1 : Int) (l2 : Int) (l3 : Int)  (h : HP) : Option (Int × HP) :=
  rc15 l0 l1 l2 (w32 (l3 + 1)) h
set_option maxRecDepth 100000 in
theorem SX3_withTwoMachines_L95 {K : Ctx} {F : Nat} {r : Int} {hf : HP}   (rc15 : Nat → Int → Int → Int → HP → Option (Int × HP)) (hrc15 : ∀ l0 l1 l2 l3 h, rc15 l0 l1 l2 l3 h = some (r, hf) → Go K MX3_withTwoMachines (QM K (some (vi r)) hf) hf 15 [(0, vr (some l0)), (1, vi l1), (2, vi l2), (3, vi l3)] [] h) (l0 : Nat) (l1 : Int) (l2 : Int) (l3 : Int)  (h : HP) (E : X3_withTwoMachines_L95 F  rc15 l0 l1 l2 l3 h = some (r, hf)) : Go K MX3_withTwoMachines (QM K (some (vi r)) hf) hf 95 [(0, vr (some l0)), (1, vi l1), (2, vi l2), (3, vi l3)] [] h := by
  unfold X3_withTwoMachines_L95 at E
  refine go_iinc (j := 3) (n := 98) (lv' := [(3, vi (w32 (l3 + 1))), (0, vr (some l0)), (1, vi l1), (2, vi l2)]) rfl dX3_withTwoMachines_95 rfl (Nat.le_of_ble_eq_true rfl) rfl ?_
  refine go_goto (tgt := 15) dX3_withTwoMachines_98 rfl ?_
  refine go_pick (lv' := [(0, vr (some l0)), (1, vi l1), (2, vi l2), (3, vi (w32 (l3 + 1)))]) [1, 2, 3, 0] rfl ?_
  exact hrc15 _ _ _ _ _ E
noncomputable def X3_withTwoMachines_L81 (F : Nat)  (rc15 : Nat → Int → Int → Int → HP → Option (Int × HP)) (l0 : Nat) (l1 : Int) (l2 : Int) (l3 : Int) (l6 : Int)  (h : HP) : Option (Int × HP) :=
  X3_withTwoMachines_L95 F rc15 l0 (if l2 < l1 then l1 else l6) (if l2 < l1 then l6 else l2) l3 h
set_option maxRecDepth 100000 in
theorem SX3_withTwoMachines_L81 {K : Ctx} {F : Nat} {r : Int} {hf : HP}   (rc15 : Nat → Int → Int → Int → HP → Option (Int × HP)) (hrc15 : ∀ l0 l1 l2 l3 h, rc15 l0 l1 l2 l3 h = some (r, hf) → Go K MX3_withTwoMachines (QM K (some (vi r)) hf) hf 15 [(0, vr (some l0)), (1, vi l1), (2, vi l2), (3, vi l3)] [] h) (l0 : Nat) (l1 : Int) (l2 : Int) (l3 : Int) (l6 : Int)  (h : HP) (E : X3_withTwoMachines_L81 F  rc15 l0 l1 l2 l3 l6 h = some (r, hf)) : Go K MX3_withTwoMachines (QM K (some (vi r)) hf) hf 81 [(0, vr (some l0)), (1, vi l1), (2, vi l2), (3, vi l3), (6, vi l6)] [] h := by
  unfold X3_withTwoMachines_L81 at E
  refine go_iload_n (j := 1) (n := 82) rfl rfl dX3_withTwoMachines_81 rfl ?_
  refine go_iload_n (j := 2) (n := 83) rfl rfl dX3_withTwoMachines_82 rfl ?_
  refine go_icmp_gt (tgt := 92) (n := 86) dX3_withTwoMachines_83 rfl rfl (fun c1 => ?_) (fun c1 => ?_)
  · simp only [if_pos c1] at E
    refine go_iload (j := 4) (n := 94) rfl dX3_withTwoMachines_92 rfl ?_
    refine go_istore_n (n := 95) (lv' := [(2, vi l6), (0, vr (some l0)), (1, vi l1), (3, vi l3), (6, vi l6)]) rfl dX3_withTwoMachines_94 rfl (Nat.le_of_ble_eq_true rfl) rfl ?_
    refine go_pick (lv' := [(0, vr (some l0)), (1, vi l1), (2, vi l6), (3, vi l3)]) [1, 2, 0, 3] rfl ?_
    exact SX3_withTwoMachines_L95   _ hrc15 _ _ _ _  _ E
  · simp only [if_neg c1] at E
    refine go_iload (j := 4) (n := 88) rfl dX3_withTwoMachines_86 rfl ?_
    refine go_istore_n (n := 89) (lv' := [(1, vi l6), (0, vr (some l0)), (2, vi l2), (3, vi l3), (6, vi l6)]) rfl dX3_withTwoMachines_88 rfl (Nat.le_of_ble_eq_true rfl) rfl ?_
    refine go_goto (tgt := 95) dX3_withTwoMachines_89 rfl ?_
    refine go_pick (lv' := [(0, vr (some l0)), (1, vi l6), (2, vi l2), (3, vi l3)]) [1, 0, 2, 3] rfl ?_
    exact SX3_withTwoMachines_L95   _ hrc15 _ _ _ _  _ E
noncomputable def X3_withTwoMachines_L15 (F : Nat)   (k : Nat) : Nat → Int → Int → Int → HP → Option (Int × HP) :=
  Nat.rec (motive := fun _ => Nat → Int → Int → Int → HP → Option (Int × HP)) (fun _ _ _ _ _ => none) (fun _ rc15 l0 l1 l2 l3 h =>
    (xgI h (some l0) 3 7 5).bind fun v1 =>
    if v1 ≤ l3 then
      some (max l1 l2, h)
    else
      (xrc h (some l0) 3 7).bind fun a5 =>
      xb (X3_placed F a5 l3 h) fun v3 h4 =>
      (xrc h4 (some l0) 3 7).bind fun a8 =>
      xb (X3_leansDone F a8 v3 h4) fun v6 h7 =>
      (xrc h7 (some l0) 3 7).bind fun a11 =>
      xb (X3_at F a11 v3 h7) fun v9 h10 =>
      (xgI h10 v9 2 18 0).bind fun v12 =>
      if v3 < 0 then
        X3_withTwoMachines_L81 F rc15 l0 l1 l2 l3 (w32 ((max (min l1 l2) v6) + v12)) h10
      else
        if 12 ≤ v3 then
          X3_withTwoMachines_L81 F rc15 l0 l1 l2 l3 (w32 ((max (min l1 l2) v6) + v12)) h10
        else
          (xgP h10 (some l0) 3 7 3).bind fun v15 =>
          (xsI h10 v15 v3 (w32 ((max (min l1 l2) v6) + v12))).bind fun h16 =>
          X3_withTwoMachines_L81 F rc15 l0 l1 l2 l3 (w32 ((max (min l1 l2) v6) + v12)) h16) k
theorem X3_withTwoMachines_L15_s (F : Nat)   (k : Nat) (l0 : Nat) (l1 : Int) (l2 : Int) (l3 : Int)  (h : HP) : X3_withTwoMachines_L15 F   (k + 1) l0 l1 l2 l3 h =
    (xgI h (some l0) 3 7 5).bind fun v1 =>
    if v1 ≤ l3 then
      some (max l1 l2, h)
    else
      (xrc h (some l0) 3 7).bind fun a5 =>
      xb (X3_placed F a5 l3 h) fun v3 h4 =>
      (xrc h4 (some l0) 3 7).bind fun a8 =>
      xb (X3_leansDone F a8 v3 h4) fun v6 h7 =>
      (xrc h7 (some l0) 3 7).bind fun a11 =>
      xb (X3_at F a11 v3 h7) fun v9 h10 =>
      (xgI h10 v9 2 18 0).bind fun v12 =>
      if v3 < 0 then
        X3_withTwoMachines_L81 F (X3_withTwoMachines_L15 F k) l0 l1 l2 l3 (w32 ((max (min l1 l2) v6) + v12)) h10
      else
        if 12 ≤ v3 then
          X3_withTwoMachines_L81 F (X3_withTwoMachines_L15 F k) l0 l1 l2 l3 (w32 ((max (min l1 l2) v6) + v12)) h10
        else
          (xgP h10 (some l0) 3 7 3).bind fun v15 =>
          (xsI h10 v15 v3 (w32 ((max (min l1 l2) v6) + v12))).bind fun h16 =>
          X3_withTwoMachines_L81 F (X3_withTwoMachines_L15 F k) l0 l1 l2 l3 (w32 ((max (min l1 l2) v6) + v12)) h16 := rfl
set_option maxRecDepth 100000 in
theorem SX3_withTwoMachines_L15 {K : Ctx} {F : Nat} {r : Int} {hf : HP}     : ∀ (k : Nat) (l0 : Nat) (l1 : Int) (l2 : Int) (l3 : Int)  (h : HP), X3_withTwoMachines_L15 F   k l0 l1 l2 l3 h = some (r, hf) → Go K MX3_withTwoMachines (QM K (some (vi r)) hf) hf 15 [(0, vr (some l0)), (1, vi l1), (2, vi l2), (3, vi l3)] [] h := by
  intro k
  induction k with
  | zero => intro l0 l1 l2 l3 h E; exact nomatch E
  | succ k hrc15 =>
    intro l0 l1 l2 l3 h E
    rw [X3_withTwoMachines_L15_s] at E
    refine go_iload_n (j := 3) (n := 16) rfl rfl dX3_withTwoMachines_15 rfl ?_
    refine go_aload_n (j := 0) (n := 17) rfl rfl dX3_withTwoMachines_16 rfl ?_
    replace E := Option.bind_eq_some_iff.mp E; obtain ⟨v1, ev1, E⟩ := E
    refine go_getI (n := 20) ev1 fl_RX3_36 rfl dX3_withTwoMachines_17 rfl ?_
    refine go_icmp_ge (tgt := 101) (n := 23) dX3_withTwoMachines_20 rfl rfl (fun c2 => ?_) (fun c2 => ?_)
    · rw [if_pos c2] at E
      refine go_iload_n (j := 1) (n := 102) rfl rfl dX3_withTwoMachines_101 rfl ?_
      refine go_iload_n (j := 2) (n := 103) rfl rfl dX3_withTwoMachines_102 rfl ?_
      refine go_mmax (n := 106) wml_RX3_99 jm_max_i (Nat.le_of_ble_eq_true rfl) (Nat.le_of_ble_eq_true rfl) dX3_withTwoMachines_103 rfl ?_
      cases E
      exact go_ireturn rfl dX3_withTwoMachines_106
    · rw [if_neg c2] at E
      refine go_aload_n (j := 0) (n := 24) rfl rfl dX3_withTwoMachines_23 rfl ?_
      refine go_iload_n (j := 3) (n := 25) rfl rfl dX3_withTwoMachines_24 rfl ?_
      replace E := Option.bind_eq_some_iff.mp E; obtain ⟨a5, ea5, E⟩ := E
      obtain ⟨fa5, ga5⟩ := xrc_some ea5
      replace E := xb_some E; obtain ⟨v3, h4, ev3, E⟩ := E
      refine go_callV (y := yX3_placed) (n := 28) (st := []) (as := [vi l3]) (stk9 := [vi v3]) (OX3_placed ev3) yw_X3_placed ci_3 ga5 wml_RX3_70 wim_X3_placed wse_X3_placed (Nat.le_of_ble_eq_true rfl) rfl ⟨Nat.le_of_ble_eq_true rfl, Nat.le_of_ble_eq_true rfl⟩ (Nat.le_of_ble_eq_true rfl) dX3_withTwoMachines_25 rfl (by cases fa5; rfl) rfl ?_
      refine go_istore (n := 30) (lv' := [(4, vi v3), (0, vr (some l0)), (1, vi l1), (2, vi l2), (3, vi l3)]) dX3_withTwoMachines_28 rfl (Nat.le_of_ble_eq_true rfl) rfl ?_
      refine go_iload_n (j := 2) (n := 31) rfl rfl dX3_withTwoMachines_30 rfl ?_
      refine go_iload_n (j := 3) (n := 32) rfl rfl dX3_withTwoMachines_31 rfl ?_
      refine go_mmin (n := 35) wml_RX3_40 jm_min_i (Nat.le_of_ble_eq_true rfl) (Nat.le_of_ble_eq_true rfl) dX3_withTwoMachines_32 rfl ?_
      refine go_aload_n (j := 1) (n := 36) rfl rfl dX3_withTwoMachines_35 rfl ?_
      refine go_iload (j := 0) (n := 38) rfl dX3_withTwoMachines_36 rfl ?_
      replace E := Option.bind_eq_some_iff.mp E; obtain ⟨a8, ea8, E⟩ := E
      obtain ⟨fa8, ga8⟩ := xrc_some ea8
      replace E := xb_some E; obtain ⟨v6, h7, ev6, E⟩ := E
      refine go_callV (y := yX3_leansDone) (n := 41) (st := [vi (min l1 l2)]) (as := [vi v3]) (stk9 := [vi v6, vi (min l1 l2)]) (OX3_leansDone ev6) yw_X3_leansDone ci_3 ga8 wml_RX3_96 wim_X3_leansDone wse_X3_leansDone (Nat.le_of_ble_eq_true rfl) rfl ⟨Nat.le_of_ble_eq_true rfl, Nat.le_of_ble_eq_true rfl⟩ (Nat.le_of_ble_eq_true rfl) dX3_withTwoMachines_38 rfl (by cases fa8; rfl) rfl ?_
      refine go_mmax (n := 44) wml_RX3_99 jm_max_i (Nat.le_of_ble_eq_true rfl) (Nat.le_of_ble_eq_true rfl) dX3_withTwoMachines_41 rfl ?_
      refine go_istore (n := 46) (lv' := [(5, vi (max (min l1 l2) v6)), (4, vi v3), (0, vr (some l0)), (1, vi l1), (2, vi l2), (3, vi l3)]) dX3_withTwoMachines_44 rfl (Nat.le_of_ble_eq_true rfl) rfl ?_
      refine go_iload (j := 0) (n := 48) rfl dX3_withTwoMachines_46 rfl ?_
      refine go_aload_n (j := 2) (n := 49) rfl rfl dX3_withTwoMachines_48 rfl ?_
      refine go_iload (j := 1) (n := 51) rfl dX3_withTwoMachines_49 rfl ?_
      replace E := Option.bind_eq_some_iff.mp E; obtain ⟨a11, ea11, E⟩ := E
      obtain ⟨fa11, ga11⟩ := xrc_some ea11
      replace E := xb_some E; obtain ⟨v9, h10, ev9, E⟩ := E
      refine go_callV (y := yX3_at) (n := 54) (st := [vi (max (min l1 l2) v6)]) (as := [vi v3]) (stk9 := [vr v9, vi (max (min l1 l2) v6)]) (OX3_at ev9) yw_X3_at ci_3 ga11 wml_RX3_52 wim_X3_at wse_X3_at (Nat.le_of_ble_eq_true rfl) rfl ⟨Nat.le_of_ble_eq_true rfl, Nat.le_of_ble_eq_true rfl⟩ (Nat.le_of_ble_eq_true rfl) dX3_withTwoMachines_51 rfl (by cases fa11; rfl) rfl ?_
      replace E := Option.bind_eq_some_iff.mp E; obtain ⟨v12, ev12, E⟩ := E
      refine go_getI (n := 57) ev12 fl_RX3_102 rfl dX3_withTwoMachines_54 rfl ?_
      refine go_iadd (n := 58) dX3_withTwoMachines_57 rfl ?_
      refine go_istore (n := 60) (lv' := [(6, vi (w32 ((max (min l1 l2) v6) + v12))), (5, vi (max (min l1 l2) v6)), (4, vi v3), (0, vr (some l0)), (1, vi l1), (2, vi l2), (3, vi l3)]) dX3_withTwoMachines_58 rfl (Nat.le_of_ble_eq_true rfl) rfl ?_
      refine go_iload (j := 2) (n := 62) rfl dX3_withTwoMachines_60 rfl ?_
      refine go_if_lt (tgt := 81) (n := 65) dX3_withTwoMachines_62 rfl rfl (fun c13 => ?_) (fun c13 => ?_)
      · rw [if_pos c13] at E
        refine go_pick (lv' := [(0, vr (some l0)), (1, vi l1), (2, vi l2), (3, vi l3), (6, vi (w32 ((max (min l1 l2) v6) + v12)))]) [3, 4, 5, 6, 0] rfl ?_
        exact SX3_withTwoMachines_L81   _ hrc15 _ _ _ _ _  _ E
      · rw [if_neg c13] at E
        refine go_iload (j := 2) (n := 67) rfl dX3_withTwoMachines_65 rfl ?_
        refine go_bipush (z := 12) (n := 69) ⟨by decide, by decide⟩ dX3_withTwoMachines_67 rfl ?_
        refine go_icmp_ge (tgt := 81) (n := 72) dX3_withTwoMachines_69 rfl rfl (fun c14 => ?_) (fun c14 => ?_)
        · rw [if_pos c14] at E
          refine go_pick (lv' := [(0, vr (some l0)), (1, vi l1), (2, vi l2), (3, vi l3), (6, vi (w32 ((max (min l1 l2) v6) + v12)))]) [3, 4, 5, 6, 0] rfl ?_
          exact SX3_withTwoMachines_L81   _ hrc15 _ _ _ _ _  _ E
        · rw [if_neg c14] at E
          refine go_aload_n (j := 3) (n := 73) rfl rfl dX3_withTwoMachines_72 rfl ?_
          replace E := Option.bind_eq_some_iff.mp E; obtain ⟨v15, ev15, E⟩ := E
          refine go_getP (n := 76) ev15 fl_RX3_24 rfl dX3_withTwoMachines_73 rfl ?_
          refine go_iload (j := 2) (n := 78) rfl dX3_withTwoMachines_76 rfl ?_
          refine go_iload (j := 0) (n := 80) rfl dX3_withTwoMachines_78 rfl ?_
          replace E := Option.bind_eq_some_iff.mp E; obtain ⟨h16, eh16, E⟩ := E
          refine go_iastore (n := 81) eh16 dX3_withTwoMachines_80 rfl ?_
          refine go_pick (lv' := [(0, vr (some l0)), (1, vi l1), (2, vi l2), (3, vi l3), (6, vi (w32 ((max (min l1 l2) v6) + v12)))]) [3, 4, 5, 6, 0] rfl ?_
          exact SX3_withTwoMachines_L81   _ hrc15 _ _ _ _ _  _ E
noncomputable def X3_withTwoMachines (F : Nat)   (l0 : Nat)  (h : HP) : Option (Int × HP) :=
  (xgI h (some l0) 3 7 4).bind fun v1 =>
  if v1 = 0 then
    some ((-1), h)
  else
    X3_withTwoMachines_L15 F F l0 0 0 0 h
set_option maxRecDepth 100000 in
theorem SX3_withTwoMachines {K : Ctx} {F : Nat} {r : Int} {hf : HP}     (l0 : Nat)  (h : HP) (E : X3_withTwoMachines F   l0 h = some (r, hf)) : Go K MX3_withTwoMachines (QM K (some (vi r)) hf) hf 0 [(0, vr (some l0))] [] h := by
  unfold X3_withTwoMachines at E
  refine go_aload_n (j := 0) (n := 1) rfl rfl dX3_withTwoMachines_0 rfl ?_
  replace E := Option.bind_eq_some_iff.mp E; obtain ⟨v1, ev1, E⟩ := E
  refine go_getI (n := 4) ev1 fl_RX3_27 rfl dX3_withTwoMachines_1 rfl ?_
  refine go_if_ne (tgt := 9) (n := 7) dX3_withTwoMachines_4 rfl rfl (fun c2 => ?_) (fun c2 => ?_)
  · rw [if_neg c2] at E
    refine go_iconst (z := 0) (n := 10) ⟨by decide, by decide⟩ dX3_withTwoMachines_9 rfl ?_
    refine go_istore_n (n := 11) (lv' := [(1, vi 0), (0, vr (some l0))]) rfl dX3_withTwoMachines_10 rfl (Nat.le_of_ble_eq_true rfl) rfl ?_
    refine go_iconst (z := 0) (n := 12) ⟨by decide, by decide⟩ dX3_withTwoMachines_11 rfl ?_
    refine go_istore_n (n := 13) (lv' := [(2, vi 0), (1, vi 0), (0, vr (some l0))]) rfl dX3_withTwoMachines_12 rfl (Nat.le_of_ble_eq_true rfl) rfl ?_
    refine go_iconst (z := 0) (n := 14) ⟨by decide, by decide⟩ dX3_withTwoMachines_13 rfl ?_
    refine go_istore_n (n := 15) (lv' := [(3, vi 0), (2, vi 0), (1, vi 0), (0, vr (some l0))]) rfl dX3_withTwoMachines_14 rfl (Nat.le_of_ble_eq_true rfl) rfl ?_
    refine go_pick (lv' := [(0, vr (some l0)), (1, vi 0), (2, vi 0), (3, vi 0)]) [3, 2, 1, 0] rfl ?_
    exact SX3_withTwoMachines_L15     F _ _ _ _ _ E
  · rw [if_pos c2] at E
    refine go_iconst (z := (-1)) (n := 8) ⟨by decide, by decide⟩ dX3_withTwoMachines_7 rfl ?_
    cases E
    exact go_ireturn rfl dX3_withTwoMachines_8
theorem OX3_withTwoMachines {F : Nat} {l0 : Nat} {h hf : HP} {r : Int} (e : X3_withTwoMachines F l0 h = some (r, hf)) : Ok MX3_withTwoMachines [vr (some l0)] (some (vi r)) h hf := fun K _ _ _ => SX3_withTwoMachines l0 h e
theorem fl_RX3_93 : FL RX3 93 2 18 2 false := ⟨RX2, TX2, ci_2, by decide, bw_of 313 (by decide +kernel) rfl, rfl, rfl⟩
abbrev MX3_byClerksAlone : MI := (RX3, cX3_byClerksAlone, 3, (some .int), 3, none, "byClerksAlone")
noncomputable def X3_byClerksAlone_L4 (F : Nat)   (k : Nat) : Nat → Int → Int → HP → Option (Int × HP) :=
  Nat.rec (motive := fun _ => Nat → Int → Int → HP → Option (Int × HP)) (fun _ _ _ _ => none) (fun _ rc4 l0 l1 l2 h =>
    (xgI h (some l0) 3 7 5).bind fun v1 =>
    if v1 ≤ l2 then
      some (l1, h)
    else
      (xrc h (some l0) 3 7).bind fun a5 =>
      xb (X3_at F a5 l2 h) fun v3 h4 =>
      (xgI h4 v3 2 18 2).bind fun v6 =>
      if v6 = 0 then
        some ((-1), h4)
      else
        (xrc h4 (some l0) 3 7).bind fun a10 =>
        xb (X3_at F a10 l2 h4) fun v8 h9 =>
        (xgI h9 v8 2 18 2).bind fun v11 =>
        rc4 l0 (w32 (l1 + v11)) (w32 (l2 + 1)) h9) k
theorem X3_byClerksAlone_L4_s (F : Nat)   (k : Nat) (l0 : Nat) (l1 : Int) (l2 : Int)  (h : HP) : X3_byClerksAlone_L4 F   (k + 1) l0 l1 l2 h =
    (xgI h (some l0) 3 7 5).bind fun v1 =>
    if v1 ≤ l2 then
      some (l1, h)
    else
      (xrc h (some l0) 3 7).bind fun a5 =>
      xb (X3_at F a5 l2 h) fun v3 h4 =>
      (xgI h4 v3 2 18 2).bind fun v6 =>
      if v6 = 0 then
        some ((-1), h4)
      else
        (xrc h4 (some l0) 3 7).bind fun a10 =>
        xb (X3_at F a10 l2 h4) fun v8 h9 =>
        (xgI h9 v8 2 18 2).bind fun v11 =>
        (X3_byClerksAlone_L4 F k) l0 (w32 (l1 + v11)) (w32 (l2 + 1)) h9 := rfl
set_option maxRecDepth 100000 in
theorem SX3_byClerksAlone_L4 {K : Ctx} {F : Nat} {r : Int} {hf : HP}     : ∀ (k : Nat) (l0 : Nat) (l1 : Int) (l2 : Int)  (h : HP), X3_byClerksAlone_L4 F   k l0 l1 l2 h = some (r, hf) → Go K MX3_byClerksAlone (QM K (some (vi r)) hf) hf 4 [(0, vr (some l0)), (1, vi l1), (2, vi l2)] [] h := by
  intro k
  induction k with
  | zero => intro l0 l1 l2 h E; exact nomatch E
  | succ k hrc4 =>
    intro l0 l1 l2 h E
    rw [X3_byClerksAlone_L4_s] at E
    refine go_iload_n (j := 2) (n := 5) rfl rfl dX3_byClerksAlone_4 rfl ?_
    refine go_aload_n (j := 0) (n := 6) rfl rfl dX3_byClerksAlone_5 rfl ?_
    replace E := Option.bind_eq_some_iff.mp E; obtain ⟨v1, ev1, E⟩ := E
    refine go_getI (n := 9) ev1 fl_RX3_36 rfl dX3_byClerksAlone_6 rfl ?_
    refine go_icmp_ge (tgt := 42) (n := 12) dX3_byClerksAlone_9 rfl rfl (fun c2 => ?_) (fun c2 => ?_)
    · rw [if_pos c2] at E
      refine go_iload_n (j := 1) (n := 43) rfl rfl dX3_byClerksAlone_42 rfl ?_
      cases E
      exact go_ireturn rfl dX3_byClerksAlone_43
    · rw [if_neg c2] at E
      refine go_aload_n (j := 0) (n := 13) rfl rfl dX3_byClerksAlone_12 rfl ?_
      refine go_iload_n (j := 2) (n := 14) rfl rfl dX3_byClerksAlone_13 rfl ?_
      replace E := Option.bind_eq_some_iff.mp E; obtain ⟨a5, ea5, E⟩ := E
      obtain ⟨fa5, ga5⟩ := xrc_some ea5
      replace E := xb_some E; obtain ⟨v3, h4, ev3, E⟩ := E
      refine go_callV (y := yX3_at) (n := 17) (st := []) (as := [vi l2]) (stk9 := [vr v3]) (OX3_at ev3) yw_X3_at ci_3 ga5 wml_RX3_52 wim_X3_at wse_X3_at (Nat.le_of_ble_eq_true rfl) rfl ⟨Nat.le_of_ble_eq_true rfl, Nat.le_of_ble_eq_true rfl⟩ (Nat.le_of_ble_eq_true rfl) dX3_byClerksAlone_14 rfl (by cases fa5; rfl) rfl ?_
      replace E := Option.bind_eq_some_iff.mp E; obtain ⟨v6, ev6, E⟩ := E
      refine go_getI (n := 20) ev6 fl_RX3_93 rfl dX3_byClerksAlone_17 rfl ?_
      refine go_if_ne (tgt := 25) (n := 23) dX3_byClerksAlone_20 rfl rfl (fun c7 => ?_) (fun c7 => ?_)
      · rw [if_neg c7] at E
        refine go_iload_n (j := 1) (n := 26) rfl rfl dX3_byClerksAlone_25 rfl ?_
        refine go_aload_n (j := 0) (n := 27) rfl rfl dX3_byClerksAlone_26 rfl ?_
        refine go_iload_n (j := 2) (n := 28) rfl rfl dX3_byClerksAlone_27 rfl ?_
        replace E := Option.bind_eq_some_iff.mp E; obtain ⟨a10, ea10, E⟩ := E
        obtain ⟨fa10, ga10⟩ := xrc_some ea10
        replace E := xb_some E; obtain ⟨v8, h9, ev8, E⟩ := E
        refine go_callV (y := yX3_at) (n := 31) (st := [vi l1]) (as := [vi l2]) (stk9 := [vr v8, vi l1]) (OX3_at ev8) yw_X3_at ci_3 ga10 wml_RX3_52 wim_X3_at wse_X3_at (Nat.le_of_ble_eq_true rfl) rfl ⟨Nat.le_of_ble_eq_true rfl, Nat.le_of_ble_eq_true rfl⟩ (Nat.le_of_ble_eq_true rfl) dX3_byClerksAlone_28 rfl (by cases fa10; rfl) rfl ?_
        replace E := Option.bind_eq_some_iff.mp E; obtain ⟨v11, ev11, E⟩ := E
        refine go_getI (n := 34) ev11 fl_RX3_93 rfl dX3_byClerksAlone_31 rfl ?_
        refine go_iadd (n := 35) dX3_byClerksAlone_34 rfl ?_
        refine go_istore_n (n := 36) (lv' := [(1, vi (w32 (l1 + v11))), (0, vr (some l0)), (2, vi l2)]) rfl dX3_byClerksAlone_35 rfl (Nat.le_of_ble_eq_true rfl) rfl ?_
        refine go_iinc (j := 2) (n := 39) (lv' := [(2, vi (w32 (l2 + 1))), (1, vi (w32 (l1 + v11))), (0, vr (some l0))]) rfl dX3_byClerksAlone_36 rfl (Nat.le_of_ble_eq_true rfl) rfl ?_
        refine go_goto (tgt := 4) dX3_byClerksAlone_39 rfl ?_
        refine go_pick (lv' := [(0, vr (some l0)), (1, vi (w32 (l1 + v11))), (2, vi (w32 (l2 + 1)))]) [2, 1, 0] rfl ?_
        exact hrc4 _ _ _ _ E
      · rw [if_pos c7] at E
        refine go_iconst (z := (-1)) (n := 24) ⟨by decide, by decide⟩ dX3_byClerksAlone_23 rfl ?_
        cases E
        exact go_ireturn rfl dX3_byClerksAlone_24
noncomputable def X3_byClerksAlone (F : Nat)   (l0 : Nat)  (h : HP) : Option (Int × HP) :=
  X3_byClerksAlone_L4 F F l0 0 0 h
set_option maxRecDepth 100000 in
theorem SX3_byClerksAlone {K : Ctx} {F : Nat} {r : Int} {hf : HP}     (l0 : Nat)  (h : HP) (E : X3_byClerksAlone F   l0 h = some (r, hf)) : Go K MX3_byClerksAlone (QM K (some (vi r)) hf) hf 0 [(0, vr (some l0))] [] h := by
  unfold X3_byClerksAlone at E
  refine go_iconst (z := 0) (n := 1) ⟨by decide, by decide⟩ dX3_byClerksAlone_0 rfl ?_
  refine go_istore_n (n := 2) (lv' := [(1, vi 0), (0, vr (some l0))]) rfl dX3_byClerksAlone_1 rfl (Nat.le_of_ble_eq_true rfl) rfl ?_
  refine go_iconst (z := 0) (n := 3) ⟨by decide, by decide⟩ dX3_byClerksAlone_2 rfl ?_
  refine go_istore_n (n := 4) (lv' := [(2, vi 0), (1, vi 0), (0, vr (some l0))]) rfl dX3_byClerksAlone_3 rfl (Nat.le_of_ble_eq_true rfl) rfl ?_
  refine go_pick (lv' := [(0, vr (some l0)), (1, vi 0), (2, vi 0)]) [2, 1, 0] rfl ?_
  exact SX3_byClerksAlone_L4     F _ _ _ _ E
theorem OX3_byClerksAlone {F : Nat} {l0 : Nat} {h hf : HP} {r : Int} (e : X3_byClerksAlone F l0 h = some (r, hf)) : Ok MX3_byClerksAlone [vr (some l0)] (some (vi r)) h hf := fun K _ _ _ => SX3_byClerksAlone l0 h e
theorem yw_X3_byClerksAlone : YW yX3_byClerksAlone cX3_byClerksAlone 3 (some .int) 0 := ⟨bw_of 800 (by decide +kernel) rfl, bw_of 122 (by decide +kernel) rfl, ⟨by decide +kernel, by decide +kernel, by decide +kernel⟩, by decide +kernel⟩
theorem wml_RX11_296 : Cond.methodLink RX11 296 yX3_byClerksAlone ∈ BW := bw_of 797 (by decide +kernel) rfl
theorem wim_X3_byClerksAlone : Cond.instanceMethod yX3_byClerksAlone ∈ BW := bw_of 798 (by decide +kernel) rfl
theorem wse_X3_byClerksAlone : Cond.selects RX3 yX3_byClerksAlone yX3_byClerksAlone ∈ BW := bw_of 799 (by decide +kernel) rfl
theorem yw_X3_withTwoMachines : YW yX3_withTwoMachines cX3_withTwoMachines 7 (some .int) 0 := ⟨bw_of 787 (by decide +kernel) rfl, bw_of 122 (by decide +kernel) rfl, ⟨by decide +kernel, by decide +kernel, by decide +kernel⟩, by decide +kernel⟩
theorem wml_RX11_293 : Cond.methodLink RX11 293 yX3_withTwoMachines ∈ BW := bw_of 784 (by decide +kernel) rfl
theorem wim_X3_withTwoMachines : Cond.instanceMethod yX3_withTwoMachines ∈ BW := bw_of 785 (by decide +kernel) rfl
theorem wse_X3_withTwoMachines : Cond.selects RX3 yX3_withTwoMachines yX3_withTwoMachines ∈ BW := bw_of 786 (by decide +kernel) rfl
abbrev MX11_beside : MI := (RX11, cX11_beside, 2, (some .int), 5, none, "beside")
noncomputable def X11_beside (F : Nat)   (l0 : Nat) (l1 : Int)  (h : HP) : Option (Int × HP) :=
  if l1 = 0 then
    (xgP h (some l0) 11 6 2).bind fun v2 =>
    (xgP h v2 4 12 2).bind fun v3 =>
    (xrc h v3 3 7).bind fun a6 =>
    xb (X3_byClerksAlone F a6 h) fun v4 h5 =>
    some (v4, h5)
  else
    (xgP h (some l0) 11 6 2).bind fun v7 =>
    (xgP h v7 4 12 2).bind fun v8 =>
    (xrc h v8 3 7).bind fun a11 =>
    xb (X3_withTwoMachines F a11 h) fun v9 h10 =>
    some (v9, h10)
set_option maxRecDepth 100000 in
theorem SX11_beside {K : Ctx} {F : Nat} {r : Int} {hf : HP}     (l0 : Nat) (l1 : Int)  (h : HP) (E : X11_beside F   l0 l1 h = some (r, hf)) : Go K MX11_beside (QM K (some (vi r)) hf) hf 0 [(0, vr (some l0)), (1, vi l1)] [] h := by
  unfold X11_beside at E
  refine go_iload_n (j := 1) (n := 1) rfl rfl dX11_beside_0 rfl ?_
  refine go_if_eq (tgt := 17) (n := 4) dX11_beside_1 rfl rfl (fun c1 => ?_) (fun c1 => ?_)
  · rw [if_pos c1] at E
    refine go_aload_n (j := 0) (n := 18) rfl rfl dX11_beside_17 rfl ?_
    replace E := Option.bind_eq_some_iff.mp E; obtain ⟨v2, ev2, E⟩ := E
    refine go_getP (n := 21) ev2 fl_RX11_23 rfl dX11_beside_18 rfl ?_
    replace E := Option.bind_eq_some_iff.mp E; obtain ⟨v3, ev3, E⟩ := E
    refine go_getP (n := 24) ev3 fl_RX11_101 rfl dX11_beside_21 rfl ?_
    replace E := Option.bind_eq_some_iff.mp E; obtain ⟨a6, ea6, E⟩ := E
    obtain ⟨fa6, ga6⟩ := xrc_some ea6
    replace E := xb_some E; obtain ⟨v4, h5, ev4, E⟩ := E
    refine go_callV (y := yX3_byClerksAlone) (n := 27) (st := []) (as := []) (stk9 := [vi v4]) (OX3_byClerksAlone ev4) yw_X3_byClerksAlone ci_3 ga6 wml_RX11_296 wim_X3_byClerksAlone wse_X3_byClerksAlone (Nat.le_of_ble_eq_true rfl) rfl ⟨Nat.le_of_ble_eq_true rfl, Nat.le_of_ble_eq_true rfl⟩ (Nat.le_of_ble_eq_true rfl) dX11_beside_24 rfl (by cases fa6; rfl) rfl ?_
    cases E
    exact go_ireturn rfl dX11_beside_27
  · rw [if_neg c1] at E
    refine go_aload_n (j := 0) (n := 5) rfl rfl dX11_beside_4 rfl ?_
    replace E := Option.bind_eq_some_iff.mp E; obtain ⟨v7, ev7, E⟩ := E
    refine go_getP (n := 8) ev7 fl_RX11_23 rfl dX11_beside_5 rfl ?_
    replace E := Option.bind_eq_some_iff.mp E; obtain ⟨v8, ev8, E⟩ := E
    refine go_getP (n := 11) ev8 fl_RX11_101 rfl dX11_beside_8 rfl ?_
    replace E := Option.bind_eq_some_iff.mp E; obtain ⟨a11, ea11, E⟩ := E
    obtain ⟨fa11, ga11⟩ := xrc_some ea11
    replace E := xb_some E; obtain ⟨v9, h10, ev9, E⟩ := E
    refine go_callV (y := yX3_withTwoMachines) (n := 14) (st := []) (as := []) (stk9 := [vi v9]) (OX3_withTwoMachines ev9) yw_X3_withTwoMachines ci_3 ga11 wml_RX11_293 wim_X3_withTwoMachines wse_X3_withTwoMachines (Nat.le_of_ble_eq_true rfl) rfl ⟨Nat.le_of_ble_eq_true rfl, Nat.le_of_ble_eq_true rfl⟩ (Nat.le_of_ble_eq_true rfl) dX11_beside_11 rfl (by cases fa11; rfl) rfl ?_
    refine go_goto (tgt := 27) dX11_beside_14 rfl ?_
    cases E
    exact go_ireturn rfl dX11_beside_27
theorem OX11_beside {F : Nat} {l0 : Nat} {l1 : Int} {h hf : HP} {r : Int} (e : X11_beside F l0 l1 h = some (r, hf)) : Ok MX11_beside [vr (some l0), vi l1] (some (vi r)) h hf := fun K _ _ _ => SX11_beside l0 l1 h e
abbrev MX7_shownRows : MI := (RX7, cX7_shownRows, 1, (some .int), 2, none, "shownRows")
noncomputable def X7_shownRows (F : Nat)   (l0 : Nat)  (h : HP) : Option (Int × HP) :=
  (xgI h (some l0) 7 10 7).bind fun v1 =>
  some (min v1 8, h)
set_option maxRecDepth 100000 in
theorem SX7_shownRows {K : Ctx} {F : Nat} {r : Int} {hf : HP}     (l0 : Nat)  (h : HP) (E : X7_shownRows F   l0 h = some (r, hf)) : Go K MX7_shownRows (QM K (some (vi r)) hf) hf 0 [(0, vr (some l0))] [] h := by
  unfold X7_shownRows at E
  refine go_aload_n (j := 0) (n := 1) rfl rfl dX7_shownRows_0 rfl ?_
  replace E := Option.bind_eq_some_iff.mp E; obtain ⟨v1, ev1, E⟩ := E
  refine go_getI (n := 4) ev1 fl_RX7_48 rfl dX7_shownRows_1 rfl ?_
  refine go_bipush (z := 8) (n := 6) ⟨by decide, by decide⟩ dX7_shownRows_4 rfl ?_
  refine go_mmin (n := 9) wml_RX7_78 jm_min_i (Nat.le_of_ble_eq_true rfl) (Nat.le_of_ble_eq_true rfl) dX7_shownRows_6 rfl ?_
  cases E
  exact go_ireturn rfl dX7_shownRows_9
theorem OX7_shownRows {F : Nat} {l0 : Nat} {h hf : HP} {r : Int} (e : X7_shownRows F l0 h = some (r, hf)) : Ok MX7_shownRows [vr (some l0)] (some (vi r)) h hf := fun K _ _ _ => SX7_shownRows l0 h e
theorem yw_X7_shownRows : YW yX7_shownRows cX7_shownRows 1 (some .int) 0 := ⟨bw_of 812 (by decide +kernel) rfl, bw_of 121 (by decide +kernel) rfl, ⟨by decide +kernel, by decide +kernel, by decide +kernel⟩, by decide +kernel⟩
theorem wml_RX7_87 : Cond.methodLink RX7 87 yX7_shownRows ∈ BW := bw_of 809 (by decide +kernel) rfl
theorem wim_X7_shownRows : Cond.instanceMethod yX7_shownRows ∈ BW := bw_of 810 (by decide +kernel) rfl
theorem wse_X7_shownRows : Cond.selects RX7 yX7_shownRows yX7_shownRows ∈ BW := bw_of 811 (by decide +kernel) rfl
abbrev MX7_firstTorn : MI := (RX7, cX7_firstTorn, 4, (some .int), 3, none, "firstTorn")
noncomputable def X7_firstTorn_L43 (F : Nat)  (rc7 : Nat → Int → Int → HP → Option (Int × HP)) (l0 : Nat) (l1 : Int) (l2 : Int)  (h : HP) : Option (Int × HP) :=
  rc7 l0 l1 (w32 (l2 + 1)) h
set_option maxRecDepth 100000 in
theorem SX7_firstTorn_L43 {K : Ctx} {F : Nat} {r : Int} {hf : HP}   (rc7 : Nat → Int → Int → HP → Option (Int × HP)) (hrc7 : ∀ l0 l1 l2 h, rc7 l0 l1 l2 h = some (r, hf) → Go K MX7_firstTorn (QM K (some (vi r)) hf) hf 7 [(0, vr (some l0)), (1, vi l1), (2, vi l2)] [] h) (l0 : Nat) (l1 : Int) (l2 : Int)  (h : HP) (E : X7_firstTorn_L43 F  rc7 l0 l1 l2 h = some (r, hf)) : Go K MX7_firstTorn (QM K (some (vi r)) hf) hf 43 [(0, vr (some l0)), (1, vi l1), (2, vi l2)] [] h := by
  unfold X7_firstTorn_L43 at E
  refine go_iinc (j := 2) (n := 46) (lv' := [(2, vi (w32 (l2 + 1))), (0, vr (some l0)), (1, vi l1)]) rfl dX7_firstTorn_43 rfl (Nat.le_of_ble_eq_true rfl) rfl ?_
  refine go_goto (tgt := 7) dX7_firstTorn_46 rfl ?_
  refine go_pick (lv' := [(0, vr (some l0)), (1, vi l1), (2, vi (w32 (l2 + 1)))]) [1, 2, 0] rfl ?_
  exact hrc7 _ _ _ _ E
noncomputable def X7_firstTorn_L7 (F : Nat)   (k : Nat) : Nat → Int → Int → HP → Option (Int × HP) :=
  Nat.rec (motive := fun _ => Nat → Int → Int → HP → Option (Int × HP)) (fun _ _ _ _ => none) (fun _ rc7 l0 l1 l2 h =>
    if l1 ≤ l2 then
      some ((-1), h)
    else
      (xgI h (some l0) 7 10 7).bind fun v2 =>
      if (w32 ((w32 (v2 - l1)) + l2)) < 0 then
        X7_firstTorn_L43 F rc7 l0 l1 l2 h
      else
        if 5120 ≤ (w32 ((w32 (v2 - l1)) + l2)) then
          X7_firstTorn_L43 F rc7 l0 l1 l2 h
        else
          (xgP h (some l0) 7 10 5).bind fun v5 =>
          (xaI h v5 100 (w32 ((w32 (v2 - l1)) + l2))).bind fun v6 =>
          if v6 = 0 then
            X7_firstTorn_L43 F rc7 l0 l1 l2 h
          else
            some (l2, h)) k
theorem X7_firstTorn_L7_s (F : Nat)   (k : Nat) (l0 : Nat) (l1 : Int) (l2 : Int)  (h : HP) : X7_firstTorn_L7 F   (k + 1) l0 l1 l2 h =
    if l1 ≤ l2 then
      some ((-1), h)
    else
      (xgI h (some l0) 7 10 7).bind fun v2 =>
      if (w32 ((w32 (v2 - l1)) + l2)) < 0 then
        X7_firstTorn_L43 F (X7_firstTorn_L7 F k) l0 l1 l2 h
      else
        if 5120 ≤ (w32 ((w32 (v2 - l1)) + l2)) then
          X7_firstTorn_L43 F (X7_firstTorn_L7 F k) l0 l1 l2 h
        else
          (xgP h (some l0) 7 10 5).bind fun v5 =>
          (xaI h v5 100 (w32 ((w32 (v2 - l1)) + l2))).bind fun v6 =>
          if v6 = 0 then
            X7_firstTorn_L43 F (X7_firstTorn_L7 F k) l0 l1 l2 h
          else
            some (l2, h) := rfl
set_option maxRecDepth 100000 in
theorem SX7_firstTorn_L7 {K : Ctx} {F : Nat} {r : Int} {hf : HP}     : ∀ (k : Nat) (l0 : Nat) (l1 : Int) (l2 : Int)  (h : HP), X7_firstTorn_L7 F   k l0 l1 l2 h = some (r, hf) → Go K MX7_firstTorn (QM K (some (vi r)) hf) hf 7 [(0, vr (some l0)), (1, vi l1), (2, vi l2)] [] h := by
  intro k
  induction k with
  | zero => intro l0 l1 l2 h E; exact nomatch E
  | succ k hrc7 =>
    intro l0 l1 l2 h E
    rw [X7_firstTorn_L7_s] at E
    refine go_iload_n (j := 2) (n := 8) rfl rfl dX7_firstTorn_7 rfl ?_
    refine go_iload_n (j := 1) (n := 9) rfl rfl dX7_firstTorn_8 rfl ?_
    refine go_icmp_ge (tgt := 49) (n := 12) dX7_firstTorn_9 rfl rfl (fun c1 => ?_) (fun c1 => ?_)
    · rw [if_pos c1] at E
      refine go_iconst (z := (-1)) (n := 50) ⟨by decide, by decide⟩ dX7_firstTorn_49 rfl ?_
      cases E
      exact go_ireturn rfl dX7_firstTorn_50
    · rw [if_neg c1] at E
      refine go_aload_n (j := 0) (n := 13) rfl rfl dX7_firstTorn_12 rfl ?_
      replace E := Option.bind_eq_some_iff.mp E; obtain ⟨v2, ev2, E⟩ := E
      refine go_getI (n := 16) ev2 fl_RX7_48 rfl dX7_firstTorn_13 rfl ?_
      refine go_iload_n (j := 1) (n := 17) rfl rfl dX7_firstTorn_16 rfl ?_
      refine go_isub (n := 18) dX7_firstTorn_17 rfl ?_
      refine go_iload_n (j := 2) (n := 19) rfl rfl dX7_firstTorn_18 rfl ?_
      refine go_iadd (n := 20) dX7_firstTorn_19 rfl ?_
      refine go_istore_n (n := 21) (lv' := [(3, vi (w32 ((w32 (v2 - l1)) + l2))), (0, vr (some l0)), (1, vi l1), (2, vi l2)]) rfl dX7_firstTorn_20 rfl (Nat.le_of_ble_eq_true rfl) rfl ?_
      refine go_iload_n (j := 0) (n := 22) rfl rfl dX7_firstTorn_21 rfl ?_
      refine go_if_lt (tgt := 43) (n := 25) dX7_firstTorn_22 rfl rfl (fun c3 => ?_) (fun c3 => ?_)
      · rw [if_pos c3] at E
        refine go_pick (lv' := [(0, vr (some l0)), (1, vi l1), (2, vi l2)]) [1, 2, 3] rfl ?_
        exact SX7_firstTorn_L43   _ hrc7 _ _ _  _ E
      · rw [if_neg c3] at E
        refine go_iload_n (j := 0) (n := 26) rfl rfl dX7_firstTorn_25 rfl ?_
        refine go_sipush (z := 5120) (n := 29) ⟨by decide, by decide⟩ dX7_firstTorn_26 rfl ?_
        refine go_icmp_ge (tgt := 43) (n := 32) dX7_firstTorn_29 rfl rfl (fun c4 => ?_) (fun c4 => ?_)
        · rw [if_pos c4] at E
          refine go_pick (lv' := [(0, vr (some l0)), (1, vi l1), (2, vi l2)]) [1, 2, 3] rfl ?_
          exact SX7_firstTorn_L43   _ hrc7 _ _ _  _ E
        · rw [if_neg c4] at E
          refine go_aload_n (j := 1) (n := 33) rfl rfl dX7_firstTorn_32 rfl ?_
          replace E := Option.bind_eq_some_iff.mp E; obtain ⟨v5, ev5, E⟩ := E
          refine go_getP (n := 36) ev5 fl_RX7_27 rfl dX7_firstTorn_33 rfl ?_
          refine go_iload_n (j := 0) (n := 37) rfl rfl dX7_firstTorn_36 rfl ?_
          replace E := Option.bind_eq_some_iff.mp E; obtain ⟨v6, ev6, E⟩ := E
          refine go_iaload (n := 38) ev6 dX7_firstTorn_37 rfl ?_
          refine go_if_eq (tgt := 43) (n := 41) dX7_firstTorn_38 rfl rfl (fun c7 => ?_) (fun c7 => ?_)
          · rw [if_pos c7] at E
            refine go_pick (lv' := [(0, vr (some l0)), (1, vi l1), (2, vi l2)]) [1, 2, 3] rfl ?_
            exact SX7_firstTorn_L43   _ hrc7 _ _ _  _ E
          · rw [if_neg c7] at E
            refine go_iload_n (j := 3) (n := 42) rfl rfl dX7_firstTorn_41 rfl ?_
            cases E
            exact go_ireturn rfl dX7_firstTorn_42
noncomputable def X7_firstTorn (F : Nat)   (l0 : Nat)  (h : HP) : Option (Int × HP) :=
  (xrc h (some l0) 7 10).bind fun a3 =>
  xb (X7_shownRows F a3 h) fun v1 h2 =>
  X7_firstTorn_L7 F F l0 v1 0 h2
set_option maxRecDepth 100000 in
theorem SX7_firstTorn {K : Ctx} {F : Nat} {r : Int} {hf : HP}     (l0 : Nat)  (h : HP) (E : X7_firstTorn F   l0 h = some (r, hf)) : Go K MX7_firstTorn (QM K (some (vi r)) hf) hf 0 [(0, vr (some l0))] [] h := by
  unfold X7_firstTorn at E
  refine go_aload_n (j := 0) (n := 1) rfl rfl dX7_firstTorn_0 rfl ?_
  replace E := Option.bind_eq_some_iff.mp E; obtain ⟨a3, ea3, E⟩ := E
  obtain ⟨fa3, ga3⟩ := xrc_some ea3
  replace E := xb_some E; obtain ⟨v1, h2, ev1, E⟩ := E
  refine go_callV (y := yX7_shownRows) (n := 4) (st := []) (as := []) (stk9 := [vi v1]) (OX7_shownRows ev1) yw_X7_shownRows ci_7 ga3 wml_RX7_87 wim_X7_shownRows wse_X7_shownRows (Nat.le_of_ble_eq_true rfl) rfl ⟨Nat.le_of_ble_eq_true rfl, Nat.le_of_ble_eq_true rfl⟩ (Nat.le_of_ble_eq_true rfl) dX7_firstTorn_1 rfl (by cases fa3; rfl) rfl ?_
  refine go_istore_n (n := 5) (lv' := [(1, vi v1), (0, vr (some l0))]) rfl dX7_firstTorn_4 rfl (Nat.le_of_ble_eq_true rfl) rfl ?_
  refine go_iconst (z := 0) (n := 6) ⟨by decide, by decide⟩ dX7_firstTorn_5 rfl ?_
  refine go_istore_n (n := 7) (lv' := [(2, vi 0), (1, vi v1), (0, vr (some l0))]) rfl dX7_firstTorn_6 rfl (Nat.le_of_ble_eq_true rfl) rfl ?_
  refine go_pick (lv' := [(0, vr (some l0)), (1, vi v1), (2, vi 0)]) [2, 1, 0] rfl ?_
  exact SX7_firstTorn_L7     F _ _ _ _ E
theorem OX7_firstTorn {F : Nat} {l0 : Nat} {h hf : HP} {r : Int} (e : X7_firstTorn F l0 h = some (r, hf)) : Ok MX7_firstTorn [vr (some l0)] (some (vi r)) h hf := fun K _ _ _ => SX7_firstTorn l0 h e
theorem yw_X7_firstTorn : YW yX7_firstTorn cX7_firstTorn 4 (some .int) 0 := ⟨bw_of 808 (by decide +kernel) rfl, bw_of 121 (by decide +kernel) rfl, ⟨by decide +kernel, by decide +kernel, by decide +kernel⟩, by decide +kernel⟩
theorem wml_RX11_313 : Cond.methodLink RX11 313 yX7_firstTorn ∈ BW := bw_of 805 (by decide +kernel) rfl
theorem wim_X7_firstTorn : Cond.instanceMethod yX7_firstTorn ∈ BW := bw_of 806 (by decide +kernel) rfl
theorem wse_X7_firstTorn : Cond.selects RX7 yX7_firstTorn yX7_firstTorn ∈ BW := bw_of 807 (by decide +kernel) rfl
abbrev MX11_check : MI := (RX11, cX11_check, 1, (some .int), 4, none, "check")
noncomputable def X11_check (F : Nat)   (l0 : Nat)  (h : HP) : Option (Int × HP) :=
  (xgP h (some l0) 11 6 2).bind fun v1 =>
  (xgP h v1 4 12 1).bind fun v2 =>
  (xrc h v2 7 10).bind fun a5 =>
  xb (X7_firstTorn F a5 h) fun v3 h4 =>
  some (v3, h4)
set_option maxRecDepth 100000 in
theorem SX11_check {K : Ctx} {F : Nat} {r : Int} {hf : HP}     (l0 : Nat)  (h : HP) (E : X11_check F   l0 h = some (r, hf)) : Go K MX11_check (QM K (some (vi r)) hf) hf 0 [(0, vr (some l0))] [] h := by
  unfold X11_check at E
  refine go_aload_n (j := 0) (n := 1) rfl rfl dX11_check_0 rfl ?_
  replace E := Option.bind_eq_some_iff.mp E; obtain ⟨v1, ev1, E⟩ := E
  refine go_getP (n := 4) ev1 fl_RX11_23 rfl dX11_check_1 rfl ?_
  replace E := Option.bind_eq_some_iff.mp E; obtain ⟨v2, ev2, E⟩ := E
  refine go_getP (n := 7) ev2 fl_RX11_60 rfl dX11_check_4 rfl ?_
  replace E := Option.bind_eq_some_iff.mp E; obtain ⟨a5, ea5, E⟩ := E
  obtain ⟨fa5, ga5⟩ := xrc_some ea5
  replace E := xb_some E; obtain ⟨v3, h4, ev3, E⟩ := E
  refine go_callV (y := yX7_firstTorn) (n := 10) (st := []) (as := []) (stk9 := [vi v3]) (OX7_firstTorn ev3) yw_X7_firstTorn ci_7 ga5 wml_RX11_313 wim_X7_firstTorn wse_X7_firstTorn (Nat.le_of_ble_eq_true rfl) rfl ⟨Nat.le_of_ble_eq_true rfl, Nat.le_of_ble_eq_true rfl⟩ (Nat.le_of_ble_eq_true rfl) dX11_check_7 rfl (by cases fa5; rfl) rfl ?_
  cases E
  exact go_ireturn rfl dX11_check_10
theorem OX11_check {F : Nat} {l0 : Nat} {h hf : HP} {r : Int} (e : X11_check F l0 h = some (r, hf)) : Ok MX11_check [vr (some l0)] (some (vi r)) h hf := fun K _ _ _ => SX11_check l0 h e
abbrev MX7_wordAt : MI := (RX7, cX7_wordAt, 2, (some .int), 2, none, "wordAt")
noncomputable def X7_wordAt (F : Nat)   (l0 : Nat) (l1 : Int)  (h : HP) : Option (Int × HP) :=
  if l1 < 0 then
    some (0, h)
  else
    if 64 ≤ l1 then
      some (0, h)
    else
      (xgP h (some l0) 7 10 0).bind fun v3 =>
      (xaI h v3 100 l1).bind fun v4 =>
      some (v4, h)
set_option maxRecDepth 100000 in
theorem SX7_wordAt {K : Ctx} {F : Nat} {r : Int} {hf : HP}     (l0 : Nat) (l1 : Int)  (h : HP) (E : X7_wordAt F   l0 l1 h = some (r, hf)) : Go K MX7_wordAt (QM K (some (vi r)) hf) hf 0 [(0, vr (some l0)), (1, vi l1)] [] h := by
  unfold X7_wordAt at E
  refine go_iload_n (j := 1) (n := 1) rfl rfl dX7_wordAt_0 rfl ?_
  refine go_if_lt (tgt := 19) (n := 4) dX7_wordAt_1 rfl rfl (fun c1 => ?_) (fun c1 => ?_)
  · rw [if_pos c1] at E
    refine go_iconst (z := 0) (n := 20) ⟨by decide, by decide⟩ dX7_wordAt_19 rfl ?_
    cases E
    exact go_ireturn rfl dX7_wordAt_20
  · rw [if_neg c1] at E
    refine go_iload_n (j := 1) (n := 5) rfl rfl dX7_wordAt_4 rfl ?_
    refine go_bipush (z := 64) (n := 7) ⟨by decide, by decide⟩ dX7_wordAt_5 rfl ?_
    refine go_icmp_ge (tgt := 19) (n := 10) dX7_wordAt_7 rfl rfl (fun c2 => ?_) (fun c2 => ?_)
    · rw [if_pos c2] at E
      refine go_iconst (z := 0) (n := 20) ⟨by decide, by decide⟩ dX7_wordAt_19 rfl ?_
      cases E
      exact go_ireturn rfl dX7_wordAt_20
    · rw [if_neg c2] at E
      refine go_aload_n (j := 0) (n := 11) rfl rfl dX7_wordAt_10 rfl ?_
      replace E := Option.bind_eq_some_iff.mp E; obtain ⟨v3, ev3, E⟩ := E
      refine go_getP (n := 14) ev3 fl_RX7_9 rfl dX7_wordAt_11 rfl ?_
      refine go_iload_n (j := 1) (n := 15) rfl rfl dX7_wordAt_14 rfl ?_
      replace E := Option.bind_eq_some_iff.mp E; obtain ⟨v4, ev4, E⟩ := E
      refine go_iaload (n := 16) ev4 dX7_wordAt_15 rfl ?_
      refine go_goto (tgt := 20) dX7_wordAt_16 rfl ?_
      cases E
      exact go_ireturn rfl dX7_wordAt_20
theorem OX7_wordAt {F : Nat} {l0 : Nat} {l1 : Int} {h hf : HP} {r : Int} (e : X7_wordAt F l0 l1 h = some (r, hf)) : Ok MX7_wordAt [vr (some l0), vi l1] (some (vi r)) h hf := fun K _ _ _ => SX7_wordAt l0 l1 h e
theorem yw_X7_wordAt : YW yX7_wordAt cX7_wordAt 2 (some .int) 1 := ⟨bw_of 716 (by decide +kernel) rfl, bw_of 121 (by decide +kernel) rfl, ⟨by decide +kernel, by decide +kernel, by decide +kernel⟩, by decide +kernel⟩
theorem wml_RX0_50 : Cond.methodLink RX0 50 yX7_wordAt ∈ BW := bw_of 713 (by decide +kernel) rfl
theorem wim_X7_wordAt : Cond.instanceMethod yX7_wordAt ∈ BW := bw_of 714 (by decide +kernel) rfl
theorem wse_X7_wordAt : Cond.selects RX7 yX7_wordAt yX7_wordAt ∈ BW := bw_of 715 (by decide +kernel) rfl
theorem wml_RX0_56 : Cond.methodLink RX0 56 Lib.Math.max.name ∈ BW := bw_of 717 (by decide +kernel) rfl
abbrev MX0_wantedBy : MI := (RX0, cX0_wantedBy, 3, (some .long), 3, none, "wantedBy")
noncomputable def X0_wantedBy (F : Nat)   (l0 : Option Nat) (l1 : Int) (l2 : Int)  (h : HP) : Option (Int × HP) :=
  (xrc h l0 7 10).bind fun a3 =>
  xb (X7_wordAt F a3 (w32 ((w32 (4 * l1)) + l2)) h) fun v1 h2 =>
  some ((max 0 v1), h2)
set_option maxRecDepth 100000 in
theorem SX0_wantedBy {K : Ctx} {F : Nat} {r : Int} {hf : HP}     (l0 : Option Nat) (l1 : Int) (l2 : Int)  (h : HP) (E : X0_wantedBy F   l0 l1 l2 h = some (r, hf)) : Go K MX0_wantedBy (QM K (some (vl r)) hf) hf 0 [(0, vr l0), (1, vi l1), (2, vi l2)] [] h := by
  unfold X0_wantedBy at E
  refine go_iconst (z := 0) (n := 1) ⟨by decide, by decide⟩ dX0_wantedBy_0 rfl ?_
  refine go_aload_n (j := 0) (n := 2) rfl rfl dX0_wantedBy_1 rfl ?_
  refine go_iconst (z := 4) (n := 3) ⟨by decide, by decide⟩ dX0_wantedBy_2 rfl ?_
  refine go_iload_n (j := 1) (n := 4) rfl rfl dX0_wantedBy_3 rfl ?_
  refine go_imul (n := 5) dX0_wantedBy_4 rfl ?_
  refine go_iload_n (j := 2) (n := 6) rfl rfl dX0_wantedBy_5 rfl ?_
  refine go_iadd (n := 7) dX0_wantedBy_6 rfl ?_
  replace E := Option.bind_eq_some_iff.mp E; obtain ⟨a3, ea3, E⟩ := E
  obtain ⟨fa3, ga3⟩ := xrc_some ea3
  replace E := xb_some E; obtain ⟨v1, h2, ev1, E⟩ := E
  refine go_callV (y := yX7_wordAt) (n := 10) (st := [vi 0]) (as := [vi (w32 ((w32 (4 * l1)) + l2))]) (stk9 := [vi v1, vi 0]) (OX7_wordAt ev1) yw_X7_wordAt ci_7 ga3 wml_RX0_50 wim_X7_wordAt wse_X7_wordAt (Nat.le_of_ble_eq_true rfl) rfl ⟨Nat.le_of_ble_eq_true rfl, Nat.le_of_ble_eq_true rfl⟩ (Nat.le_of_ble_eq_true rfl) dX0_wantedBy_7 rfl (by cases fa3; rfl) rfl ?_
  refine go_mmax (n := 13) wml_RX0_56 jm_max_i (Nat.le_of_ble_eq_true rfl) (Nat.le_of_ble_eq_true rfl) dX0_wantedBy_10 rfl ?_
  refine go_i2l (n := 14) dX0_wantedBy_13 rfl ?_
  cases E
  exact go_lreturn rfl dX0_wantedBy_14
theorem OX0_wantedBy {F : Nat} {l0 : Option Nat} {l1 : Int} {l2 : Int} {h hf : HP} {r : Int} (e : X0_wantedBy F l0 l1 l2 h = some (r, hf)) : Ok MX0_wantedBy [vr l0, vi l1, vi l2] (some (vl r)) h hf := fun K _ _ _ => SX0_wantedBy l0 l1 l2 h e
theorem yw_X0_wantedBy : YW yX0_wantedBy cX0_wantedBy 3 (some .long) 3 := ⟨bw_of 712 (by decide +kernel) rfl, bw_of 125 (by decide +kernel) rfl, ⟨by decide +kernel, by decide +kernel, by decide +kernel⟩, by decide +kernel⟩
theorem wml_RX0_62 : Cond.methodLink RX0 62 yX0_wantedBy ∈ BW := bw_of 710 (by decide +kernel) rfl
theorem wst_X0_wantedBy : Cond.static yX0_wantedBy ∈ BW := bw_of 711 (by decide +kernel) rfl
abbrev MX0_wantedByAll : MI := (RX0, cX0_wantedByAll, 5, (some .long), 4, none, "wantedByAll")
noncomputable def X0_wantedByAll_L5 (F : Nat)   (k : Nat) : Option Nat → Int → Int → Int → HP → Option (Int × HP) :=
  Nat.rec (motive := fun _ => Option Nat → Int → Int → Int → HP → Option (Int × HP)) (fun _ _ _ _ _ => none) (fun _ rc5 l0 l1 l2 l4 h =>
    if 4 ≤ l4 then
      some (l2, h)
    else
      xb (X0_wantedBy F l0 l4 l1 h) fun v2 h3 =>
      rc5 l0 l1 (w64 (l2 + v2)) (w32 (l4 + 1)) h3) k
theorem X0_wantedByAll_L5_s (F : Nat)   (k : Nat) (l0 : Option Nat) (l1 : Int) (l2 : Int) (l4 : Int)  (h : HP) : X0_wantedByAll_L5 F   (k + 1) l0 l1 l2 l4 h =
    if 4 ≤ l4 then
      some (l2, h)
    else
      xb (X0_wantedBy F l0 l4 l1 h) fun v2 h3 =>
      (X0_wantedByAll_L5 F k) l0 l1 (w64 (l2 + v2)) (w32 (l4 + 1)) h3 := rfl
set_option maxRecDepth 100000 in
theorem SX0_wantedByAll_L5 {K : Ctx} {F : Nat} {r : Int} {hf : HP}     : ∀ (k : Nat) (l0 : Option Nat) (l1 : Int) (l2 : Int) (l4 : Int)  (h : HP), X0_wantedByAll_L5 F   k l0 l1 l2 l4 h = some (r, hf) → Go K MX0_wantedByAll (QM K (some (vl r)) hf) hf 5 [(0, vr l0), (1, vi l1), (2, vl l2), (4, vi l4)] [] h := by
  intro k
  induction k with
  | zero => intro l0 l1 l2 l4 h E; exact nomatch E
  | succ k hrc5 =>
    intro l0 l1 l2 l4 h E
    rw [X0_wantedByAll_L5_s] at E
    refine go_iload (j := 3) (n := 7) rfl dX0_wantedByAll_5 rfl ?_
    refine go_iconst (z := 4) (n := 8) ⟨by decide, by decide⟩ dX0_wantedByAll_7 rfl ?_
    refine go_icmp_ge (tgt := 27) (n := 11) dX0_wantedByAll_8 rfl rfl (fun c1 => ?_) (fun c1 => ?_)
    · rw [if_pos c1] at E
      refine go_lload_n (j := 2) (n := 28) rfl rfl dX0_wantedByAll_27 rfl ?_
      cases E
      exact go_lreturn rfl dX0_wantedByAll_28
    · rw [if_neg c1] at E
      refine go_lload_n (j := 2) (n := 12) rfl rfl dX0_wantedByAll_11 rfl ?_
      refine go_aload_n (j := 0) (n := 13) rfl rfl dX0_wantedByAll_12 rfl ?_
      refine go_iload (j := 3) (n := 15) rfl dX0_wantedByAll_13 rfl ?_
      refine go_iload_n (j := 1) (n := 16) rfl rfl dX0_wantedByAll_15 rfl ?_
      replace E := xb_some E; obtain ⟨v2, h3, ev2, E⟩ := E
      refine go_callS (y := yX0_wantedBy) (n := 19) (st := [vl l2]) (as := [vr l0, vi l4, vi l1]) (stk9 := [vl v2, vl l2]) (OX0_wantedBy ev2) yw_X0_wantedBy wml_RX0_62 wst_X0_wantedBy (Nat.le_of_ble_eq_true rfl) rfl ⟨Nat.le_of_ble_eq_true rfl, Nat.le_of_ble_eq_true rfl⟩ (Nat.le_of_ble_eq_true rfl) dX0_wantedByAll_16 rfl rfl rfl ?_
      refine go_ladd (n := 20) dX0_wantedByAll_19 rfl ?_
      refine go_lstore_n (n := 21) (lv' := [(2, vl (w64 (l2 + v2))), (0, vr l0), (1, vi l1), (4, vi l4)]) rfl dX0_wantedByAll_20 rfl (Nat.le_of_ble_eq_true rfl) rfl ?_
      refine go_iinc (j := 3) (n := 24) (lv' := [(4, vi (w32 (l4 + 1))), (2, vl (w64 (l2 + v2))), (0, vr l0), (1, vi l1)]) rfl dX0_wantedByAll_21 rfl (Nat.le_of_ble_eq_true rfl) rfl ?_
      refine go_goto (tgt := 5) dX0_wantedByAll_24 rfl ?_
      refine go_pick (lv' := [(0, vr l0), (1, vi l1), (2, vl (w64 (l2 + v2))), (4, vi (w32 (l4 + 1)))]) [2, 3, 1, 0] rfl ?_
      exact hrc5 _ _ _ _ _ E
noncomputable def X0_wantedByAll (F : Nat)   (l0 : Option Nat) (l1 : Int)  (h : HP) : Option (Int × HP) :=
  X0_wantedByAll_L5 F F l0 l1 0 0 h
set_option maxRecDepth 100000 in
theorem SX0_wantedByAll {K : Ctx} {F : Nat} {r : Int} {hf : HP}     (l0 : Option Nat) (l1 : Int)  (h : HP) (E : X0_wantedByAll F   l0 l1 h = some (r, hf)) : Go K MX0_wantedByAll (QM K (some (vl r)) hf) hf 0 [(0, vr l0), (1, vi l1)] [] h := by
  unfold X0_wantedByAll at E
  refine go_lconst (w := 0) (n := 1) rfl dX0_wantedByAll_0 rfl ?_
  refine go_lstore_n (n := 2) (lv' := [(2, vl 0), (0, vr l0), (1, vi l1)]) rfl dX0_wantedByAll_1 rfl (Nat.le_of_ble_eq_true rfl) rfl ?_
  refine go_iconst (z := 0) (n := 3) ⟨by decide, by decide⟩ dX0_wantedByAll_2 rfl ?_
  refine go_istore (n := 5) (lv' := [(4, vi 0), (2, vl 0), (0, vr l0), (1, vi l1)]) dX0_wantedByAll_3 rfl (Nat.le_of_ble_eq_true rfl) rfl ?_
  refine go_pick (lv' := [(0, vr l0), (1, vi l1), (2, vl 0), (4, vi 0)]) [2, 3, 1, 0] rfl ?_
  exact SX0_wantedByAll_L5     F _ _ _ _ _ E
theorem OX0_wantedByAll {F : Nat} {l0 : Option Nat} {l1 : Int} {h hf : HP} {r : Int} (e : X0_wantedByAll F l0 l1 h = some (r, hf)) : Ok MX0_wantedByAll [vr l0, vi l1] (some (vl r)) h hf := fun K _ _ _ => SX0_wantedByAll l0 l1 h e
theorem fl_RX0_30 : FL RX0 30 0 10 8 true := ⟨RX0, TX0, ci_0, by decide, bw_of 465 (by decide +kernel) rfl, rfl, rfl⟩
theorem yw_X0_wantedByAll : YW yX0_wantedByAll cX0_wantedByAll 5 (some .long) 2 := ⟨bw_of 750 (by decide +kernel) rfl, bw_of 125 (by decide +kernel) rfl, ⟨by decide +kernel, by decide +kernel, by decide +kernel⟩, by decide +kernel⟩
theorem wml_RX0_66 : Cond.methodLink RX0 66 yX0_wantedByAll ∈ BW := bw_of 748 (by decide +kernel) rfl
theorem wst_X0_wantedByAll : Cond.static yX0_wantedByAll ∈ BW := bw_of 749 (by decide +kernel) rfl
abbrev MX0_partByMinutes : MI := (RX0, cX0_partByMinutes, 5, none, 5, none, "partByMinutes")
noncomputable def X0_partByMinutes_L2 (F : Nat)   (k : Nat) : Nat → Option Nat → Int → HP → Option (Unit × HP) :=
  Nat.rec (motive := fun _ => Nat → Option Nat → Int → HP → Option (Unit × HP)) (fun _ _ _ _ => none) (fun _ rc2 l0 l1 l2 h =>
    if 4 ≤ l2 then
      some ((), h)
    else
      (xgP h (some l0) 0 10 0).bind fun v2 =>
      (xaI h v2 100 l2).bind fun v3 =>
      (xgP h (some l0) 0 10 8).bind fun v4 =>
      xb (X0_wantedByAll F l1 l2 h) fun v5 h6 =>
      (xd (max 1 v3)).bind fun u7 =>
      (xgP h6 (some l0) 0 10 1).bind fun v8 =>
      (xaI h6 v8 100 l2).bind fun v9 =>
      (xsJ h6 v4 l2 (w64 ((w64 ((w64 ((w64 (v5 + (max 1 v3))) - 1)).tdiv (max 1 v3))) * v9))).bind fun h10 =>
      rc2 l0 l1 (w32 (l2 + 1)) h10) k
theorem X0_partByMinutes_L2_s (F : Nat)   (k : Nat) (l0 : Nat) (l1 : Option Nat) (l2 : Int)  (h : HP) : X0_partByMinutes_L2 F   (k + 1) l0 l1 l2 h =
    if 4 ≤ l2 then
      some ((), h)
    else
      (xgP h (some l0) 0 10 0).bind fun v2 =>
      (xaI h v2 100 l2).bind fun v3 =>
      (xgP h (some l0) 0 10 8).bind fun v4 =>
      xb (X0_wantedByAll F l1 l2 h) fun v5 h6 =>
      (xd (max 1 v3)).bind fun u7 =>
      (xgP h6 (some l0) 0 10 1).bind fun v8 =>
      (xaI h6 v8 100 l2).bind fun v9 =>
      (xsJ h6 v4 l2 (w64 ((w64 ((w64 ((w64 (v5 + (max 1 v3))) - 1)).tdiv (max 1 v3))) * v9))).bind fun h10 =>
      (X0_partByMinutes_L2 F k) l0 l1 (w32 (l2 + 1)) h10 := rfl
set_option maxRecDepth 100000 in
theorem SX0_partByMinutes_L2 {K : Ctx} {F : Nat} {r : Unit} {hf : HP}     : ∀ (k : Nat) (l0 : Nat) (l1 : Option Nat) (l2 : Int)  (h : HP), X0_partByMinutes_L2 F   k l0 l1 l2 h = some (r, hf) → Go K MX0_partByMinutes (QM K none hf) hf 2 [(0, vr (some l0)), (1, vr l1), (2, vi l2)] [] h := by
  intro k
  induction k with
  | zero => intro l0 l1 l2 h E; exact nomatch E
  | succ k hrc2 =>
    intro l0 l1 l2 h E
    rw [X0_partByMinutes_L2_s] at E
    refine go_iload_n (j := 2) (n := 3) rfl rfl dX0_partByMinutes_2 rfl ?_
    refine go_iconst (z := 4) (n := 4) ⟨by decide, by decide⟩ dX0_partByMinutes_3 rfl ?_
    refine go_icmp_ge (tgt := 50) (n := 7) dX0_partByMinutes_4 rfl rfl (fun c1 => ?_) (fun c1 => ?_)
    · rw [if_pos c1] at E
      cases E
      exact go_return rfl dX0_partByMinutes_50
    · rw [if_neg c1] at E
      refine go_iconst (z := 1) (n := 8) ⟨by decide, by decide⟩ dX0_partByMinutes_7 rfl ?_
      refine go_aload_n (j := 0) (n := 9) rfl rfl dX0_partByMinutes_8 rfl ?_
      replace E := Option.bind_eq_some_iff.mp E; obtain ⟨v2, ev2, E⟩ := E
      refine go_getP (n := 12) ev2 fl_RX0_9 rfl dX0_partByMinutes_9 rfl ?_
      refine go_iload_n (j := 2) (n := 13) rfl rfl dX0_partByMinutes_12 rfl ?_
      replace E := Option.bind_eq_some_iff.mp E; obtain ⟨v3, ev3, E⟩ := E
      refine go_iaload (n := 14) ev3 dX0_partByMinutes_13 rfl ?_
      refine go_mmax (n := 17) wml_RX0_56 jm_max_i (Nat.le_of_ble_eq_true rfl) (Nat.le_of_ble_eq_true rfl) dX0_partByMinutes_14 rfl ?_
      refine go_i2l (n := 18) dX0_partByMinutes_17 rfl ?_
      refine go_lstore_n (n := 19) (lv' := [(3, vl (max 1 v3)), (0, vr (some l0)), (1, vr l1), (2, vi l2)]) rfl dX0_partByMinutes_18 rfl (Nat.le_of_ble_eq_true rfl) rfl ?_
      refine go_aload_n (j := 1) (n := 20) rfl rfl dX0_partByMinutes_19 rfl ?_
      replace E := Option.bind_eq_some_iff.mp E; obtain ⟨v4, ev4, E⟩ := E
      refine go_getP (n := 23) ev4 fl_RX0_30 rfl dX0_partByMinutes_20 rfl ?_
      refine go_iload_n (j := 3) (n := 24) rfl rfl dX0_partByMinutes_23 rfl ?_
      refine go_aload_n (j := 2) (n := 25) rfl rfl dX0_partByMinutes_24 rfl ?_
      refine go_iload_n (j := 3) (n := 26) rfl rfl dX0_partByMinutes_25 rfl ?_
      replace E := xb_some E; obtain ⟨v5, h6, ev5, E⟩ := E
      refine go_callS (y := yX0_wantedByAll) (n := 29) (st := [vi l2, vr v4]) (as := [vr l1, vi l2]) (stk9 := [vl v5, vi l2, vr v4]) (OX0_wantedByAll ev5) yw_X0_wantedByAll wml_RX0_66 wst_X0_wantedByAll (Nat.le_of_ble_eq_true rfl) rfl ⟨Nat.le_of_ble_eq_true rfl, Nat.le_of_ble_eq_true rfl⟩ (Nat.le_of_ble_eq_true rfl) dX0_partByMinutes_26 rfl rfl rfl ?_
      refine go_lload_n (j := 0) (n := 30) rfl rfl dX0_partByMinutes_29 rfl ?_
      refine go_ladd (n := 31) dX0_partByMinutes_30 rfl ?_
      refine go_lconst (w := 1) (n := 32) rfl dX0_partByMinutes_31 rfl ?_
      refine go_lsub (n := 33) dX0_partByMinutes_32 rfl ?_
      refine go_lload_n (j := 0) (n := 34) rfl rfl dX0_partByMinutes_33 rfl ?_
      replace E := Option.bind_eq_some_iff.mp E; obtain ⟨u7, eu7, E⟩ := E
      refine go_ldiv (n := 35) (xd_some eu7) dX0_partByMinutes_34 rfl ?_
      refine go_aload_n (j := 1) (n := 36) rfl rfl dX0_partByMinutes_35 rfl ?_
      replace E := Option.bind_eq_some_iff.mp E; obtain ⟨v8, ev8, E⟩ := E
      refine go_getP (n := 39) ev8 fl_RX0_15 rfl dX0_partByMinutes_36 rfl ?_
      refine go_iload_n (j := 3) (n := 40) rfl rfl dX0_partByMinutes_39 rfl ?_
      replace E := Option.bind_eq_some_iff.mp E; obtain ⟨v9, ev9, E⟩ := E
      refine go_iaload (n := 41) ev9 dX0_partByMinutes_40 rfl ?_
      refine go_i2l (n := 42) dX0_partByMinutes_41 rfl ?_
      refine go_lmul (n := 43) dX0_partByMinutes_42 rfl ?_
      replace E := Option.bind_eq_some_iff.mp E; obtain ⟨h10, eh10, E⟩ := E
      refine go_lastore (n := 44) eh10 dX0_partByMinutes_43 rfl ?_
      refine go_iinc (j := 3) (n := 47) (lv' := [(2, vi (w32 (l2 + 1))), (3, vl (max 1 v3)), (0, vr (some l0)), (1, vr l1)]) rfl dX0_partByMinutes_44 rfl (Nat.le_of_ble_eq_true rfl) rfl ?_
      refine go_goto (tgt := 2) dX0_partByMinutes_47 rfl ?_
      refine go_pick (lv' := [(0, vr (some l0)), (1, vr l1), (2, vi (w32 (l2 + 1)))]) [2, 3, 0] rfl ?_
      exact hrc2 _ _ _ _ E
noncomputable def X0_partByMinutes (F : Nat)   (l0 : Nat) (l1 : Option Nat)  (h : HP) : Option (Unit × HP) :=
  X0_partByMinutes_L2 F F l0 l1 0 h
set_option maxRecDepth 100000 in
theorem SX0_partByMinutes {K : Ctx} {F : Nat} {r : Unit} {hf : HP}     (l0 : Nat) (l1 : Option Nat)  (h : HP) (E : X0_partByMinutes F   l0 l1 h = some (r, hf)) : Go K MX0_partByMinutes (QM K none hf) hf 0 [(0, vr (some l0)), (1, vr l1)] [] h := by
  unfold X0_partByMinutes at E
  refine go_iconst (z := 0) (n := 1) ⟨by decide, by decide⟩ dX0_partByMinutes_0 rfl ?_
  refine go_istore_n (n := 2) (lv' := [(2, vi 0), (0, vr (some l0)), (1, vr l1)]) rfl dX0_partByMinutes_1 rfl (Nat.le_of_ble_eq_true rfl) rfl ?_
  refine go_pick (lv' := [(0, vr (some l0)), (1, vr l1), (2, vi 0)]) [1, 2, 0] rfl ?_
  exact SX0_partByMinutes_L2     F _ _ _ _ E
theorem OX0_partByMinutes {F : Nat} {l0 : Nat} {l1 : Option Nat} {h hf : HP} {r : Unit} (e : X0_partByMinutes F l0 l1 h = some (r, hf)) : Ok MX0_partByMinutes [vr (some l0), vr l1] none h hf := fun K _ _ _ => SX0_partByMinutes l0 l1 h e
abbrev MX0_shareOf : MI := (RX0, cX0_shareOf, 11, (some .long), 2, none, "shareOf")
noncomputable def X0_shareOf_L101 (F : Nat)  (rc57 : Nat → Int → Int → Int → Int → Int → Int → HP → Option (Int × HP)) (l0 : Nat) (l1 : Int) (l2 : Int) (l4 : Int) (l6 : Int) (l8 : Int) (l9 : Int)  (h : HP) : Option (Int × HP) :=
  rc57 l0 l1 l2 l4 l6 l8 (w32 (l9 + 1)) h
set_option maxRecDepth 100000 in
theorem SX0_shareOf_L101 {K : Ctx} {F : Nat} {r : Int} {hf : HP}   (rc57 : Nat → Int → Int → Int → Int → Int → Int → HP → Option (Int × HP)) (hrc57 : ∀ l0 l1 l2 l4 l6 l8 l9 h, rc57 l0 l1 l2 l4 l6 l8 l9 h = some (r, hf) → Go K MX0_shareOf (QM K (some (vl r)) hf) hf 57 [(0, vr (some l0)), (1, vi l1), (2, vl l2), (4, vl l4), (6, vl l6), (8, vi l8), (9, vi l9)] [] h) (l0 : Nat) (l1 : Int) (l2 : Int) (l4 : Int) (l6 : Int) (l8 : Int) (l9 : Int)  (h : HP) (E : X0_shareOf_L101 F  rc57 l0 l1 l2 l4 l6 l8 l9 h = some (r, hf)) : Go K MX0_shareOf (QM K (some (vl r)) hf) hf 101 [(0, vr (some l0)), (1, vi l1), (2, vl l2), (4, vl l4), (6, vl l6), (8, vi l8), (9, vi l9)] [] h := by
  unfold X0_shareOf_L101 at E
  refine go_iinc (j := 6) (n := 104) (lv' := [(9, vi (w32 (l9 + 1))), (0, vr (some l0)), (1, vi l1), (2, vl l2), (4, vl l4), (6, vl l6), (8, vi l8)]) rfl dX0_shareOf_101 rfl (Nat.le_of_ble_eq_true rfl) rfl ?_
  refine go_goto (tgt := 57) dX0_shareOf_104 rfl ?_
  refine go_pick (lv' := [(0, vr (some l0)), (1, vi l1), (2, vl l2), (4, vl l4), (6, vl l6), (8, vi l8), (9, vi (w32 (l9 + 1)))]) [1, 2, 3, 4, 5, 6, 0] rfl ?_
  exact hrc57 _ _ _ _ _ _ _ _ E
noncomputable def X0_shareOf_L57 (F : Nat)   (k : Nat) : Nat → Int → Int → Int → Int → Int → Int → HP → Option (Int × HP) :=
  Nat.rec (motive := fun _ => Nat → Int → Int → Int → Int → Int → Int → HP → Option (Int × HP)) (fun _ _ _ _ _ _ _ _ => none) (fun _ rc57 l0 l1 l2 l4 l6 l8 l9 h =>
    if 4 ≤ l9 then
      (xgP h (some l0) 0 10 8).bind fun v2 =>
      (xaJ h v2 l1).bind fun v3 =>
      (xd l4).bind fun u4 =>
      some (if 0 ≤ (xcmp l8 l6) then w64 ((w64 (l2 * v3)).tdiv l4) else w64 ((w64 ((w64 (l2 * v3)).tdiv l4)) + 1), h)
    else
      (xgP h (some l0) 0 10 8).bind fun v6 =>
      (xaJ h v6 l9).bind fun v7 =>
      (xd l4).bind fun u8 =>
      if l1 ≤ l9 then
        X0_shareOf_L101 F rc57 l0 l1 l2 l4 (w64 (l6 - (w64 ((w64 (l2 * v7)).tdiv l4)))) l8 l9 h
      else
        (xgP h (some l0) 0 10 8).bind fun v10 =>
        (xaJ h v10 l9).bind fun v11 =>
        X0_shareOf_L101 F rc57 l0 l1 l2 l4 (w64 (l6 - (w64 ((w64 (l2 * v7)).tdiv l4)))) (if (xcmp v11 0) ≤ 0 then l8 else w32 (l8 + 1)) l9 h) k
theorem X0_shareOf_L57_s (F : Nat)   (k : Nat) (l0 : Nat) (l1 : Int) (l2 : Int) (l4 : Int) (l6 : Int) (l8 : Int) (l9 : Int)  (h : HP) : X0_shareOf_L57 F   (k + 1) l0 l1 l2 l4 l6 l8 l9 h =
    if 4 ≤ l9 then
      (xgP h (some l0) 0 10 8).bind fun v2 =>
      (xaJ h v2 l1).bind fun v3 =>
      (xd l4).bind fun u4 =>
      some (if 0 ≤ (xcmp l8 l6) then w64 ((w64 (l2 * v3)).tdiv l4) else w64 ((w64 ((w64 (l2 * v3)).tdiv l4)) + 1), h)
    else
      (xgP h (some l0) 0 10 8).bind fun v6 =>
      (xaJ h v6 l9).bind fun v7 =>
      (xd l4).bind fun u8 =>
      if l1 ≤ l9 then
        X0_shareOf_L101 F (X0_shareOf_L57 F k) l0 l1 l2 l4 (w64 (l6 - (w64 ((w64 (l2 * v7)).tdiv l4)))) l8 l9 h
      else
        (xgP h (some l0) 0 10 8).bind fun v10 =>
        (xaJ h v10 l9).bind fun v11 =>
        X0_shareOf_L101 F (X0_shareOf_L57 F k) l0 l1 l2 l4 (w64 (l6 - (w64 ((w64 (l2 * v7)).tdiv l4)))) (if (xcmp v11 0) ≤ 0 then l8 else w32 (l8 + 1)) l9 h := rfl
set_option maxRecDepth 100000 in
theorem SX0_shareOf_L57 {K : Ctx} {F : Nat} {r : Int} {hf : HP}     : ∀ (k : Nat) (l0 : Nat) (l1 : Int) (l2 : Int) (l4 : Int) (l6 : Int) (l8 : Int) (l9 : Int)  (h : HP), X0_shareOf_L57 F   k l0 l1 l2 l4 l6 l8 l9 h = some (r, hf) → Go K MX0_shareOf (QM K (some (vl r)) hf) hf 57 [(0, vr (some l0)), (1, vi l1), (2, vl l2), (4, vl l4), (6, vl l6), (8, vi l8), (9, vi l9)] [] h := by
  intro k
  induction k with
  | zero => intro l0 l1 l2 l4 l6 l8 l9 h E; exact nomatch E
  | succ k hrc57 =>
    intro l0 l1 l2 l4 l6 l8 l9 h E
    rw [X0_shareOf_L57_s] at E
    refine go_iload (j := 6) (n := 59) rfl dX0_shareOf_57 rfl ?_
    refine go_iconst (z := 4) (n := 60) ⟨by decide, by decide⟩ dX0_shareOf_59 rfl ?_
    refine go_icmp_ge (tgt := 107) (n := 63) dX0_shareOf_60 rfl rfl (fun c1 => ?_) (fun c1 => ?_)
    · rw [if_pos c1] at E
      refine go_lload_n (j := 2) (n := 108) rfl rfl dX0_shareOf_107 rfl ?_
      refine go_aload_n (j := 0) (n := 109) rfl rfl dX0_shareOf_108 rfl ?_
      replace E := Option.bind_eq_some_iff.mp E; obtain ⟨v2, ev2, E⟩ := E
      refine go_getP (n := 112) ev2 fl_RX0_30 rfl dX0_shareOf_109 rfl ?_
      refine go_iload_n (j := 1) (n := 113) rfl rfl dX0_shareOf_112 rfl ?_
      replace E := Option.bind_eq_some_iff.mp E; obtain ⟨v3, ev3, E⟩ := E
      refine go_laload (n := 114) ev3 dX0_shareOf_113 rfl ?_
      refine go_lmul (n := 115) dX0_shareOf_114 rfl ?_
      refine go_lload (j := 3) (n := 117) rfl dX0_shareOf_115 rfl ?_
      replace E := Option.bind_eq_some_iff.mp E; obtain ⟨u4, eu4, E⟩ := E
      refine go_ldiv (n := 118) (xd_some eu4) dX0_shareOf_117 rfl ?_
      refine go_lstore (n := 120) (lv' := [(9, vl (w64 ((w64 (l2 * v3)).tdiv l4))), (0, vr (some l0)), (1, vi l1), (2, vl l2), (4, vl l4), (6, vl l6), (8, vi l8)]) dX0_shareOf_118 rfl (Nat.le_of_ble_eq_true rfl) rfl ?_
      refine go_iload (j := 6) (n := 122) rfl dX0_shareOf_120 rfl ?_
      refine go_i2l (n := 123) dX0_shareOf_122 rfl ?_
      refine go_lload (j := 5) (n := 125) rfl dX0_shareOf_123 rfl ?_
      refine go_lcmp (n := 126) dX0_shareOf_125 rfl ?_
      refine go_if_ge (tgt := 136) (n := 129) dX0_shareOf_126 rfl rfl (fun c5 => ?_) (fun c5 => ?_)
      · simp only [if_pos c5] at E
        refine go_lload (j := 0) (n := 138) rfl dX0_shareOf_136 rfl ?_
        cases E
        exact go_lreturn rfl dX0_shareOf_138
      · simp only [if_neg c5] at E
        refine go_lload (j := 0) (n := 131) rfl dX0_shareOf_129 rfl ?_
        refine go_lconst (w := 1) (n := 132) rfl dX0_shareOf_131 rfl ?_
        refine go_ladd (n := 133) dX0_shareOf_132 rfl ?_
        refine go_goto (tgt := 138) dX0_shareOf_133 rfl ?_
        cases E
        exact go_lreturn rfl dX0_shareOf_138
    · rw [if_neg c1] at E
      refine go_lload (j := 4) (n := 65) rfl dX0_shareOf_63 rfl ?_
      refine go_lload_n (j := 2) (n := 66) rfl rfl dX0_shareOf_65 rfl ?_
      refine go_aload_n (j := 0) (n := 67) rfl rfl dX0_shareOf_66 rfl ?_
      replace E := Option.bind_eq_some_iff.mp E; obtain ⟨v6, ev6, E⟩ := E
      refine go_getP (n := 70) ev6 fl_RX0_30 rfl dX0_shareOf_67 rfl ?_
      refine go_iload (j := 6) (n := 72) rfl dX0_shareOf_70 rfl ?_
      replace E := Option.bind_eq_some_iff.mp E; obtain ⟨v7, ev7, E⟩ := E
      refine go_laload (n := 73) ev7 dX0_shareOf_72 rfl ?_
      refine go_lmul (n := 74) dX0_shareOf_73 rfl ?_
      refine go_lload (j := 3) (n := 76) rfl dX0_shareOf_74 rfl ?_
      replace E := Option.bind_eq_some_iff.mp E; obtain ⟨u8, eu8, E⟩ := E
      refine go_ldiv (n := 77) (xd_some eu8) dX0_shareOf_76 rfl ?_
      refine go_lsub (n := 78) dX0_shareOf_77 rfl ?_
      refine go_lstore (n := 80) (lv' := [(6, vl (w64 (l6 - (w64 ((w64 (l2 * v7)).tdiv l4))))), (0, vr (some l0)), (1, vi l1), (2, vl l2), (4, vl l4), (8, vi l8), (9, vi l9)]) dX0_shareOf_78 rfl (Nat.le_of_ble_eq_true rfl) rfl ?_
      refine go_iload (j := 6) (n := 82) rfl dX0_shareOf_80 rfl ?_
      refine go_iload_n (j := 2) (n := 83) rfl rfl dX0_shareOf_82 rfl ?_
      refine go_icmp_ge (tgt := 101) (n := 86) dX0_shareOf_83 rfl rfl (fun c9 => ?_) (fun c9 => ?_)
      · rw [if_pos c9] at E
        refine go_pick (lv' := [(0, vr (some l0)), (1, vi l1), (2, vl l2), (4, vl l4), (6, vl (w64 (l6 - (w64 ((w64 (l2 * v7)).tdiv l4))))), (8, vi l8), (9, vi l9)]) [1, 2, 3, 4, 0, 5, 6] rfl ?_
        exact SX0_shareOf_L101   _ hrc57 _ _ _ _ _ _ _  _ E
      · rw [if_neg c9] at E
        refine go_aload_n (j := 1) (n := 87) rfl rfl dX0_shareOf_86 rfl ?_
        replace E := Option.bind_eq_some_iff.mp E; obtain ⟨v10, ev10, E⟩ := E
        refine go_getP (n := 90) ev10 fl_RX0_30 rfl dX0_shareOf_87 rfl ?_
        refine go_iload (j := 6) (n := 92) rfl dX0_shareOf_90 rfl ?_
        replace E := Option.bind_eq_some_iff.mp E; obtain ⟨v11, ev11, E⟩ := E
        refine go_laload (n := 93) ev11 dX0_shareOf_92 rfl ?_
        refine go_lconst (w := 0) (n := 94) rfl dX0_shareOf_93 rfl ?_
        refine go_lcmp (n := 95) dX0_shareOf_94 rfl ?_
        refine go_if_le (tgt := 101) (n := 98) dX0_shareOf_95 rfl rfl (fun c12 => ?_) (fun c12 => ?_)
        · simp only [if_pos c12] at E
          refine go_pick (lv' := [(0, vr (some l0)), (1, vi l1), (2, vl l2), (4, vl l4), (6, vl (w64 (l6 - (w64 ((w64 (l2 * v7)).tdiv l4))))), (8, vi l8), (9, vi l9)]) [1, 2, 3, 4, 0, 5, 6] rfl ?_
          exact SX0_shareOf_L101   _ hrc57 _ _ _ _ _ _ _  _ E
        · simp only [if_neg c12] at E
          refine go_iinc (j := 5) (n := 101) (lv' := [(8, vi (w32 (l8 + 1))), (6, vl (w64 (l6 - (w64 ((w64 (l2 * v7)).tdiv l4))))), (0, vr (some l0)), (1, vi l1), (2, vl l2), (4, vl l4), (9, vi l9)]) rfl dX0_shareOf_98 rfl (Nat.le_of_ble_eq_true rfl) rfl ?_
          refine go_pick (lv' := [(0, vr (some l0)), (1, vi l1), (2, vl l2), (4, vl l4), (6, vl (w64 (l6 - (w64 ((w64 (l2 * v7)).tdiv l4))))), (8, vi (w32 (l8 + 1))), (9, vi l9)]) [2, 3, 4, 5, 1, 0, 6] rfl ?_
          exact SX0_shareOf_L101   _ hrc57 _ _ _ _ _ _ _  _ E
noncomputable def X0_shareOf_L6 (F : Nat)   (k : Nat) : Nat → Int → Int → Int → Int → HP → Option (Int × HP) :=
  Nat.rec (motive := fun _ => Nat → Int → Int → Int → Int → HP → Option (Int × HP)) (fun _ _ _ _ _ _ => none) (fun _ rc6 l0 l1 l2 l4 l6 h =>
    if 4 ≤ l6 then
      if (xcmp l4 0) ≤ 0 then
        some (0, h)
      else
        if l1 < 0 then
          some (0, h)
        else
          if l1 < 4 then
            X0_shareOf_L57 F F l0 l1 l2 l4 l2 0 0 h
          else
            some (0, h)
    else
      (xgP h (some l0) 0 10 8).bind fun v5 =>
      (xaJ h v5 l6).bind fun v6 =>
      rc6 l0 l1 l2 (w64 (l4 + v6)) (w32 (l6 + 1)) h) k
theorem X0_shareOf_L6_s (F : Nat)   (k : Nat) (l0 : Nat) (l1 : Int) (l2 : Int) (l4 : Int) (l6 : Int)  (h : HP) : X0_shareOf_L6 F   (k + 1) l0 l1 l2 l4 l6 h =
    if 4 ≤ l6 then
      if (xcmp l4 0) ≤ 0 then
        some (0, h)
      else
        if l1 < 0 then
          some (0, h)
        else
          if l1 < 4 then
            X0_shareOf_L57 F F l0 l1 l2 l4 l2 0 0 h
          else
            some (0, h)
    else
      (xgP h (some l0) 0 10 8).bind fun v5 =>
      (xaJ h v5 l6).bind fun v6 =>
      (X0_shareOf_L6 F k) l0 l1 l2 (w64 (l4 + v6)) (w32 (l6 + 1)) h := rfl
set_option maxRecDepth 100000 in
theorem SX0_shareOf_L6 {K : Ctx} {F : Nat} {r : Int} {hf : HP}     : ∀ (k : Nat) (l0 : Nat) (l1 : Int) (l2 : Int) (l4 : Int) (l6 : Int)  (h : HP), X0_shareOf_L6 F   k l0 l1 l2 l4 l6 h = some (r, hf) → Go K MX0_shareOf (QM K (some (vl r)) hf) hf 6 [(0, vr (some l0)), (1, vi l1), (2, vl l2), (4, vl l4), (6, vi l6)] [] h := by
  intro k
  induction k with
  | zero => intro l0 l1 l2 l4 l6 h E; exact nomatch E
  | succ k hrc6 =>
    intro l0 l1 l2 l4 l6 h E
    rw [X0_shareOf_L6_s] at E
    refine go_iload (j := 4) (n := 8) rfl dX0_shareOf_6 rfl ?_
    refine go_iconst (z := 4) (n := 9) ⟨by decide, by decide⟩ dX0_shareOf_8 rfl ?_
    refine go_icmp_ge (tgt := 30) (n := 12) dX0_shareOf_9 rfl rfl (fun c1 => ?_) (fun c1 => ?_)
    · rw [if_pos c1] at E
      refine go_lload (j := 3) (n := 32) rfl dX0_shareOf_30 rfl ?_
      refine go_lconst (w := 0) (n := 33) rfl dX0_shareOf_32 rfl ?_
      refine go_lcmp (n := 34) dX0_shareOf_33 rfl ?_
      refine go_if_le (tgt := 46) (n := 37) dX0_shareOf_34 rfl rfl (fun c2 => ?_) (fun c2 => ?_)
      · rw [if_pos c2] at E
        refine go_lconst (w := 0) (n := 47) rfl dX0_shareOf_46 rfl ?_
        cases E
        exact go_lreturn rfl dX0_shareOf_47
      · rw [if_neg c2] at E
        refine go_iload_n (j := 1) (n := 38) rfl rfl dX0_shareOf_37 rfl ?_
        refine go_if_lt (tgt := 46) (n := 41) dX0_shareOf_38 rfl rfl (fun c3 => ?_) (fun c3 => ?_)
        · rw [if_pos c3] at E
          refine go_lconst (w := 0) (n := 47) rfl dX0_shareOf_46 rfl ?_
          cases E
          exact go_lreturn rfl dX0_shareOf_47
        · rw [if_neg c3] at E
          refine go_iload_n (j := 1) (n := 42) rfl rfl dX0_shareOf_41 rfl ?_
          refine go_iconst (z := 4) (n := 43) ⟨by decide, by decide⟩ dX0_shareOf_42 rfl ?_
          refine go_icmp_lt (tgt := 48) (n := 46) dX0_shareOf_43 rfl rfl (fun c4 => ?_) (fun c4 => ?_)
          · rw [if_pos c4] at E
            refine go_lload_n (j := 2) (n := 49) rfl rfl dX0_shareOf_48 rfl ?_
            refine go_lstore (n := 51) (lv' := [(6, vl l2), (0, vr (some l0)), (1, vi l1), (2, vl l2), (4, vl l4)]) dX0_shareOf_49 rfl (Nat.le_of_ble_eq_true rfl) rfl ?_
            refine go_iconst (z := 0) (n := 52) ⟨by decide, by decide⟩ dX0_shareOf_51 rfl ?_
            refine go_istore (n := 54) (lv' := [(8, vi 0), (6, vl l2), (0, vr (some l0)), (1, vi l1), (2, vl l2), (4, vl l4)]) dX0_shareOf_52 rfl (Nat.le_of_ble_eq_true rfl) rfl ?_
            refine go_iconst (z := 0) (n := 55) ⟨by decide, by decide⟩ dX0_shareOf_54 rfl ?_
            refine go_istore (n := 57) (lv' := [(9, vi 0), (8, vi 0), (6, vl l2), (0, vr (some l0)), (1, vi l1), (2, vl l2), (4, vl l4)]) dX0_shareOf_55 rfl (Nat.le_of_ble_eq_true rfl) rfl ?_
            refine go_pick (lv' := [(0, vr (some l0)), (1, vi l1), (2, vl l2), (4, vl l4), (6, vl l2), (8, vi 0), (9, vi 0)]) [3, 4, 5, 6, 2, 1, 0] rfl ?_
            exact SX0_shareOf_L57     F _ _ _ _ _ _ _ _ E
          · rw [if_neg c4] at E
            refine go_lconst (w := 0) (n := 47) rfl dX0_shareOf_46 rfl ?_
            cases E
            exact go_lreturn rfl dX0_shareOf_47
    · rw [if_neg c1] at E
      refine go_lload (j := 3) (n := 14) rfl dX0_shareOf_12 rfl ?_
      refine go_aload_n (j := 0) (n := 15) rfl rfl dX0_shareOf_14 rfl ?_
      replace E := Option.bind_eq_some_iff.mp E; obtain ⟨v5, ev5, E⟩ := E
      refine go_getP (n := 18) ev5 fl_RX0_30 rfl dX0_shareOf_15 rfl ?_
      refine go_iload (j := 4) (n := 20) rfl dX0_shareOf_18 rfl ?_
      replace E := Option.bind_eq_some_iff.mp E; obtain ⟨v6, ev6, E⟩ := E
      refine go_laload (n := 21) ev6 dX0_shareOf_20 rfl ?_
      refine go_ladd (n := 22) dX0_shareOf_21 rfl ?_
      refine go_lstore (n := 24) (lv' := [(4, vl (w64 (l4 + v6))), (0, vr (some l0)), (1, vi l1), (2, vl l2), (6, vi l6)]) dX0_shareOf_22 rfl (Nat.le_of_ble_eq_true rfl) rfl ?_
      refine go_iinc (j := 4) (n := 27) (lv' := [(6, vi (w32 (l6 + 1))), (4, vl (w64 (l4 + v6))), (0, vr (some l0)), (1, vi l1), (2, vl l2)]) rfl dX0_shareOf_24 rfl (Nat.le_of_ble_eq_true rfl) rfl ?_
      refine go_goto (tgt := 6) dX0_shareOf_27 rfl ?_
      refine go_pick (lv' := [(0, vr (some l0)), (1, vi l1), (2, vl l2), (4, vl (w64 (l4 + v6))), (6, vi (w32 (l6 + 1)))]) [2, 3, 4, 1, 0] rfl ?_
      exact hrc6 _ _ _ _ _ _ E
noncomputable def X0_shareOf (F : Nat)   (l0 : Nat) (l1 : Int) (l2 : Int)  (h : HP) : Option (Int × HP) :=
  X0_shareOf_L6 F F l0 l1 l2 0 0 h
set_option maxRecDepth 100000 in
theorem SX0_shareOf {K : Ctx} {F : Nat} {r : Int} {hf : HP}     (l0 : Nat) (l1 : Int) (l2 : Int)  (h : HP) (E : X0_shareOf F   l0 l1 l2 h = some (r, hf)) : Go K MX0_shareOf (QM K (some (vl r)) hf) hf 0 [(0, vr (some l0)), (1, vi l1), (2, vl l2)] [] h := by
  unfold X0_shareOf at E
  refine go_lconst (w := 0) (n := 1) rfl dX0_shareOf_0 rfl ?_
  refine go_lstore (n := 3) (lv' := [(4, vl 0), (0, vr (some l0)), (1, vi l1), (2, vl l2)]) dX0_shareOf_1 rfl (Nat.le_of_ble_eq_true rfl) rfl ?_
  refine go_iconst (z := 0) (n := 4) ⟨by decide, by decide⟩ dX0_shareOf_3 rfl ?_
  refine go_istore (n := 6) (lv' := [(6, vi 0), (4, vl 0), (0, vr (some l0)), (1, vi l1), (2, vl l2)]) dX0_shareOf_4 rfl (Nat.le_of_ble_eq_true rfl) rfl ?_
  refine go_pick (lv' := [(0, vr (some l0)), (1, vi l1), (2, vl l2), (4, vl 0), (6, vi 0)]) [2, 3, 4, 1, 0] rfl ?_
  exact SX0_shareOf_L6     F _ _ _ _ _ _ E
theorem OX0_shareOf {F : Nat} {l0 : Nat} {l1 : Int} {l2 : Int} {h hf : HP} {r : Int} (e : X0_shareOf F l0 l1 l2 h = some (r, hf)) : Ok MX0_shareOf [vr (some l0), vi l1, vl l2] (some (vl r)) h hf := fun K _ _ _ => SX0_shareOf l0 l1 l2 h e
abbrev MX0_partByWeight : MI := (RX0, cX0_partByWeight, 3, none, 5, none, "partByWeight")
noncomputable def X0_partByWeight_L2 (F : Nat)   (k : Nat) : Nat → Option Nat → Int → HP → Option (Unit × HP) :=
  Nat.rec (motive := fun _ => Nat → Option Nat → Int → HP → Option (Unit × HP)) (fun _ _ _ _ => none) (fun _ rc2 l0 l1 l2 h =>
    if 4 ≤ l2 then
      some ((), h)
    else
      (xgP h (some l0) 0 10 8).bind fun v2 =>
      xb (X0_wantedByAll F l1 l2 h) fun v3 h4 =>
      (xgP h4 (some l0) 0 10 2).bind fun v5 =>
      (xaI h4 v5 100 l2).bind fun v6 =>
      (xsJ h4 v2 l2 (w64 (v3 * v6))).bind fun h7 =>
      rc2 l0 l1 (w32 (l2 + 1)) h7) k
theorem X0_partByWeight_L2_s (F : Nat)   (k : Nat) (l0 : Nat) (l1 : Option Nat) (l2 : Int)  (h : HP) : X0_partByWeight_L2 F   (k + 1) l0 l1 l2 h =
    if 4 ≤ l2 then
      some ((), h)
    else
      (xgP h (some l0) 0 10 8).bind fun v2 =>
      xb (X0_wantedByAll F l1 l2 h) fun v3 h4 =>
      (xgP h4 (some l0) 0 10 2).bind fun v5 =>
      (xaI h4 v5 100 l2).bind fun v6 =>
      (xsJ h4 v2 l2 (w64 (v3 * v6))).bind fun h7 =>
      (X0_partByWeight_L2 F k) l0 l1 (w32 (l2 + 1)) h7 := rfl
set_option maxRecDepth 100000 in
theorem SX0_partByWeight_L2 {K : Ctx} {F : Nat} {r : Unit} {hf : HP}     : ∀ (k : Nat) (l0 : Nat) (l1 : Option Nat) (l2 : Int)  (h : HP), X0_partByWeight_L2 F   k l0 l1 l2 h = some (r, hf) → Go K MX0_partByWeight (QM K none hf) hf 2 [(0, vr (some l0)), (1, vr l1), (2, vi l2)] [] h := by
  intro k
  induction k with
  | zero => intro l0 l1 l2 h E; exact nomatch E
  | succ k hrc2 =>
    intro l0 l1 l2 h E
    rw [X0_partByWeight_L2_s] at E
    refine go_iload_n (j := 2) (n := 3) rfl rfl dX0_partByWeight_2 rfl ?_
    refine go_iconst (z := 4) (n := 4) ⟨by decide, by decide⟩ dX0_partByWeight_3 rfl ?_
    refine go_icmp_ge (tgt := 32) (n := 7) dX0_partByWeight_4 rfl rfl (fun c1 => ?_) (fun c1 => ?_)
    · rw [if_pos c1] at E
      cases E
      exact go_return rfl dX0_partByWeight_32
    · rw [if_neg c1] at E
      refine go_aload_n (j := 0) (n := 8) rfl rfl dX0_partByWeight_7 rfl ?_
      replace E := Option.bind_eq_some_iff.mp E; obtain ⟨v2, ev2, E⟩ := E
      refine go_getP (n := 11) ev2 fl_RX0_30 rfl dX0_partByWeight_8 rfl ?_
      refine go_iload_n (j := 2) (n := 12) rfl rfl dX0_partByWeight_11 rfl ?_
      refine go_aload_n (j := 1) (n := 13) rfl rfl dX0_partByWeight_12 rfl ?_
      refine go_iload_n (j := 2) (n := 14) rfl rfl dX0_partByWeight_13 rfl ?_
      replace E := xb_some E; obtain ⟨v3, h4, ev3, E⟩ := E
      refine go_callS (y := yX0_wantedByAll) (n := 17) (st := [vi l2, vr v2]) (as := [vr l1, vi l2]) (stk9 := [vl v3, vi l2, vr v2]) (OX0_wantedByAll ev3) yw_X0_wantedByAll wml_RX0_66 wst_X0_wantedByAll (Nat.le_of_ble_eq_true rfl) rfl ⟨Nat.le_of_ble_eq_true rfl, Nat.le_of_ble_eq_true rfl⟩ (Nat.le_of_ble_eq_true rfl) dX0_partByWeight_14 rfl rfl rfl ?_
      refine go_aload_n (j := 0) (n := 18) rfl rfl dX0_partByWeight_17 rfl ?_
      replace E := Option.bind_eq_some_iff.mp E; obtain ⟨v5, ev5, E⟩ := E
      refine go_getP (n := 21) ev5 fl_RX0_18 rfl dX0_partByWeight_18 rfl ?_
      refine go_iload_n (j := 2) (n := 22) rfl rfl dX0_partByWeight_21 rfl ?_
      replace E := Option.bind_eq_some_iff.mp E; obtain ⟨v6, ev6, E⟩ := E
      refine go_iaload (n := 23) ev6 dX0_partByWeight_22 rfl ?_
      refine go_i2l (n := 24) dX0_partByWeight_23 rfl ?_
      refine go_lmul (n := 25) dX0_partByWeight_24 rfl ?_
      replace E := Option.bind_eq_some_iff.mp E; obtain ⟨h7, eh7, E⟩ := E
      refine go_lastore (n := 26) eh7 dX0_partByWeight_25 rfl ?_
      refine go_iinc (j := 2) (n := 29) (lv' := [(2, vi (w32 (l2 + 1))), (0, vr (some l0)), (1, vr l1)]) rfl dX0_partByWeight_26 rfl (Nat.le_of_ble_eq_true rfl) rfl ?_
      refine go_goto (tgt := 2) dX0_partByWeight_29 rfl ?_
      refine go_pick (lv' := [(0, vr (some l0)), (1, vr l1), (2, vi (w32 (l2 + 1)))]) [1, 2, 0] rfl ?_
      exact hrc2 _ _ _ _ E
noncomputable def X0_partByWeight (F : Nat)   (l0 : Nat) (l1 : Option Nat)  (h : HP) : Option (Unit × HP) :=
  X0_partByWeight_L2 F F l0 l1 0 h
set_option maxRecDepth 100000 in
theorem SX0_partByWeight {K : Ctx} {F : Nat} {r : Unit} {hf : HP}     (l0 : Nat) (l1 : Option Nat)  (h : HP) (E : X0_partByWeight F   l0 l1 h = some (r, hf)) : Go K MX0_partByWeight (QM K none hf) hf 0 [(0, vr (some l0)), (1, vr l1)] [] h := by
  unfold X0_partByWeight at E
  refine go_iconst (z := 0) (n := 1) ⟨by decide, by decide⟩ dX0_partByWeight_0 rfl ?_
  refine go_istore_n (n := 2) (lv' := [(2, vi 0), (0, vr (some l0)), (1, vr l1)]) rfl dX0_partByWeight_1 rfl (Nat.le_of_ble_eq_true rfl) rfl ?_
  refine go_pick (lv' := [(0, vr (some l0)), (1, vr l1), (2, vi 0)]) [1, 2, 0] rfl ?_
  exact SX0_partByWeight_L2     F _ _ _ _ E
theorem OX0_partByWeight {F : Nat} {l0 : Nat} {l1 : Option Nat} {h hf : HP} {r : Unit} (e : X0_partByWeight F l0 l1 h = some (r, hf)) : Ok MX0_partByWeight [vr (some l0), vr l1] none h hf := fun K _ _ _ => SX0_partByWeight l0 l1 h e
theorem yw_X0_partByMinutes : YW yX0_partByMinutes cX0_partByMinutes 5 none 1 := ⟨bw_of 747 (by decide +kernel) rfl, bw_of 125 (by decide +kernel) rfl, ⟨by decide +kernel, by decide +kernel, by decide +kernel⟩, by decide +kernel⟩
theorem wml_RX0_70 : Cond.methodLink RX0 70 yX0_partByMinutes ∈ BW := bw_of 744 (by decide +kernel) rfl
theorem wim_X0_partByMinutes : Cond.instanceMethod yX0_partByMinutes ∈ BW := bw_of 746 (by decide +kernel) rfl
theorem wse_X0_partByMinutes : Cond.selects RX0 yX0_partByMinutes yX0_partByMinutes ∈ BW := bw_of 3 (by decide +kernel) rfl
theorem yw_X0_shareOf : YW yX0_shareOf cX0_shareOf 11 (some .long) 2 := ⟨bw_of 1638 (by decide +kernel) rfl, bw_of 125 (by decide +kernel) rfl, ⟨by decide +kernel, by decide +kernel, by decide +kernel⟩, by decide +kernel⟩
theorem wml_RX0_97 : Cond.methodLink RX0 97 yX0_shareOf ∈ BW := bw_of 1635 (by decide +kernel) rfl
theorem wim_X0_shareOf : Cond.instanceMethod yX0_shareOf ∈ BW := bw_of 1637 (by decide +kernel) rfl
theorem wse_X0_shareOf : Cond.selects RX0 yX0_shareOf yX0_shareOf ∈ BW := bw_of 50 (by decide +kernel) rfl
theorem yw_X0_partByWeight : YW yX0_partByWeight cX0_partByWeight 3 none 1 := ⟨bw_of 1642 (by decide +kernel) rfl, bw_of 125 (by decide +kernel) rfl, ⟨by decide +kernel, by decide +kernel, by decide +kernel⟩, by decide +kernel⟩
theorem wml_RX0_101 : Cond.methodLink RX0 101 yX0_partByWeight ∈ BW := bw_of 1639 (by decide +kernel) rfl
theorem wim_X0_partByWeight : Cond.instanceMethod yX0_partByWeight ∈ BW := bw_of 1641 (by decide +kernel) rfl
theorem wse_X0_partByWeight : Cond.selects RX0 yX0_partByWeight yX0_partByWeight ∈ BW := bw_of 51 (by decide +kernel) rfl
abbrev MX0_costOf : MI := (RX0, cX0_costOf, 7, (some .long), 6, none, "costOf")
noncomputable def X0_costOf (F : Nat)   (l0 : Nat) (l1 : Option Nat) (l2 : Int)  (h : HP) : Option (Int × HP) :=
  xb (X0_wantedByAll F l1 l2 h) fun v1 h2 =>
  if (xcmp v1 0) = 0 then
    some (0, h2)
  else
    if l2 < 0 then
      some (0, h2)
    else
      if l2 < 4 then
        (xrc h2 (some l0) 0 10).bind fun a8 =>
        xb (X0_partByMinutes F a8 l1 h2) fun v6 h7 =>
        (xgP h7 (some l0) 0 10 3).bind fun v9 =>
        (xaI h7 v9 100 l2).bind fun v10 =>
        (xgI h7 (some l0) 0 10 6).bind fun v11 =>
        (xrc h7 (some l0) 0 10).bind fun a14 =>
        xb (X0_shareOf F a14 l2 v11 h7) fun v12 h13 =>
        (xrc h13 (some l0) 0 10).bind fun a17 =>
        xb (X0_partByWeight F a17 l1 h13) fun v15 h16 =>
        (xgI h16 (some l0) 0 10 7).bind fun v18 =>
        (xrc h16 (some l0) 0 10).bind fun a21 =>
        xb (X0_shareOf F a21 l2 v18 h16) fun v19 h20 =>
        some (w64 ((w64 ((w64 (v10 * v1)) + v12)) + v19), h20)
      else
        some (0, h2)
set_option maxRecDepth 100000 in
theorem SX0_costOf {K : Ctx} {F : Nat} {r : Int} {hf : HP}     (l0 : Nat) (l1 : Option Nat) (l2 : Int)  (h : HP) (E : X0_costOf F   l0 l1 l2 h = some (r, hf)) : Go K MX0_costOf (QM K (some (vl r)) hf) hf 0 [(0, vr (some l0)), (1, vr l1), (2, vi l2)] [] h := by
  unfold X0_costOf at E
  refine go_aload_n (j := 1) (n := 1) rfl rfl dX0_costOf_0 rfl ?_
  refine go_iload_n (j := 2) (n := 2) rfl rfl dX0_costOf_1 rfl ?_
  replace E := xb_some E; obtain ⟨v1, h2, ev1, E⟩ := E
  refine go_callS (y := yX0_wantedByAll) (n := 5) (st := []) (as := [vr l1, vi l2]) (stk9 := [vl v1]) (OX0_wantedByAll ev1) yw_X0_wantedByAll wml_RX0_66 wst_X0_wantedByAll (Nat.le_of_ble_eq_true rfl) rfl ⟨Nat.le_of_ble_eq_true rfl, Nat.le_of_ble_eq_true rfl⟩ (Nat.le_of_ble_eq_true rfl) dX0_costOf_2 rfl rfl rfl ?_
  refine go_lstore_n (n := 6) (lv' := [(3, vl v1), (0, vr (some l0)), (1, vr l1), (2, vi l2)]) rfl dX0_costOf_5 rfl (Nat.le_of_ble_eq_true rfl) rfl ?_
  refine go_lload_n (j := 0) (n := 7) rfl rfl dX0_costOf_6 rfl ?_
  refine go_lconst (w := 0) (n := 8) rfl dX0_costOf_7 rfl ?_
  refine go_lcmp (n := 9) dX0_costOf_8 rfl ?_
  refine go_if_eq (tgt := 21) (n := 12) dX0_costOf_9 rfl rfl (fun c3 => ?_) (fun c3 => ?_)
  · rw [if_pos c3] at E
    refine go_lconst (w := 0) (n := 22) rfl dX0_costOf_21 rfl ?_
    cases E
    exact go_lreturn rfl dX0_costOf_22
  · rw [if_neg c3] at E
    refine go_iload_n (j := 3) (n := 13) rfl rfl dX0_costOf_12 rfl ?_
    refine go_if_lt (tgt := 21) (n := 16) dX0_costOf_13 rfl rfl (fun c4 => ?_) (fun c4 => ?_)
    · rw [if_pos c4] at E
      refine go_lconst (w := 0) (n := 22) rfl dX0_costOf_21 rfl ?_
      cases E
      exact go_lreturn rfl dX0_costOf_22
    · rw [if_neg c4] at E
      refine go_iload_n (j := 3) (n := 17) rfl rfl dX0_costOf_16 rfl ?_
      refine go_iconst (z := 4) (n := 18) ⟨by decide, by decide⟩ dX0_costOf_17 rfl ?_
      refine go_icmp_lt (tgt := 23) (n := 21) dX0_costOf_18 rfl rfl (fun c5 => ?_) (fun c5 => ?_)
      · rw [if_pos c5] at E
        refine go_aload_n (j := 1) (n := 24) rfl rfl dX0_costOf_23 rfl ?_
        refine go_aload_n (j := 2) (n := 25) rfl rfl dX0_costOf_24 rfl ?_
        replace E := Option.bind_eq_some_iff.mp E; obtain ⟨a8, ea8, E⟩ := E
        obtain ⟨fa8, ga8⟩ := xrc_some ea8
        replace E := xb_some E; obtain ⟨v6, h7, ev6, E⟩ := E
        refine go_callV (y := yX0_partByMinutes) (n := 28) (st := []) (as := [vr l1]) (stk9 := []) (OX0_partByMinutes ev6) yw_X0_partByMinutes ci_0 ga8 wml_RX0_70 wim_X0_partByMinutes wse_X0_partByMinutes (Nat.le_of_ble_eq_true rfl) rfl ⟨Nat.le_of_ble_eq_true rfl, Nat.le_of_ble_eq_true rfl⟩ (Nat.le_of_ble_eq_true rfl) dX0_costOf_25 rfl (by cases fa8; rfl) rfl ?_
        refine go_aload_n (j := 1) (n := 29) rfl rfl dX0_costOf_28 rfl ?_
        replace E := Option.bind_eq_some_iff.mp E; obtain ⟨v9, ev9, E⟩ := E
        refine go_getP (n := 32) ev9 fl_RX0_21 rfl dX0_costOf_29 rfl ?_
        refine go_iload_n (j := 3) (n := 33) rfl rfl dX0_costOf_32 rfl ?_
        replace E := Option.bind_eq_some_iff.mp E; obtain ⟨v10, ev10, E⟩ := E
        refine go_iaload (n := 34) ev10 dX0_costOf_33 rfl ?_
        refine go_i2l (n := 35) dX0_costOf_34 rfl ?_
        refine go_lload_n (j := 0) (n := 36) rfl rfl dX0_costOf_35 rfl ?_
        refine go_lmul (n := 37) dX0_costOf_36 rfl ?_
        refine go_aload_n (j := 1) (n := 38) rfl rfl dX0_costOf_37 rfl ?_
        refine go_iload_n (j := 3) (n := 39) rfl rfl dX0_costOf_38 rfl ?_
        refine go_aload_n (j := 1) (n := 40) rfl rfl dX0_costOf_39 rfl ?_
        replace E := Option.bind_eq_some_iff.mp E; obtain ⟨v11, ev11, E⟩ := E
        refine go_getI (n := 43) ev11 fl_RX0_43 rfl dX0_costOf_40 rfl ?_
        refine go_i2l (n := 44) dX0_costOf_43 rfl ?_
        replace E := Option.bind_eq_some_iff.mp E; obtain ⟨a14, ea14, E⟩ := E
        obtain ⟨fa14, ga14⟩ := xrc_some ea14
        replace E := xb_some E; obtain ⟨v12, h13, ev12, E⟩ := E
        refine go_callV (y := yX0_shareOf) (n := 47) (st := [vl (w64 (v10 * v1))]) (as := [vi l2, vl v11]) (stk9 := [vl v12, vl (w64 (v10 * v1))]) (OX0_shareOf ev12) yw_X0_shareOf ci_0 ga14 wml_RX0_97 wim_X0_shareOf wse_X0_shareOf (Nat.le_of_ble_eq_true rfl) rfl ⟨Nat.le_of_ble_eq_true rfl, Nat.le_of_ble_eq_true rfl⟩ (Nat.le_of_ble_eq_true rfl) dX0_costOf_44 rfl (by cases fa14; rfl) rfl ?_
        refine go_ladd (n := 48) dX0_costOf_47 rfl ?_
        refine go_lstore (n := 50) (lv' := [(5, vl (w64 ((w64 (v10 * v1)) + v12))), (3, vl v1), (0, vr (some l0)), (1, vr l1), (2, vi l2)]) dX0_costOf_48 rfl (Nat.le_of_ble_eq_true rfl) rfl ?_
        refine go_aload_n (j := 2) (n := 51) rfl rfl dX0_costOf_50 rfl ?_
        refine go_aload_n (j := 3) (n := 52) rfl rfl dX0_costOf_51 rfl ?_
        replace E := Option.bind_eq_some_iff.mp E; obtain ⟨a17, ea17, E⟩ := E
        obtain ⟨fa17, ga17⟩ := xrc_some ea17
        replace E := xb_some E; obtain ⟨v15, h16, ev15, E⟩ := E
        refine go_callV (y := yX0_partByWeight) (n := 55) (st := []) (as := [vr l1]) (stk9 := []) (OX0_partByWeight ev15) yw_X0_partByWeight ci_0 ga17 wml_RX0_101 wim_X0_partByWeight wse_X0_partByWeight (Nat.le_of_ble_eq_true rfl) rfl ⟨Nat.le_of_ble_eq_true rfl, Nat.le_of_ble_eq_true rfl⟩ (Nat.le_of_ble_eq_true rfl) dX0_costOf_52 rfl (by cases fa17; rfl) rfl ?_
        refine go_lload (j := 0) (n := 57) rfl dX0_costOf_55 rfl ?_
        refine go_aload_n (j := 2) (n := 58) rfl rfl dX0_costOf_57 rfl ?_
        refine go_iload_n (j := 4) (n := 59) rfl rfl dX0_costOf_58 rfl ?_
        refine go_aload_n (j := 2) (n := 60) rfl rfl dX0_costOf_59 rfl ?_
        replace E := Option.bind_eq_some_iff.mp E; obtain ⟨v18, ev18, E⟩ := E
        refine go_getI (n := 63) ev18 fl_RX0_47 rfl dX0_costOf_60 rfl ?_
        refine go_i2l (n := 64) dX0_costOf_63 rfl ?_
        replace E := Option.bind_eq_some_iff.mp E; obtain ⟨a21, ea21, E⟩ := E
        obtain ⟨fa21, ga21⟩ := xrc_some ea21
        replace E := xb_some E; obtain ⟨v19, h20, ev19, E⟩ := E
        refine go_callV (y := yX0_shareOf) (n := 67) (st := [vl (w64 ((w64 (v10 * v1)) + v12))]) (as := [vi l2, vl v18]) (stk9 := [vl v19, vl (w64 ((w64 (v10 * v1)) + v12))]) (OX0_shareOf ev19) yw_X0_shareOf ci_0 ga21 wml_RX0_97 wim_X0_shareOf wse_X0_shareOf (Nat.le_of_ble_eq_true rfl) rfl ⟨Nat.le_of_ble_eq_true rfl, Nat.le_of_ble_eq_true rfl⟩ (Nat.le_of_ble_eq_true rfl) dX0_costOf_64 rfl (by cases fa21; rfl) rfl ?_
        refine go_ladd (n := 68) dX0_costOf_67 rfl ?_
        cases E
        exact go_lreturn rfl dX0_costOf_68
      · rw [if_neg c5] at E
        refine go_lconst (w := 0) (n := 22) rfl dX0_costOf_21 rfl ?_
        cases E
        exact go_lreturn rfl dX0_costOf_22
theorem OX0_costOf {F : Nat} {l0 : Nat} {l1 : Option Nat} {l2 : Int} {h hf : HP} {r : Int} (e : X0_costOf F l0 l1 l2 h = some (r, hf)) : Ok MX0_costOf [vr (some l0), vr l1, vi l2] (some (vl r)) h hf := fun K _ _ _ => SX0_costOf l0 l1 l2 h e
theorem fl_RX11_230 : FL RX11 230 4 12 4 true := ⟨RX4, TX4, ci_4, by decide, bw_of 524 (by decide +kernel) rfl, rfl, rfl⟩
theorem yw_X0_costOf : YW yX0_costOf cX0_costOf 7 (some .long) 2 := ⟨bw_of 1634 (by decide +kernel) rfl, bw_of 125 (by decide +kernel) rfl, ⟨by decide +kernel, by decide +kernel, by decide +kernel⟩, by decide +kernel⟩
theorem wml_RX11_252 : Cond.methodLink RX11 252 yX0_costOf ∈ BW := bw_of 1631 (by decide +kernel) rfl
theorem wim_X0_costOf : Cond.instanceMethod yX0_costOf ∈ BW := bw_of 1632 (by decide +kernel) rfl
theorem wse_X0_costOf : Cond.selects RX0 yX0_costOf yX0_costOf ∈ BW := bw_of 1633 (by decide +kernel) rfl
abbrev MX11_cost : MI := (RX11, cX11_cost, 2, (some .long), 13, some [], "cost")
noncomputable def X11_cost (F : Nat)   (l0 : Nat) (l1 : Int)  (h : HP) : Option ((String ⊕ Int) × HP) :=
  xth (X11_needPlace F l1 4 h) fun v1 h2 =>
  (xgP h2 (some l0) 11 6 2).bind fun v3 =>
  (xgP h2 v3 4 12 4).bind fun v4 =>
  (xgP h2 (some l0) 11 6 2).bind fun v5 =>
  (xgP h2 v5 4 12 1).bind fun v6 =>
  (xrc h2 v4 0 10).bind fun a9 =>
  xb (X0_costOf F a9 v6 l1 h2) fun v7 h8 =>
  some (.inr v7, h8)
set_option maxRecDepth 100000 in
theorem SX11_cost {K : Ctx} {F : Nat} {r : String ⊕ Int} {hf : HP}     (l0 : Nat) (l1 : Int)  (h : HP) (E : X11_cost F   l0 l1 h = some (r, hf)) : Go K MX11_cost (QMX K (rL r) hf) hf 0 [(0, vr (some l0)), (1, vi l1)] [] h := by
  unfold X11_cost at E
  refine go_iload_n (j := 1) (n := 1) rfl rfl dX11_cost_0 rfl ?_
  refine go_iconst (z := 4) (n := 2) ⟨by decide, by decide⟩ dX11_cost_1 rfl ?_
  replace E := xth_some E; rcases E with ⟨x10, ev1, rfl⟩ | ⟨v1, h2, ev1, E⟩
  · exact go_callXSt (y := yX11_needPlace) (as := [vi l1, vi 4]) (st := []) (OXX11_needPlace ev1) yw_X11_needPlace wml_RX11_54 wst_X11_needPlace (Nat.le_of_ble_eq_true rfl) rfl ⟨Nat.le_of_ble_eq_true rfl, Nat.le_of_ble_eq_true rfl⟩ (Nat.le_of_ble_eq_true rfl) dX11_cost_2 rfl rfl
  refine go_callXSr (y := yX11_needPlace) (n := 5) (st := []) (as := [vi l1, vi 4]) (stk9 := []) (OXX11_needPlace ev1) yw_X11_needPlace wml_RX11_54 wst_X11_needPlace (Nat.le_of_ble_eq_true rfl) rfl ⟨Nat.le_of_ble_eq_true rfl, Nat.le_of_ble_eq_true rfl⟩ (Nat.le_of_ble_eq_true rfl) dX11_cost_2 rfl rfl rfl ?_
  refine go_aload_n (j := 0) (n := 6) rfl rfl dX11_cost_5 rfl ?_
  replace E := Option.bind_eq_some_iff.mp E; obtain ⟨v3, ev3, E⟩ := E
  refine go_getP (n := 9) ev3 fl_RX11_23 rfl dX11_cost_6 rfl ?_
  replace E := Option.bind_eq_some_iff.mp E; obtain ⟨v4, ev4, E⟩ := E
  refine go_getP (n := 12) ev4 fl_RX11_230 rfl dX11_cost_9 rfl ?_
  refine go_aload_n (j := 0) (n := 13) rfl rfl dX11_cost_12 rfl ?_
  replace E := Option.bind_eq_some_iff.mp E; obtain ⟨v5, ev5, E⟩ := E
  refine go_getP (n := 16) ev5 fl_RX11_23 rfl dX11_cost_13 rfl ?_
  replace E := Option.bind_eq_some_iff.mp E; obtain ⟨v6, ev6, E⟩ := E
  refine go_getP (n := 19) ev6 fl_RX11_60 rfl dX11_cost_16 rfl ?_
  refine go_iload_n (j := 1) (n := 20) rfl rfl dX11_cost_19 rfl ?_
  replace E := Option.bind_eq_some_iff.mp E; obtain ⟨a9, ea9, E⟩ := E
  obtain ⟨fa9, ga9⟩ := xrc_some ea9
  replace E := xb_some E; obtain ⟨v7, h8, ev7, E⟩ := E
  refine go_callV (y := yX0_costOf) (n := 23) (st := []) (as := [vr v6, vi l1]) (stk9 := [vl v7]) (OX0_costOf ev7) yw_X0_costOf ci_0 ga9 wml_RX11_252 wim_X0_costOf wse_X0_costOf (Nat.le_of_ble_eq_true rfl) rfl ⟨Nat.le_of_ble_eq_true rfl, Nat.le_of_ble_eq_true rfl⟩ (Nat.le_of_ble_eq_true rfl) dX11_cost_20 rfl (by cases fa9; rfl) rfl ?_
  cases E
  exact go_ret (go_lreturn rfl dX11_cost_23)
theorem OXX11_cost {F : Nat} {l0 : Nat} {l1 : Int} {h hf : HP} {r : String ⊕ Int} (e : X11_cost F l0 l1 h = some (r, hf)) : OkX MX11_cost [vr (some l0), vi l1] (rL r) h hf := fun K _ _ _ => SX11_cost l0 l1 h e
theorem fl_RX3_77 : FL RX3 77 2 18 9 false := ⟨RX2, TX2, ci_2, by decide, bw_of 330 (by decide +kernel) rfl, rfl, rfl⟩
abbrev MX3_waiting : MI := (RX3, cX3_waiting, 3, (some .int), 3, none, "waiting")
noncomputable def X3_waiting_L26 (F : Nat)  (rc4 : Nat → Int → Int → HP → Option (Int × HP)) (l0 : Nat) (l1 : Int) (l2 : Int)  (h : HP) : Option (Int × HP) :=
  rc4 l0 l1 (w32 (l2 + 1)) h
set_option maxRecDepth 100000 in
theorem SX3_waiting_L26 {K : Ctx} {F : Nat} {r : Int} {hf : HP}   (rc4 : Nat → Int → Int → HP → Option (Int × HP)) (hrc4 : ∀ l0 l1 l2 h, rc4 l0 l1 l2 h = some (r, hf) → Go K MX3_waiting (QM K (some (vi r)) hf) hf 4 [(0, vr (some l0)), (1, vi l1), (2, vi l2)] [] h) (l0 : Nat) (l1 : Int) (l2 : Int)  (h : HP) (E : X3_waiting_L26 F  rc4 l0 l1 l2 h = some (r, hf)) : Go K MX3_waiting (QM K (some (vi r)) hf) hf 26 [(0, vr (some l0)), (1, vi l1), (2, vi l2)] [] h := by
  unfold X3_waiting_L26 at E
  refine go_iinc (j := 2) (n := 29) (lv' := [(2, vi (w32 (l2 + 1))), (0, vr (some l0)), (1, vi l1)]) rfl dX3_waiting_26 rfl (Nat.le_of_ble_eq_true rfl) rfl ?_
  refine go_goto (tgt := 4) dX3_waiting_29 rfl ?_
  refine go_pick (lv' := [(0, vr (some l0)), (1, vi l1), (2, vi (w32 (l2 + 1)))]) [1, 2, 0] rfl ?_
  exact hrc4 _ _ _ _ E
noncomputable def X3_waiting_L4 (F : Nat)   (k : Nat) : Nat → Int → Int → HP → Option (Int × HP) :=
  Nat.rec (motive := fun _ => Nat → Int → Int → HP → Option (Int × HP)) (fun _ _ _ _ => none) (fun _ rc4 l0 l1 l2 h =>
    (xgI h (some l0) 3 7 5).bind fun v1 =>
    if v1 ≤ l2 then
      some (l1, h)
    else
      (xrc h (some l0) 3 7).bind fun a5 =>
      xb (X3_at F a5 l2 h) fun v3 h4 =>
      (xgI h4 v3 2 18 9).bind fun v6 =>
      X3_waiting_L26 F rc4 l0 (if v6 = 0 then w32 (l1 + 1) else l1) l2 h4) k
theorem X3_waiting_L4_s (F : Nat)   (k : Nat) (l0 : Nat) (l1 : Int) (l2 : Int)  (h : HP) : X3_waiting_L4 F   (k + 1) l0 l1 l2 h =
    (xgI h (some l0) 3 7 5).bind fun v1 =>
    if v1 ≤ l2 then
      some (l1, h)
    else
      (xrc h (some l0) 3 7).bind fun a5 =>
      xb (X3_at F a5 l2 h) fun v3 h4 =>
      (xgI h4 v3 2 18 9).bind fun v6 =>
      X3_waiting_L26 F (X3_waiting_L4 F k) l0 (if v6 = 0 then w32 (l1 + 1) else l1) l2 h4 := rfl
set_option maxRecDepth 100000 in
theorem SX3_waiting_L4 {K : Ctx} {F : Nat} {r : Int} {hf : HP}     : ∀ (k : Nat) (l0 : Nat) (l1 : Int) (l2 : Int)  (h : HP), X3_waiting_L4 F   k l0 l1 l2 h = some (r, hf) → Go K MX3_waiting (QM K (some (vi r)) hf) hf 4 [(0, vr (some l0)), (1, vi l1), (2, vi l2)] [] h := by
  intro k
  induction k with
  | zero => intro l0 l1 l2 h E; exact nomatch E
  | succ k hrc4 =>
    intro l0 l1 l2 h E
    rw [X3_waiting_L4_s] at E
    refine go_iload_n (j := 2) (n := 5) rfl rfl dX3_waiting_4 rfl ?_
    refine go_aload_n (j := 0) (n := 6) rfl rfl dX3_waiting_5 rfl ?_
    replace E := Option.bind_eq_some_iff.mp E; obtain ⟨v1, ev1, E⟩ := E
    refine go_getI (n := 9) ev1 fl_RX3_36 rfl dX3_waiting_6 rfl ?_
    refine go_icmp_ge (tgt := 32) (n := 12) dX3_waiting_9 rfl rfl (fun c2 => ?_) (fun c2 => ?_)
    · rw [if_pos c2] at E
      refine go_iload_n (j := 1) (n := 33) rfl rfl dX3_waiting_32 rfl ?_
      cases E
      exact go_ireturn rfl dX3_waiting_33
    · rw [if_neg c2] at E
      refine go_aload_n (j := 0) (n := 13) rfl rfl dX3_waiting_12 rfl ?_
      refine go_iload_n (j := 2) (n := 14) rfl rfl dX3_waiting_13 rfl ?_
      replace E := Option.bind_eq_some_iff.mp E; obtain ⟨a5, ea5, E⟩ := E
      obtain ⟨fa5, ga5⟩ := xrc_some ea5
      replace E := xb_some E; obtain ⟨v3, h4, ev3, E⟩ := E
      refine go_callV (y := yX3_at) (n := 17) (st := []) (as := [vi l2]) (stk9 := [vr v3]) (OX3_at ev3) yw_X3_at ci_3 ga5 wml_RX3_52 wim_X3_at wse_X3_at (Nat.le_of_ble_eq_true rfl) rfl ⟨Nat.le_of_ble_eq_true rfl, Nat.le_of_ble_eq_true rfl⟩ (Nat.le_of_ble_eq_true rfl) dX3_waiting_14 rfl (by cases fa5; rfl) rfl ?_
      replace E := Option.bind_eq_some_iff.mp E; obtain ⟨v6, ev6, E⟩ := E
      refine go_getI (n := 20) ev6 fl_RX3_77 rfl dX3_waiting_17 rfl ?_
      refine go_if_ne (tgt := 26) (n := 23) dX3_waiting_20 rfl rfl (fun c7 => ?_) (fun c7 => ?_)
      · simp only [if_neg c7] at E
        exact SX3_waiting_L26   _ hrc4 _ _ _  _ E
      · simp only [if_pos c7] at E
        refine go_iinc (j := 1) (n := 26) (lv' := [(1, vi (w32 (l1 + 1))), (0, vr (some l0)), (2, vi l2)]) rfl dX3_waiting_23 rfl (Nat.le_of_ble_eq_true rfl) rfl ?_
        refine go_pick (lv' := [(0, vr (some l0)), (1, vi (w32 (l1 + 1))), (2, vi l2)]) [1, 0, 2] rfl ?_
        exact SX3_waiting_L26   _ hrc4 _ _ _  _ E
noncomputable def X3_waiting (F : Nat)   (l0 : Nat)  (h : HP) : Option (Int × HP) :=
  X3_waiting_L4 F F l0 0 0 h
set_option maxRecDepth 100000 in
theorem SX3_waiting {K : Ctx} {F : Nat} {r : Int} {hf : HP}     (l0 : Nat)  (h : HP) (E : X3_waiting F   l0 h = some (r, hf)) : Go K MX3_waiting (QM K (some (vi r)) hf) hf 0 [(0, vr (some l0))] [] h := by
  unfold X3_waiting at E
  refine go_iconst (z := 0) (n := 1) ⟨by decide, by decide⟩ dX3_waiting_0 rfl ?_
  refine go_istore_n (n := 2) (lv' := [(1, vi 0), (0, vr (some l0))]) rfl dX3_waiting_1 rfl (Nat.le_of_ble_eq_true rfl) rfl ?_
  refine go_iconst (z := 0) (n := 3) ⟨by decide, by decide⟩ dX3_waiting_2 rfl ?_
  refine go_istore_n (n := 4) (lv' := [(2, vi 0), (1, vi 0), (0, vr (some l0))]) rfl dX3_waiting_3 rfl (Nat.le_of_ble_eq_true rfl) rfl ?_
  refine go_pick (lv' := [(0, vr (some l0)), (1, vi 0), (2, vi 0)]) [2, 1, 0] rfl ?_
  exact SX3_waiting_L4     F _ _ _ _ E
theorem OX3_waiting {F : Nat} {l0 : Nat} {h hf : HP} {r : Int} (e : X3_waiting F l0 h = some (r, hf)) : Ok MX3_waiting [vr (some l0)] (some (vi r)) h hf := fun K _ _ _ => SX3_waiting l0 h e
