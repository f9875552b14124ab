/-! the methods, decompiled: written by dec.py -/
theorem yw_X12_noWord : YW yX12_noWord cX12_noWord 1 (some .boolean) 1 := ⟨bw_of 1873 (by decide +kernel) rfl, bw_of 129 (by decide +kernel) rfl, ⟨by decide +kernel, by decide +kernel, by decide +kernel⟩, by decide +kernel⟩
theorem wml_RX12_69 : Cond.methodLink RX12 69 yX12_noWord ∈ BW := bw_of 1871 (by decide +kernel) rfl
theorem wst_X12_noWord : Cond.static yX12_noWord ∈ BW := bw_of 1872 (by decide +kernel) rfl
theorem wk_RX12_73 : Cond.constant RX12 73 (Int32.ofInt (-999999999)) ∈ BW := bw_of 1874 (by decide +kernel) rfl
theorem wk_RX12_74 : Cond.constant RX12 74 (Int32.ofInt 999999999) ∈ BW := bw_of 1875 (by decide +kernel) rfl
abbrev MX12_old : MI := (RX12, cX12_old, 3, none, 4, none, "old")
noncomputable def X12_old_L34 (F : Nat)   (l0 : Nat) (l1 : Int) (l2 : Int) (s0 : Int) (s1 : Option Nat) (h : HP) : Option (Unit × HP) :=
  (xrc h s1 12 31).bind fun a3 =>
  xb (X12_throwsIf F a3 s0 2 h) fun v1 h2 =>
  if v1 = 0 then
    (xgP h2 (some l0) 12 31 1).bind fun v5 =>
    (xsI h2 v5 (w32 (73 + l1)) l2).bind fun h6 =>
    some ((), h6)
  else
    some ((), h2)
set_option maxRecDepth 100000 in
theorem SX12_old_L34 {K : Ctx} {F : Nat} {r : Unit} {hf : HP}     (l0 : Nat) (l1 : Int) (l2 : Int) (s0 : Int) (s1 : Option Nat) (h : HP) (E : X12_old_L34 F   l0 l1 l2 s0 s1 h = some (r, hf)) : Go K MX12_old (QM K none hf) hf 34 [(0, vr (some l0)), (1, vi l1), (2, vi l2)] [vi s0, vr s1] h := by
  unfold X12_old_L34 at E
  refine go_iconst (z := 2) (n := 35) ⟨by decide, by decide⟩ dX12_old_34 rfl ?_
  replace E := Option.bind_eq_some_iff.mp E; obtain ⟨a3, ea3, E⟩ := E
  obtain ⟨fa3, ga3⟩ := xrc_some ea3
  replace E := xb_some E; obtain ⟨v1, h2, ev1, E⟩ := E
  refine go_callV (y := yX12_throwsIf) (n := 38) (st := []) (as := [vi s0, vi 2]) (stk9 := [vi v1]) (OX12_throwsIf ev1) yw_X12_throwsIf ci_12 ga3 wml_RX12_65 wim_X12_throwsIf wse_X12_throwsIf (Nat.le_of_ble_eq_true rfl) rfl ⟨Nat.le_of_ble_eq_true rfl, Nat.le_of_ble_eq_true rfl⟩ (Nat.le_of_ble_eq_true rfl) dX12_old_35 rfl (by cases fa3; rfl) rfl ?_
  refine go_if_eq (tgt := 42) (n := 41) dX12_old_38 rfl rfl (fun c4 => ?_) (fun c4 => ?_)
  · rw [if_pos c4] at E
    refine go_aload_n (j := 0) (n := 43) rfl rfl dX12_old_42 rfl ?_
    replace E := Option.bind_eq_some_iff.mp E; obtain ⟨v5, ev5, E⟩ := E
    refine go_getP (n := 46) ev5 fl_RX12_14 rfl dX12_old_43 rfl ?_
    refine go_bipush (z := 73) (n := 48) ⟨by decide, by decide⟩ dX12_old_46 rfl ?_
    refine go_iload_n (j := 1) (n := 49) rfl rfl dX12_old_48 rfl ?_
    refine go_iadd (n := 50) dX12_old_49 rfl ?_
    refine go_iload_n (j := 2) (n := 51) rfl rfl dX12_old_50 rfl ?_
    replace E := Option.bind_eq_some_iff.mp E; obtain ⟨h6, eh6, E⟩ := E
    refine go_iastore (n := 52) eh6 dX12_old_51 rfl ?_
    cases E
    exact go_return rfl dX12_old_52
  · rw [if_neg c4] at E
    cases E
    exact go_return rfl dX12_old_41
noncomputable def X12_old (F : Nat)   (l0 : Nat) (l1 : Int) (l2 : Int)  (h : HP) : Option (Unit × HP) :=
  (xpI h (some l0) 12 31 0 0).bind fun h1 =>
  xb (X12_noWord F l1 h1) fun v2 h3 =>
  (xrc h3 (some l0) 12 31).bind fun a6 =>
  xb (X12_throwsIf F a6 v2 1 h3) fun v4 h5 =>
  if v4 = 0 then
    xb (X12_in F l2 (-999999999) 999999999 h5) fun v8 h9 =>
    X12_old_L34 F l0 l1 l2 (if v8 = 0 then 1 else 0) (some l0) h9
  else
    some ((), h5)
set_option maxRecDepth 100000 in
theorem SX12_old {K : Ctx} {F : Nat} {r : Unit} {hf : HP}     (l0 : Nat) (l1 : Int) (l2 : Int)  (h : HP) (E : X12_old F   l0 l1 l2 h = some (r, hf)) : Go K MX12_old (QM K none hf) hf 0 [(0, vr (some l0)), (1, vi l1), (2, vi l2)] [] h := by
  unfold X12_old at E
  refine go_aload_n (j := 0) (n := 1) rfl rfl dX12_old_0 rfl ?_
  refine go_iconst (z := 0) (n := 2) ⟨by decide, by decide⟩ dX12_old_1 rfl ?_
  replace E := Option.bind_eq_some_iff.mp E; obtain ⟨h1, eh1, E⟩ := E
  refine go_putI (n := 5) eh1 fl_RX12_3 rfl dX12_old_2 rfl ?_
  refine go_aload_n (j := 0) (n := 6) rfl rfl dX12_old_5 rfl ?_
  refine go_iload_n (j := 1) (n := 7) rfl rfl dX12_old_6 rfl ?_
  replace E := xb_some E; obtain ⟨v2, h3, ev2, E⟩ := E
  refine go_callS (y := yX12_noWord) (n := 10) (st := [vr (some l0)]) (as := [vi l1]) (stk9 := [vi v2, vr (some l0)]) (OX12_noWord ev2) yw_X12_noWord wml_RX12_69 wst_X12_noWord (Nat.le_of_ble_eq_true rfl) rfl ⟨Nat.le_of_ble_eq_true rfl, Nat.le_of_ble_eq_true rfl⟩ (Nat.le_of_ble_eq_true rfl) dX12_old_7 rfl rfl rfl ?_
  refine go_iconst (z := 1) (n := 11) ⟨by decide, by decide⟩ dX12_old_10 rfl ?_
  replace E := Option.bind_eq_some_iff.mp E; obtain ⟨a6, ea6, E⟩ := E
  obtain ⟨fa6, ga6⟩ := xrc_some ea6
  replace E := xb_some E; obtain ⟨v4, h5, ev4, E⟩ := E
  refine go_callV (y := yX12_throwsIf) (n := 14) (st := []) (as := [vi v2, vi 1]) (stk9 := [vi v4]) (OX12_throwsIf ev4) yw_X12_throwsIf ci_12 ga6 wml_RX12_65 wim_X12_throwsIf wse_X12_throwsIf (Nat.le_of_ble_eq_true rfl) rfl ⟨Nat.le_of_ble_eq_true rfl, Nat.le_of_ble_eq_true rfl⟩ (Nat.le_of_ble_eq_true rfl) dX12_old_11 rfl (by cases fa6; rfl) rfl ?_
  refine go_if_ne (tgt := 41) (n := 17) dX12_old_14 rfl rfl (fun c7 => ?_) (fun c7 => ?_)
  · rw [if_neg c7] at E
    cases E
    exact go_return rfl dX12_old_41
  · rw [if_pos c7] at E
    refine go_aload_n (j := 0) (n := 18) rfl rfl dX12_old_17 rfl ?_
    refine go_iload_n (j := 2) (n := 19) rfl rfl dX12_old_18 rfl ?_
    refine go_ldc (z := (-999999999)) (n := 21) ⟨by decide, by decide⟩ wk_RX12_73 dX12_old_19 rfl ?_
    refine go_ldc (z := 999999999) (n := 23) ⟨by decide, by decide⟩ wk_RX12_74 dX12_old_21 rfl ?_
    replace E := xb_some E; obtain ⟨v8, h9, ev8, E⟩ := E
    refine go_callS (y := yX12_in) (n := 26) (st := [vr (some l0)]) (as := [vi l2, vi (-999999999), vi 999999999]) (stk9 := [vi v8, vr (some l0)]) (OX12_in ev8) yw_X12_in wml_RX12_61 wst_X12_in (Nat.le_of_ble_eq_true rfl) rfl ⟨Nat.le_of_ble_eq_true rfl, Nat.le_of_ble_eq_true rfl⟩ (Nat.le_of_ble_eq_true rfl) dX12_old_23 rfl rfl rfl ?_
    refine go_if_ne (tgt := 33) (n := 29) dX12_old_26 rfl rfl (fun c10 => ?_) (fun c10 => ?_)
    · simp only [if_neg c10] at E
      refine go_iconst (z := 0) (n := 34) ⟨by decide, by decide⟩ dX12_old_33 rfl ?_
      exact SX12_old_L34     _ _ _ _ _ _ E
    · simp only [if_pos c10] at E
      refine go_iconst (z := 1) (n := 30) ⟨by decide, by decide⟩ dX12_old_29 rfl ?_
      refine go_goto (tgt := 34) dX12_old_30 rfl ?_
      exact SX12_old_L34     _ _ _ _ _ _ E
theorem OX12_old {F : Nat} {l0 : Nat} {l1 : Int} {l2 : Int} {h hf : HP} {r : Unit} (e : X12_old F l0 l1 l2 h = some (r, hf)) : Ok MX12_old [vr (some l0), vi l1, vi l2] none h hf := fun K _ _ _ => SX12_old l0 l1 l2 h e
abbrev MX12_noShop : MI := (RX12, cX12_noShop, 1, (some .boolean), 3, none, "noShop")
noncomputable def X12_noShop (F : Nat)   (l0 : Int)  (h : HP) : Option (Int × HP) :=
  xb (X12_in F l0 0 3 h) fun v1 h2 =>
  some (if v1 = 0 then 1 else 0, h2)
set_option maxRecDepth 100000 in
theorem SX12_noShop {K : Ctx} {F : Nat} {r : Int} {hf : HP}     (l0 : Int)  (h : HP) (E : X12_noShop F   l0 h = some (r, hf)) : Go K MX12_noShop (QM K (some (vi r)) hf) hf 0 [(0, vi l0)] [] h := by
  unfold X12_noShop at E
  refine go_iload_n (j := 0) (n := 1) rfl rfl dX12_noShop_0 rfl ?_
  refine go_iconst (z := 0) (n := 2) ⟨by decide, by decide⟩ dX12_noShop_1 rfl ?_
  refine go_iconst (z := 3) (n := 3) ⟨by decide, by decide⟩ dX12_noShop_2 rfl ?_
  replace E := xb_some E; obtain ⟨v1, h2, ev1, E⟩ := E
  refine go_callS (y := yX12_in) (n := 6) (st := []) (as := [vi l0, vi 0, vi 3]) (stk9 := [vi v1]) (OX12_in ev1) yw_X12_in wml_RX12_61 wst_X12_in (Nat.le_of_ble_eq_true rfl) rfl ⟨Nat.le_of_ble_eq_true rfl, Nat.le_of_ble_eq_true rfl⟩ (Nat.le_of_ble_eq_true rfl) dX12_noShop_3 rfl rfl rfl ?_
  refine go_if_ne (tgt := 13) (n := 9) dX12_noShop_6 rfl rfl (fun c3 => ?_) (fun c3 => ?_)
  · simp only [if_neg c3] at E
    refine go_iconst (z := 0) (n := 14) ⟨by decide, by decide⟩ dX12_noShop_13 rfl ?_
    cases E
    exact go_zreturn rfl (Or.inl rfl) dX12_noShop_14
  · simp only [if_pos c3] at E
    refine go_iconst (z := 1) (n := 10) ⟨by decide, by decide⟩ dX12_noShop_9 rfl ?_
    refine go_goto (tgt := 14) dX12_noShop_10 rfl ?_
    cases E
    exact go_zreturn rfl (Or.inr rfl) dX12_noShop_14
theorem OX12_noShop {F : Nat} {l0 : Int} {h hf : HP} {r : Int} (e : X12_noShop F l0 h = some (r, hf)) : Ok MX12_noShop [vi l0] (some (vi r)) h hf := fun K _ _ _ => SX12_noShop l0 h e
abbrev MX12_noGood : MI := (RX12, cX12_noGood, 1, (some .boolean), 3, none, "noGood")
noncomputable def X12_noGood (F : Nat)   (l0 : Int)  (h : HP) : Option (Int × HP) :=
  xb (X12_in F l0 0 3 h) fun v1 h2 =>
  some (if v1 = 0 then 1 else 0, h2)
set_option maxRecDepth 100000 in
theorem SX12_noGood {K : Ctx} {F : Nat} {r : Int} {hf : HP}     (l0 : Int)  (h : HP) (E : X12_noGood F   l0 h = some (r, hf)) : Go K MX12_noGood (QM K (some (vi r)) hf) hf 0 [(0, vi l0)] [] h := by
  unfold X12_noGood at E
  refine go_iload_n (j := 0) (n := 1) rfl rfl dX12_noGood_0 rfl ?_
  refine go_iconst (z := 0) (n := 2) ⟨by decide, by decide⟩ dX12_noGood_1 rfl ?_
  refine go_iconst (z := 3) (n := 3) ⟨by decide, by decide⟩ dX12_noGood_2 rfl ?_
  replace E := xb_some E; obtain ⟨v1, h2, ev1, E⟩ := E
  refine go_callS (y := yX12_in) (n := 6) (st := []) (as := [vi l0, vi 0, vi 3]) (stk9 := [vi v1]) (OX12_in ev1) yw_X12_in wml_RX12_61 wst_X12_in (Nat.le_of_ble_eq_true rfl) rfl ⟨Nat.le_of_ble_eq_true rfl, Nat.le_of_ble_eq_true rfl⟩ (Nat.le_of_ble_eq_true rfl) dX12_noGood_3 rfl rfl rfl ?_
  refine go_if_ne (tgt := 13) (n := 9) dX12_noGood_6 rfl rfl (fun c3 => ?_) (fun c3 => ?_)
  · simp only [if_neg c3] at E
    refine go_iconst (z := 0) (n := 14) ⟨by decide, by decide⟩ dX12_noGood_13 rfl ?_
    cases E
    exact go_zreturn rfl (Or.inl rfl) dX12_noGood_14
  · simp only [if_pos c3] at E
    refine go_iconst (z := 1) (n := 10) ⟨by decide, by decide⟩ dX12_noGood_9 rfl ?_
    refine go_goto (tgt := 14) dX12_noGood_10 rfl ?_
    cases E
    exact go_zreturn rfl (Or.inr rfl) dX12_noGood_14
theorem OX12_noGood {F : Nat} {l0 : Int} {h hf : HP} {r : Int} (e : X12_noGood F l0 h = some (r, hf)) : Ok MX12_noGood [vi l0] (some (vi r)) h hf := fun K _ _ _ => SX12_noGood l0 h e
abbrev MX12_writings : MI := (RX12, cX12_writings, 1, (some .int), 2, none, "writings")
noncomputable def X12_writings (F : Nat)   (l0 : Nat)  (h : HP) : Option (Int × HP) :=
  (xgP h (some l0) 12 31 1).bind fun v1 =>
  (xaI h v1 100 11356).bind fun v2 =>
  some (v2, h)
set_option maxRecDepth 100000 in
theorem SX12_writings {K : Ctx} {F : Nat} {r : Int} {hf : HP}     (l0 : Nat)  (h : HP) (E : X12_writings F   l0 h = some (r, hf)) : Go K MX12_writings (QM K (some (vi r)) hf) hf 0 [(0, vr (some l0))] [] h := by
  unfold X12_writings at E
  refine go_aload_n (j := 0) (n := 1) rfl rfl dX12_writings_0 rfl ?_
  replace E := Option.bind_eq_some_iff.mp E; obtain ⟨v1, ev1, E⟩ := E
  refine go_getP (n := 4) ev1 fl_RX12_14 rfl dX12_writings_1 rfl ?_
  refine go_sipush (z := 11356) (n := 7) ⟨by decide, by decide⟩ dX12_writings_4 rfl ?_
  replace E := Option.bind_eq_some_iff.mp E; obtain ⟨v2, ev2, E⟩ := E
  refine go_iaload (n := 8) ev2 dX12_writings_7 rfl ?_
  cases E
  exact go_ireturn rfl dX12_writings_8
theorem OX12_writings {F : Nat} {l0 : Nat} {h hf : HP} {r : Int} (e : X12_writings F l0 h = some (r, hf)) : Ok MX12_writings [vr (some l0)] (some (vi r)) h hf := fun K _ _ _ => SX12_writings l0 h e
abbrev MX12_writingAt : MI := (RX12, cX12_writingAt, 3, (some .int), 2, none, "writingAt")
noncomputable def X12_writingAt (F : Nat)   (l0 : Nat) (l1 : Int) (l2 : Int)  (h : HP) : Option (Int × HP) :=
  some (w32 ((w32 (11357 + (w32 (7 * l1)))) + l2), h)
set_option maxRecDepth 100000 in
theorem SX12_writingAt {K : Ctx} {F : Nat} {r : Int} {hf : HP}     (l0 : Nat) (l1 : Int) (l2 : Int)  (h : HP) (E : X12_writingAt F   l0 l1 l2 h = some (r, hf)) : Go K MX12_writingAt (QM K (some (vi r)) hf) hf 0 [(0, vr (some l0)), (1, vi l1), (2, vi l2)] [] h := by
  unfold X12_writingAt at E
  refine go_sipush (z := 11357) (n := 3) ⟨by decide, by decide⟩ dX12_writingAt_0 rfl ?_
  refine go_bipush (z := 7) (n := 5) ⟨by decide, by decide⟩ dX12_writingAt_3 rfl ?_
  refine go_iload_n (j := 1) (n := 6) rfl rfl dX12_writingAt_5 rfl ?_
  refine go_imul (n := 7) dX12_writingAt_6 rfl ?_
  refine go_iadd (n := 8) dX12_writingAt_7 rfl ?_
  refine go_iload_n (j := 2) (n := 9) rfl rfl dX12_writingAt_8 rfl ?_
  refine go_iadd (n := 10) dX12_writingAt_9 rfl ?_
  cases E
  exact go_ireturn rfl dX12_writingAt_10
theorem OX12_writingAt {F : Nat} {l0 : Nat} {l1 : Int} {l2 : Int} {h hf : HP} {r : Int} (e : X12_writingAt F l0 l1 l2 h = some (r, hf)) : Ok MX12_writingAt [vr (some l0), vi l1, vi l2] (some (vi r)) h hf := fun K _ _ _ => SX12_writingAt l0 l1 l2 h e
abbrev MX12_now : MI := (RX12, cX12_now, 1, (some .int), 2, none, "now")
noncomputable def X12_now (F : Nat)   (l0 : Nat)  (h : HP) : Option (Int × HP) :=
  (xgP h (some l0) 12 31 1).bind fun v1 =>
  (xaI h v1 100 0).bind fun v2 =>
  some (v2, h)
set_option maxRecDepth 100000 in
theorem SX12_now {K : Ctx} {F : Nat} {r : Int} {hf : HP}     (l0 : Nat)  (h : HP) (E : X12_now F   l0 h = some (r, hf)) : Go K MX12_now (QM K (some (vi r)) hf) hf 0 [(0, vr (some l0))] [] h := by
  unfold X12_now at E
  refine go_aload_n (j := 0) (n := 1) rfl rfl dX12_now_0 rfl ?_
  replace E := Option.bind_eq_some_iff.mp E; obtain ⟨v1, ev1, E⟩ := E
  refine go_getP (n := 4) ev1 fl_RX12_14 rfl dX12_now_1 rfl ?_
  refine go_iconst (z := 0) (n := 5) ⟨by decide, by decide⟩ dX12_now_4 rfl ?_
  replace E := Option.bind_eq_some_iff.mp E; obtain ⟨v2, ev2, E⟩ := E
  refine go_iaload (n := 6) ev2 dX12_now_5 rfl ?_
  cases E
  exact go_ireturn rfl dX12_now_6
theorem OX12_now {F : Nat} {l0 : Nat} {h hf : HP} {r : Int} (e : X12_now F l0 h = some (r, hf)) : Ok MX12_now [vr (some l0)] (some (vi r)) h hf := fun K _ _ _ => SX12_now l0 h e
theorem yw_X12_writings : YW yX12_writings cX12_writings 1 (some .int) 0 := ⟨bw_of 1894 (by decide +kernel) rfl, bw_of 129 (by decide +kernel) rfl, ⟨by decide +kernel, by decide +kernel, by decide +kernel⟩, by decide +kernel⟩
theorem wml_RX12_79 : Cond.methodLink RX12 79 yX12_writings ∈ BW := bw_of 1891 (by decide +kernel) rfl
theorem wim_X12_writings : Cond.instanceMethod yX12_writings ∈ BW := bw_of 1893 (by decide +kernel) rfl
theorem wse_X12_writings : Cond.selects RX12 yX12_writings yX12_writings ∈ BW := bw_of 59 (by decide +kernel) rfl
theorem yw_X12_writingAt : YW yX12_writingAt cX12_writingAt 3 (some .int) 2 := ⟨bw_of 1902 (by decide +kernel) rfl, bw_of 129 (by decide +kernel) rfl, ⟨by decide +kernel, by decide +kernel, by decide +kernel⟩, by decide +kernel⟩
theorem wml_RX12_75 : Cond.methodLink RX12 75 yX12_writingAt ∈ BW := bw_of 1899 (by decide +kernel) rfl
theorem wim_X12_writingAt : Cond.instanceMethod yX12_writingAt ∈ BW := bw_of 1901 (by decide +kernel) rfl
theorem wse_X12_writingAt : Cond.selects RX12 yX12_writingAt yX12_writingAt ∈ BW := bw_of 61 (by decide +kernel) rfl
theorem yw_X12_now : YW yX12_now cX12_now 1 (some .int) 0 := ⟨bw_of 1906 (by decide +kernel) rfl, bw_of 129 (by decide +kernel) rfl, ⟨by decide +kernel, by decide +kernel, by decide +kernel⟩, by decide +kernel⟩
theorem wml_RX12_83 : Cond.methodLink RX12 83 yX12_now ∈ BW := bw_of 1903 (by decide +kernel) rfl
theorem wim_X12_now : Cond.instanceMethod yX12_now ∈ BW := bw_of 1905 (by decide +kernel) rfl
theorem wse_X12_now : Cond.selects RX12 yX12_now yX12_now ∈ BW := bw_of 62 (by decide +kernel) rfl
abbrev MX12_writes : MI := (RX12, cX12_writes, 7, none, 3, none, "writes")
noncomputable def X12_writes (F : Nat)   (l0 : Nat) (l1 : Int) (l2 : Int) (l3 : Int) (l4 : Int) (l5 : Int)  (h : HP) : Option (Unit × HP) :=
  (xrc h (some l0) 12 31).bind fun a3 =>
  xb (X12_writings F a3 h) fun v1 h2 =>
  (xgP h2 (some l0) 12 31 1).bind fun v4 =>
  (xrc h2 (some l0) 12 31).bind fun a7 =>
  xb (X12_writingAt F a7 v1 0 h2) fun v5 h6 =>
  (xrc h6 (some l0) 12 31).bind fun a10 =>
  xb (X12_now F a10 h6) fun v8 h9 =>
  (xsI h9 v4 v5 v8).bind fun h11 =>
  (xgP h11 (some l0) 12 31 1).bind fun v12 =>
  (xrc h11 (some l0) 12 31).bind fun a15 =>
  xb (X12_writingAt F a15 v1 1 h11) fun v13 h14 =>
  (xsI h14 v12 v13 l1).bind fun h16 =>
  (xgP h16 (some l0) 12 31 1).bind fun v17 =>
  (xrc h16 (some l0) 12 31).bind fun a20 =>
  xb (X12_writingAt F a20 v1 2 h16) fun v18 h19 =>
  (xsI h19 v17 v18 l2).bind fun h21 =>
  (xgP h21 (some l0) 12 31 1).bind fun v22 =>
  (xrc h21 (some l0) 12 31).bind fun a25 =>
  xb (X12_writingAt F a25 v1 3 h21) fun v23 h24 =>
  (xsI h24 v22 v23 l2).bind fun h26 =>
  (xgP h26 (some l0) 12 31 1).bind fun v27 =>
  (xrc h26 (some l0) 12 31).bind fun a30 =>
  xb (X12_writingAt F a30 v1 4 h26) fun v28 h29 =>
  (xsI h29 v27 v28 l3).bind fun h31 =>
  (xgP h31 (some l0) 12 31 1).bind fun v32 =>
  (xrc h31 (some l0) 12 31).bind fun a35 =>
  xb (X12_writingAt F a35 v1 5 h31) fun v33 h34 =>
  (xsI h34 v32 v33 l4).bind fun h36 =>
  (xgP h36 (some l0) 12 31 1).bind fun v37 =>
  (xrc h36 (some l0) 12 31).bind fun a40 =>
  xb (X12_writingAt F a40 v1 6 h36) fun v38 h39 =>
  (xsI h39 v37 v38 l5).bind fun h41 =>
  (xgP h41 (some l0) 12 31 1).bind fun v42 =>
  (xaI h41 v42 100 11356).bind fun v43 =>
  (xsI h41 v42 11356 (w32 (v43 + 1))).bind fun h44 =>
  (xgP h44 (some l0) 12 31 1).bind fun v45 =>
  (xsI h44 v45 (w32 (9 + l1)) l2).bind fun h46 =>
  some ((), h46)
set_option maxRecDepth 100000 in
theorem SX12_writes {K : Ctx} {F : Nat} {r : Unit} {hf : HP}     (l0 : Nat) (l1 : Int) (l2 : Int) (l3 : Int) (l4 : Int) (l5 : Int)  (h : HP) (E : X12_writes F   l0 l1 l2 l3 l4 l5 h = some (r, hf)) : Go K MX12_writes (QM K none hf) hf 0 [(0, vr (some l0)), (1, vi l1), (2, vi l2), (3, vi l3), (4, vi l4), (5, vi l5)] [] h := by
  unfold X12_writes at E
  refine go_aload_n (j := 0) (n := 1) rfl rfl dX12_writes_0 rfl ?_
  replace E := Option.bind_eq_some_iff.mp E; obtain ⟨a3, ea3, E⟩ := E
  obtain ⟨fa3, ga3⟩ := xrc_some ea3
  replace E := xb_some E; obtain ⟨v1, h2, ev1, E⟩ := E
  refine go_callV (y := yX12_writings) (n := 4) (st := []) (as := []) (stk9 := [vi v1]) (OX12_writings ev1) yw_X12_writings ci_12 ga3 wml_RX12_79 wim_X12_writings wse_X12_writings (Nat.le_of_ble_eq_true rfl) rfl ⟨Nat.le_of_ble_eq_true rfl, Nat.le_of_ble_eq_true rfl⟩ (Nat.le_of_ble_eq_true rfl) dX12_writes_1 rfl (by cases fa3; rfl) rfl ?_
  refine go_istore (n := 6) (lv' := [(6, vi v1), (0, vr (some l0)), (1, vi l1), (2, vi l2), (3, vi l3), (4, vi l4), (5, vi l5)]) dX12_writes_4 rfl (Nat.le_of_ble_eq_true rfl) rfl ?_
  refine go_aload_n (j := 1) (n := 7) rfl rfl dX12_writes_6 rfl ?_
  replace E := Option.bind_eq_some_iff.mp E; obtain ⟨v4, ev4, E⟩ := E
  refine go_getP (n := 10) ev4 fl_RX12_14 rfl dX12_writes_7 rfl ?_
  refine go_aload_n (j := 1) (n := 11) rfl rfl dX12_writes_10 rfl ?_
  refine go_iload (j := 0) (n := 13) rfl dX12_writes_11 rfl ?_
  refine go_iconst (z := 0) (n := 14) ⟨by decide, by decide⟩ dX12_writes_13 rfl ?_
  replace E := Option.bind_eq_some_iff.mp E; obtain ⟨a7, ea7, E⟩ := E
  obtain ⟨fa7, ga7⟩ := xrc_some ea7
  replace E := xb_some E; obtain ⟨v5, h6, ev5, E⟩ := E
  refine go_callV (y := yX12_writingAt) (n := 17) (st := [vr v4]) (as := [vi v1, vi 0]) (stk9 := [vi v5, vr v4]) (OX12_writingAt ev5) yw_X12_writingAt ci_12 ga7 wml_RX12_75 wim_X12_writingAt wse_X12_writingAt (Nat.le_of_ble_eq_true rfl) rfl ⟨Nat.le_of_ble_eq_true rfl, Nat.le_of_ble_eq_true rfl⟩ (Nat.le_of_ble_eq_true rfl) dX12_writes_14 rfl (by cases fa7; rfl) rfl ?_
  refine go_aload_n (j := 1) (n := 18) rfl rfl dX12_writes_17 rfl ?_
  replace E := Option.bind_eq_some_iff.mp E; obtain ⟨a10, ea10, E⟩ := E
  obtain ⟨fa10, ga10⟩ := xrc_some ea10
  replace E := xb_some E; obtain ⟨v8, h9, ev8, E⟩ := E
  refine go_callV (y := yX12_now) (n := 21) (st := [vi v5, vr v4]) (as := []) (stk9 := [vi v8, vi v5, vr v4]) (OX12_now ev8) yw_X12_now ci_12 ga10 wml_RX12_83 wim_X12_now wse_X12_now (Nat.le_of_ble_eq_true rfl) rfl ⟨Nat.le_of_ble_eq_true rfl, Nat.le_of_ble_eq_true rfl⟩ (Nat.le_of_ble_eq_true rfl) dX12_writes_18 rfl (by cases fa10; rfl) rfl ?_
  replace E := Option.bind_eq_some_iff.mp E; obtain ⟨h11, eh11, E⟩ := E
  refine go_iastore (n := 22) eh11 dX12_writes_21 rfl ?_
  refine go_aload_n (j := 1) (n := 23) rfl rfl dX12_writes_22 rfl ?_
  replace E := Option.bind_eq_some_iff.mp E; obtain ⟨v12, ev12, E⟩ := E
  refine go_getP (n := 26) ev12 fl_RX12_14 rfl dX12_writes_23 rfl ?_
  refine go_aload_n (j := 1) (n := 27) rfl rfl dX12_writes_26 rfl ?_
  refine go_iload (j := 0) (n := 29) rfl dX12_writes_27 rfl ?_
  refine go_iconst (z := 1) (n := 30) ⟨by decide, by decide⟩ dX12_writes_29 rfl ?_
  replace E := Option.bind_eq_some_iff.mp E; obtain ⟨a15, ea15, E⟩ := E
  obtain ⟨fa15, ga15⟩ := xrc_some ea15
  replace E := xb_some E; obtain ⟨v13, h14, ev13, E⟩ := E
  refine go_callV (y := yX12_writingAt) (n := 33) (st := [vr v12]) (as := [vi v1, vi 1]) (stk9 := [vi v13, vr v12]) (OX12_writingAt ev13) yw_X12_writingAt ci_12 ga15 wml_RX12_75 wim_X12_writingAt wse_X12_writingAt (Nat.le_of_ble_eq_true rfl) rfl ⟨Nat.le_of_ble_eq_true rfl, Nat.le_of_ble_eq_true rfl⟩ (Nat.le_of_ble_eq_true rfl) dX12_writes_30 rfl (by cases fa15; rfl) rfl ?_
  refine go_iload_n (j := 2) (n := 34) rfl rfl dX12_writes_33 rfl ?_
  replace E := Option.bind_eq_some_iff.mp E; obtain ⟨h16, eh16, E⟩ := E
  refine go_iastore (n := 35) eh16 dX12_writes_34 rfl ?_
  refine go_aload_n (j := 1) (n := 36) rfl rfl dX12_writes_35 rfl ?_
  replace E := Option.bind_eq_some_iff.mp E; obtain ⟨v17, ev17, E⟩ := E
  refine go_getP (n := 39) ev17 fl_RX12_14 rfl dX12_writes_36 rfl ?_
  refine go_aload_n (j := 1) (n := 40) rfl rfl dX12_writes_39 rfl ?_
  refine go_iload (j := 0) (n := 42) rfl dX12_writes_40 rfl ?_
  refine go_iconst (z := 2) (n := 43) ⟨by decide, by decide⟩ dX12_writes_42 rfl ?_
  replace E := Option.bind_eq_some_iff.mp E; obtain ⟨a20, ea20, E⟩ := E
  obtain ⟨fa20, ga20⟩ := xrc_some ea20
  replace E := xb_some E; obtain ⟨v18, h19, ev18, E⟩ := E
  refine go_callV (y := yX12_writingAt) (n := 46) (st := [vr v17]) (as := [vi v1, vi 2]) (stk9 := [vi v18, vr v17]) (OX12_writingAt ev18) yw_X12_writingAt ci_12 ga20 wml_RX12_75 wim_X12_writingAt wse_X12_writingAt (Nat.le_of_ble_eq_true rfl) rfl ⟨Nat.le_of_ble_eq_true rfl, Nat.le_of_ble_eq_true rfl⟩ (Nat.le_of_ble_eq_true rfl) dX12_writes_43 rfl (by cases fa20; rfl) rfl ?_
  refine go_iload_n (j := 3) (n := 47) rfl rfl dX12_writes_46 rfl ?_
  replace E := Option.bind_eq_some_iff.mp E; obtain ⟨h21, eh21, E⟩ := E
  refine go_iastore (n := 48) eh21 dX12_writes_47 rfl ?_
  refine go_aload_n (j := 1) (n := 49) rfl rfl dX12_writes_48 rfl ?_
  replace E := Option.bind_eq_some_iff.mp E; obtain ⟨v22, ev22, E⟩ := E
  refine go_getP (n := 52) ev22 fl_RX12_14 rfl dX12_writes_49 rfl ?_
  refine go_aload_n (j := 1) (n := 53) rfl rfl dX12_writes_52 rfl ?_
  refine go_iload (j := 0) (n := 55) rfl dX12_writes_53 rfl ?_
  refine go_iconst (z := 3) (n := 56) ⟨by decide, by decide⟩ dX12_writes_55 rfl ?_
  replace E := Option.bind_eq_some_iff.mp E; obtain ⟨a25, ea25, E⟩ := E
  obtain ⟨fa25, ga25⟩ := xrc_some ea25
  replace E := xb_some E; obtain ⟨v23, h24, ev23, E⟩ := E
  refine go_callV (y := yX12_writingAt) (n := 59) (st := [vr v22]) (as := [vi v1, vi 3]) (stk9 := [vi v23, vr v22]) (OX12_writingAt ev23) yw_X12_writingAt ci_12 ga25 wml_RX12_75 wim_X12_writingAt wse_X12_writingAt (Nat.le_of_ble_eq_true rfl) rfl ⟨Nat.le_of_ble_eq_true rfl, Nat.le_of_ble_eq_true rfl⟩ (Nat.le_of_ble_eq_true rfl) dX12_writes_56 rfl (by cases fa25; rfl) rfl ?_
  refine go_iload_n (j := 3) (n := 60) rfl rfl dX12_writes_59 rfl ?_
  replace E := Option.bind_eq_some_iff.mp E; obtain ⟨h26, eh26, E⟩ := E
  refine go_iastore (n := 61) eh26 dX12_writes_60 rfl ?_
  refine go_aload_n (j := 1) (n := 62) rfl rfl dX12_writes_61 rfl ?_
  replace E := Option.bind_eq_some_iff.mp E; obtain ⟨v27, ev27, E⟩ := E
  refine go_getP (n := 65) ev27 fl_RX12_14 rfl dX12_writes_62 rfl ?_
  refine go_aload_n (j := 1) (n := 66) rfl rfl dX12_writes_65 rfl ?_
  refine go_iload (j := 0) (n := 68) rfl dX12_writes_66 rfl ?_
  refine go_iconst (z := 4) (n := 69) ⟨by decide, by decide⟩ dX12_writes_68 rfl ?_
  replace E := Option.bind_eq_some_iff.mp E; obtain ⟨a30, ea30, E⟩ := E
  obtain ⟨fa30, ga30⟩ := xrc_some ea30
  replace E := xb_some E; obtain ⟨v28, h29, ev28, E⟩ := E
  refine go_callV (y := yX12_writingAt) (n := 72) (st := [vr v27]) (as := [vi v1, vi 4]) (stk9 := [vi v28, vr v27]) (OX12_writingAt ev28) yw_X12_writingAt ci_12 ga30 wml_RX12_75 wim_X12_writingAt wse_X12_writingAt (Nat.le_of_ble_eq_true rfl) rfl ⟨Nat.le_of_ble_eq_true rfl, Nat.le_of_ble_eq_true rfl⟩ (Nat.le_of_ble_eq_true rfl) dX12_writes_69 rfl (by cases fa30; rfl) rfl ?_
  refine go_iload_n (j := 4) (n := 73) rfl rfl dX12_writes_72 rfl ?_
  replace E := Option.bind_eq_some_iff.mp E; obtain ⟨h31, eh31, E⟩ := E
  refine go_iastore (n := 74) eh31 dX12_writes_73 rfl ?_
  refine go_aload_n (j := 1) (n := 75) rfl rfl dX12_writes_74 rfl ?_
  replace E := Option.bind_eq_some_iff.mp E; obtain ⟨v32, ev32, E⟩ := E
  refine go_getP (n := 78) ev32 fl_RX12_14 rfl dX12_writes_75 rfl ?_
  refine go_aload_n (j := 1) (n := 79) rfl rfl dX12_writes_78 rfl ?_
  refine go_iload (j := 0) (n := 81) rfl dX12_writes_79 rfl ?_
  refine go_iconst (z := 5) (n := 82) ⟨by decide, by decide⟩ dX12_writes_81 rfl ?_
  replace E := Option.bind_eq_some_iff.mp E; obtain ⟨a35, ea35, E⟩ := E
  obtain ⟨fa35, ga35⟩ := xrc_some ea35
  replace E := xb_some E; obtain ⟨v33, h34, ev33, E⟩ := E
  refine go_callV (y := yX12_writingAt) (n := 85) (st := [vr v32]) (as := [vi v1, vi 5]) (stk9 := [vi v33, vr v32]) (OX12_writingAt ev33) yw_X12_writingAt ci_12 ga35 wml_RX12_75 wim_X12_writingAt wse_X12_writingAt (Nat.le_of_ble_eq_true rfl) rfl ⟨Nat.le_of_ble_eq_true rfl, Nat.le_of_ble_eq_true rfl⟩ (Nat.le_of_ble_eq_true rfl) dX12_writes_82 rfl (by cases fa35; rfl) rfl ?_
  refine go_iload (j := 5) (n := 87) rfl dX12_writes_85 rfl ?_
  replace E := Option.bind_eq_some_iff.mp E; obtain ⟨h36, eh36, E⟩ := E
  refine go_iastore (n := 88) eh36 dX12_writes_87 rfl ?_
  refine go_aload_n (j := 1) (n := 89) rfl rfl dX12_writes_88 rfl ?_
  replace E := Option.bind_eq_some_iff.mp E; obtain ⟨v37, ev37, E⟩ := E
  refine go_getP (n := 92) ev37 fl_RX12_14 rfl dX12_writes_89 rfl ?_
  refine go_aload_n (j := 1) (n := 93) rfl rfl dX12_writes_92 rfl ?_
  refine go_iload (j := 0) (n := 95) rfl dX12_writes_93 rfl ?_
  refine go_bipush (z := 6) (n := 97) ⟨by decide, by decide⟩ dX12_writes_95 rfl ?_
  replace E := Option.bind_eq_some_iff.mp E; obtain ⟨a40, ea40, E⟩ := E
  obtain ⟨fa40, ga40⟩ := xrc_some ea40
  replace E := xb_some E; obtain ⟨v38, h39, ev38, E⟩ := E
  refine go_callV (y := yX12_writingAt) (n := 100) (st := [vr v37]) (as := [vi v1, vi 6]) (stk9 := [vi v38, vr v37]) (OX12_writingAt ev38) yw_X12_writingAt ci_12 ga40 wml_RX12_75 wim_X12_writingAt wse_X12_writingAt (Nat.le_of_ble_eq_true rfl) rfl ⟨Nat.le_of_ble_eq_true rfl, Nat.le_of_ble_eq_true rfl⟩ (Nat.le_of_ble_eq_true rfl) dX12_writes_97 rfl (by cases fa40; rfl) rfl ?_
  refine go_iload (j := 6) (n := 102) rfl dX12_writes_100 rfl ?_
  replace E := Option.bind_eq_some_iff.mp E; obtain ⟨h41, eh41, E⟩ := E
  refine go_iastore (n := 103) eh41 dX12_writes_102 rfl ?_
  refine go_aload_n (j := 1) (n := 104) rfl rfl dX12_writes_103 rfl ?_
  replace E := Option.bind_eq_some_iff.mp E; obtain ⟨v42, ev42, E⟩ := E
  refine go_getP (n := 107) ev42 fl_RX12_14 rfl dX12_writes_104 rfl ?_
  refine go_sipush (z := 11356) (n := 110) ⟨by decide, by decide⟩ dX12_writes_107 rfl ?_
  refine go_dup2 (n := 111) rfl rfl dX12_writes_110 rfl ?_
  replace E := Option.bind_eq_some_iff.mp E; obtain ⟨v43, ev43, E⟩ := E
  refine go_iaload (n := 112) ev43 dX12_writes_111 rfl ?_
  refine go_iconst (z := 1) (n := 113) ⟨by decide, by decide⟩ dX12_writes_112 rfl ?_
  refine go_iadd (n := 114) dX12_writes_113 rfl ?_
  replace E := Option.bind_eq_some_iff.mp E; obtain ⟨h44, eh44, E⟩ := E
  refine go_iastore (n := 115) eh44 dX12_writes_114 rfl ?_
  refine go_aload_n (j := 1) (n := 116) rfl rfl dX12_writes_115 rfl ?_
  replace E := Option.bind_eq_some_iff.mp E; obtain ⟨v45, ev45, E⟩ := E
  refine go_getP (n := 119) ev45 fl_RX12_14 rfl dX12_writes_116 rfl ?_
  refine go_bipush (z := 9) (n := 121) ⟨by decide, by decide⟩ dX12_writes_119 rfl ?_
  refine go_iload_n (j := 2) (n := 122) rfl rfl dX12_writes_121 rfl ?_
  refine go_iadd (n := 123) dX12_writes_122 rfl ?_
  refine go_iload_n (j := 3) (n := 124) rfl rfl dX12_writes_123 rfl ?_
  replace E := Option.bind_eq_some_iff.mp E; obtain ⟨h46, eh46, E⟩ := E
  refine go_iastore (n := 125) eh46 dX12_writes_124 rfl ?_
  cases E
  exact go_return rfl dX12_writes_125
theorem OX12_writes {F : Nat} {l0 : Nat} {l1 : Int} {l2 : Int} {l3 : Int} {l4 : Int} {l5 : Int} {h hf : HP} {r : Unit} (e : X12_writes F l0 l1 l2 l3 l4 l5 h = some (r, hf)) : Ok MX12_writes [vr (some l0), vi l1, vi l2, vi l3, vi l4, vi l5] none h hf := fun K _ _ _ => SX12_writes l0 l1 l2 l3 l4 l5 h e
theorem yw_X12_writes : YW yX12_writes cX12_writes 7 none 5 := ⟨bw_of 1898 (by decide +kernel) rfl, bw_of 129 (by decide +kernel) rfl, ⟨by decide +kernel, by decide +kernel, by decide +kernel⟩, by decide +kernel⟩
theorem wml_RX12_86 : Cond.methodLink RX12 86 yX12_writes ∈ BW := bw_of 1895 (by decide +kernel) rfl
theorem wim_X12_writes : Cond.instanceMethod yX12_writes ∈ BW := bw_of 1897 (by decide +kernel) rfl
theorem wse_X12_writes : Cond.selects RX12 yX12_writes yX12_writes ∈ BW := bw_of 60 (by decide +kernel) rfl
abbrev MX12_tells : MI := (RX12, cX12_tells, 3, (some .int), 4, none, "tells")
noncomputable def X12_tells (F : Nat)   (l0 : Nat) (l1 : Int) (l2 : Int)  (h : HP) : Option (Int × HP) :=
  (xgP h (some l0) 12 31 1).bind fun v1 =>
  (xaI h v1 100 5).bind fun v2 =>
  if v2 = 400 then
    some ((-1), h)
  else
    (xrc h (some l0) 12 31).bind fun a6 =>
    xb (X12_writings F a6 h) fun v4 h5 =>
    (xrc h5 (some l0) 12 31).bind fun a9 =>
    xb (X12_writes F a9 l1 l2 (-1) v4 0 h5) fun v7 h8 =>
    (xgP h8 (some l0) 12 31 1).bind fun v10 =>
    (xaI h8 v10 100 5).bind fun v11 =>
    (xsI h8 v10 5 (w32 (v11 + 1))).bind fun h12 =>
    (xgP h12 (some l0) 12 31 1).bind fun v13 =>
    (xaI h12 v13 100 5).bind fun v14 =>
    some (v14, h12)
set_option maxRecDepth 100000 in
theorem SX12_tells {K : Ctx} {F : Nat} {r : Int} {hf : HP}     (l0 : Nat) (l1 : Int) (l2 : Int)  (h : HP) (E : X12_tells F   l0 l1 l2 h = some (r, hf)) : Go K MX12_tells (QM K (some (vi r)) hf) hf 0 [(0, vr (some l0)), (1, vi l1), (2, vi l2)] [] h := by
  unfold X12_tells at E
  refine go_aload_n (j := 0) (n := 1) rfl rfl dX12_tells_0 rfl ?_
  replace E := Option.bind_eq_some_iff.mp E; obtain ⟨v1, ev1, E⟩ := E
  refine go_getP (n := 4) ev1 fl_RX12_14 rfl dX12_tells_1 rfl ?_
  refine go_iconst (z := 5) (n := 5) ⟨by decide, by decide⟩ dX12_tells_4 rfl ?_
  replace E := Option.bind_eq_some_iff.mp E; obtain ⟨v2, ev2, E⟩ := E
  refine go_iaload (n := 6) ev2 dX12_tells_5 rfl ?_
  refine go_sipush (z := 400) (n := 9) ⟨by decide, by decide⟩ dX12_tells_6 rfl ?_
  refine go_icmp_ne (tgt := 14) (n := 12) dX12_tells_9 rfl rfl (fun c3 => ?_) (fun c3 => ?_)
  · rw [if_neg c3] at E
    refine go_aload_n (j := 0) (n := 15) rfl rfl dX12_tells_14 rfl ?_
    refine go_iload_n (j := 1) (n := 16) rfl rfl dX12_tells_15 rfl ?_
    refine go_iload_n (j := 2) (n := 17) rfl rfl dX12_tells_16 rfl ?_
    refine go_iconst (z := (-1)) (n := 18) ⟨by decide, by decide⟩ dX12_tells_17 rfl ?_
    refine go_aload_n (j := 0) (n := 19) rfl rfl dX12_tells_18 rfl ?_
    replace E := Option.bind_eq_some_iff.mp E; obtain ⟨a6, ea6, E⟩ := E
    obtain ⟨fa6, ga6⟩ := xrc_some ea6
    replace E := xb_some E; obtain ⟨v4, h5, ev4, E⟩ := E
    refine go_callV (y := yX12_writings) (n := 22) (st := [vi (-1), vi l2, vi l1, vr (some l0)]) (as := []) (stk9 := [vi v4, vi (-1), vi l2, vi l1, vr (some l0)]) (OX12_writings ev4) yw_X12_writings ci_12 ga6 wml_RX12_79 wim_X12_writings wse_X12_writings (Nat.le_of_ble_eq_true rfl) rfl ⟨Nat.le_of_ble_eq_true rfl, Nat.le_of_ble_eq_true rfl⟩ (Nat.le_of_ble_eq_true rfl) dX12_tells_19 rfl (by cases fa6; rfl) rfl ?_
    refine go_iconst (z := 0) (n := 23) ⟨by decide, by decide⟩ dX12_tells_22 rfl ?_
    replace E := Option.bind_eq_some_iff.mp E; obtain ⟨a9, ea9, E⟩ := E
    obtain ⟨fa9, ga9⟩ := xrc_some ea9
    replace E := xb_some E; obtain ⟨v7, h8, ev7, E⟩ := E
    refine go_callV (y := yX12_writes) (n := 26) (st := []) (as := [vi l1, vi l2, vi (-1), vi v4, vi 0]) (stk9 := []) (OX12_writes ev7) yw_X12_writes ci_12 ga9 wml_RX12_86 wim_X12_writes wse_X12_writes (Nat.le_of_ble_eq_true rfl) rfl ⟨Nat.le_of_ble_eq_true rfl, Nat.le_of_ble_eq_true rfl⟩ (Nat.le_of_ble_eq_true rfl) dX12_tells_23 rfl (by cases fa9; rfl) rfl ?_
    refine go_aload_n (j := 0) (n := 27) rfl rfl dX12_tells_26 rfl ?_
    replace E := Option.bind_eq_some_iff.mp E; obtain ⟨v10, ev10, E⟩ := E
    refine go_getP (n := 30) ev10 fl_RX12_14 rfl dX12_tells_27 rfl ?_
    refine go_iconst (z := 5) (n := 31) ⟨by decide, by decide⟩ dX12_tells_30 rfl ?_
    refine go_dup2 (n := 32) rfl rfl dX12_tells_31 rfl ?_
    replace E := Option.bind_eq_some_iff.mp E; obtain ⟨v11, ev11, E⟩ := E
    refine go_iaload (n := 33) ev11 dX12_tells_32 rfl ?_
    refine go_iconst (z := 1) (n := 34) ⟨by decide, by decide⟩ dX12_tells_33 rfl ?_
    refine go_iadd (n := 35) dX12_tells_34 rfl ?_
    replace E := Option.bind_eq_some_iff.mp E; obtain ⟨h12, eh12, E⟩ := E
    refine go_iastore (n := 36) eh12 dX12_tells_35 rfl ?_
    refine go_aload_n (j := 0) (n := 37) rfl rfl dX12_tells_36 rfl ?_
    replace E := Option.bind_eq_some_iff.mp E; obtain ⟨v13, ev13, E⟩ := E
    refine go_getP (n := 40) ev13 fl_RX12_14 rfl dX12_tells_37 rfl ?_
    refine go_iconst (z := 5) (n := 41) ⟨by decide, by decide⟩ dX12_tells_40 rfl ?_
    replace E := Option.bind_eq_some_iff.mp E; obtain ⟨v14, ev14, E⟩ := E
    refine go_iaload (n := 42) ev14 dX12_tells_41 rfl ?_
    cases E
    exact go_ireturn rfl dX12_tells_42
  · rw [if_pos c3] at E
    refine go_iconst (z := (-1)) (n := 13) ⟨by decide, by decide⟩ dX12_tells_12 rfl ?_
    cases E
    exact go_ireturn rfl dX12_tells_13
theorem OX12_tells {F : Nat} {l0 : Nat} {l1 : Int} {l2 : Int} {h hf : HP} {r : Int} (e : X12_tells F l0 l1 l2 h = some (r, hf)) : Ok MX12_tells [vr (some l0), vi l1, vi l2] (some (vi r)) h hf := fun K _ _ _ => SX12_tells l0 l1 l2 h e
theorem yw_X12_noShop : YW yX12_noShop cX12_noShop 1 (some .boolean) 1 := ⟨bw_of 1882 (by decide +kernel) rfl, bw_of 129 (by decide +kernel) rfl, ⟨by decide +kernel, by decide +kernel, by decide +kernel⟩, by decide +kernel⟩
theorem wml_RX12_90 : Cond.methodLink RX12 90 yX12_noShop ∈ BW := bw_of 1880 (by decide +kernel) rfl
theorem wst_X12_noShop : Cond.static yX12_noShop ∈ BW := bw_of 1881 (by decide +kernel) rfl
theorem wk_RX12_96 : Cond.constant RX12 96 (Int32.ofInt 99999) ∈ BW := bw_of 1886 (by decide +kernel) rfl
theorem yw_X12_tells : YW yX12_tells cX12_tells 3 (some .int) 2 := ⟨bw_of 1890 (by decide +kernel) rfl, bw_of 129 (by decide +kernel) rfl, ⟨by decide +kernel, by decide +kernel, by decide +kernel⟩, by decide +kernel⟩
theorem wml_RX12_97 : Cond.methodLink RX12 97 yX12_tells ∈ BW := bw_of 1887 (by decide +kernel) rfl
theorem wim_X12_tells : Cond.instanceMethod yX12_tells ∈ BW := bw_of 1889 (by decide +kernel) rfl
theorem wse_X12_tells : Cond.selects RX12 yX12_tells yX12_tells ∈ BW := bw_of 58 (by decide +kernel) rfl
theorem yw_X12_noGood : YW yX12_noGood cX12_noGood 1 (some .boolean) 1 := ⟨bw_of 1885 (by decide +kernel) rfl, bw_of 129 (by decide +kernel) rfl, ⟨by decide +kernel, by decide +kernel, by decide +kernel⟩, by decide +kernel⟩
theorem wml_RX12_93 : Cond.methodLink RX12 93 yX12_noGood ∈ BW := bw_of 1883 (by decide +kernel) rfl
theorem wst_X12_noGood : Cond.static yX12_noGood ∈ BW := bw_of 1884 (by decide +kernel) rfl
abbrev MX12_ring : MI := (RX12, cX12_ring, 4, (some .int), 5, none, "ring")
noncomputable def X12_ring_L55 (F : Nat)     (h : HP) : Option (Int × HP) :=
  some (0, h)
set_option maxRecDepth 100000 in
theorem SX12_ring_L55 {K : Ctx} {F : Nat} {r : Int} {hf : HP}       (h : HP) (E : X12_ring_L55 F    h = some (r, hf)) : Go K MX12_ring (QM K (some (vi r)) hf) hf 55 [] [] h := by
  unfold X12_ring_L55 at E
  refine go_iconst (z := 0) (n := 56) ⟨by decide, by decide⟩ dX12_ring_55 rfl ?_
  refine go_goto (tgt := 69) dX12_ring_56 rfl ?_
  cases E
  exact go_ireturn rfl dX12_ring_69
noncomputable def X12_ring_L48 (F : Nat)   (l0 : Nat) (l1 : Int) (l2 : Int) (l3 : Int) (s0 : Int) (s1 : Option Nat) (h : HP) : Option (Int × HP) :=
  (xrc h s1 12 31).bind fun a3 =>
  xb (X12_throwsIf F a3 s0 2 h) fun v1 h2 =>
  if v1 = 0 then
    (xrc h2 (some l0) 12 31).bind fun a7 =>
    xb (X12_tells F a7 (w32 ((w32 (4 * l1)) + l2)) l3 h2) fun v5 h6 =>
    some (v5, h6)
  else
    X12_ring_L55 F h2
set_option maxRecDepth 100000 in
theorem SX12_ring_L48 {K : Ctx} {F : Nat} {r : Int} {hf : HP}     (l0 : Nat) (l1 : Int) (l2 : Int) (l3 : Int) (s0 : Int) (s1 : Option Nat) (h : HP) (E : X12_ring_L48 F   l0 l1 l2 l3 s0 s1 h = some (r, hf)) : Go K MX12_ring (QM K (some (vi r)) hf) hf 48 [(0, vr (some l0)), (1, vi l1), (2, vi l2), (3, vi l3)] [vi s0, vr s1] h := by
  unfold X12_ring_L48 at E
  refine go_iconst (z := 2) (n := 49) ⟨by decide, by decide⟩ dX12_ring_48 rfl ?_
  replace E := Option.bind_eq_some_iff.mp E; obtain ⟨a3, ea3, E⟩ := E
  obtain ⟨fa3, ga3⟩ := xrc_some ea3
  replace E := xb_some E; obtain ⟨v1, h2, ev1, E⟩ := E
  refine go_callV (y := yX12_throwsIf) (n := 52) (st := []) (as := [vi s0, vi 2]) (stk9 := [vi v1]) (OX12_throwsIf ev1) yw_X12_throwsIf ci_12 ga3 wml_RX12_65 wim_X12_throwsIf wse_X12_throwsIf (Nat.le_of_ble_eq_true rfl) rfl ⟨Nat.le_of_ble_eq_true rfl, Nat.le_of_ble_eq_true rfl⟩ (Nat.le_of_ble_eq_true rfl) dX12_ring_49 rfl (by cases fa3; rfl) rfl ?_
  refine go_if_eq (tgt := 59) (n := 55) dX12_ring_52 rfl rfl (fun c4 => ?_) (fun c4 => ?_)
  · rw [if_pos c4] at E
    refine go_aload_n (j := 0) (n := 60) rfl rfl dX12_ring_59 rfl ?_
    refine go_iconst (z := 4) (n := 61) ⟨by decide, by decide⟩ dX12_ring_60 rfl ?_
    refine go_iload_n (j := 1) (n := 62) rfl rfl dX12_ring_61 rfl ?_
    refine go_imul (n := 63) dX12_ring_62 rfl ?_
    refine go_iload_n (j := 2) (n := 64) rfl rfl dX12_ring_63 rfl ?_
    refine go_iadd (n := 65) dX12_ring_64 rfl ?_
    refine go_iload_n (j := 3) (n := 66) rfl rfl dX12_ring_65 rfl ?_
    replace E := Option.bind_eq_some_iff.mp E; obtain ⟨a7, ea7, E⟩ := E
    obtain ⟨fa7, ga7⟩ := xrc_some ea7
    replace E := xb_some E; obtain ⟨v5, h6, ev5, E⟩ := E
    refine go_callV (y := yX12_tells) (n := 69) (st := []) (as := [vi (w32 ((w32 (4 * l1)) + l2)), vi l3]) (stk9 := [vi v5]) (OX12_tells ev5) yw_X12_tells ci_12 ga7 wml_RX12_97 wim_X12_tells wse_X12_tells (Nat.le_of_ble_eq_true rfl) rfl ⟨Nat.le_of_ble_eq_true rfl, Nat.le_of_ble_eq_true rfl⟩ (Nat.le_of_ble_eq_true rfl) dX12_ring_66 rfl (by cases fa7; rfl) rfl ?_
    cases E
    exact go_ireturn rfl dX12_ring_69
  · rw [if_neg c4] at E
    refine go_pick (lv' := []) [] rfl ?_
    exact SX12_ring_L55       _ E
noncomputable def X12_ring_L25 (F : Nat)   (l0 : Nat) (l1 : Int) (l2 : Int) (l3 : Int) (s0 : Int) (s1 : Option Nat) (h : HP) : Option (Int × HP) :=
  (xrc h s1 12 31).bind fun a3 =>
  xb (X12_throwsIf F a3 s0 1 h) fun v1 h2 =>
  if v1 = 0 then
    xb (X12_in F l3 0 99999 h2) fun v5 h6 =>
    X12_ring_L48 F l0 l1 l2 l3 (if v5 = 0 then 1 else 0) (some l0) h6
  else
    X12_ring_L55 F h2
set_option maxRecDepth 100000 in
theorem SX12_ring_L25 {K : Ctx} {F : Nat} {r : Int} {hf : HP}     (l0 : Nat) (l1 : Int) (l2 : Int) (l3 : Int) (s0 : Int) (s1 : Option Nat) (h : HP) (E : X12_ring_L25 F   l0 l1 l2 l3 s0 s1 h = some (r, hf)) : Go K MX12_ring (QM K (some (vi r)) hf) hf 25 [(0, vr (some l0)), (1, vi l1), (2, vi l2), (3, vi l3)] [vi s0, vr s1] h := by
  unfold X12_ring_L25 at E
  refine go_iconst (z := 1) (n := 26) ⟨by decide, by decide⟩ dX12_ring_25 rfl ?_
  replace E := Option.bind_eq_some_iff.mp E; obtain ⟨a3, ea3, E⟩ := E
  obtain ⟨fa3, ga3⟩ := xrc_some ea3
  replace E := xb_some E; obtain ⟨v1, h2, ev1, E⟩ := E
  refine go_callV (y := yX12_throwsIf) (n := 29) (st := []) (as := [vi s0, vi 1]) (stk9 := [vi v1]) (OX12_throwsIf ev1) yw_X12_throwsIf ci_12 ga3 wml_RX12_65 wim_X12_throwsIf wse_X12_throwsIf (Nat.le_of_ble_eq_true rfl) rfl ⟨Nat.le_of_ble_eq_true rfl, Nat.le_of_ble_eq_true rfl⟩ (Nat.le_of_ble_eq_true rfl) dX12_ring_26 rfl (by cases fa3; rfl) rfl ?_
  refine go_if_ne (tgt := 55) (n := 32) dX12_ring_29 rfl rfl (fun c4 => ?_) (fun c4 => ?_)
  · rw [if_neg c4] at E
    refine go_pick (lv' := []) [] rfl ?_
    exact SX12_ring_L55       _ E
  · rw [if_pos c4] at E
    refine go_aload_n (j := 0) (n := 33) rfl rfl dX12_ring_32 rfl ?_
    refine go_iload_n (j := 3) (n := 34) rfl rfl dX12_ring_33 rfl ?_
    refine go_iconst (z := 0) (n := 35) ⟨by decide, by decide⟩ dX12_ring_34 rfl ?_
    refine go_ldc (z := 99999) (n := 37) ⟨by decide, by decide⟩ wk_RX12_96 dX12_ring_35 rfl ?_
    replace E := xb_some E; obtain ⟨v5, h6, ev5, E⟩ := E
    refine go_callS (y := yX12_in) (n := 40) (st := [vr (some l0)]) (as := [vi l3, vi 0, vi 99999]) (stk9 := [vi v5, vr (some l0)]) (OX12_in ev5) yw_X12_in wml_RX12_61 wst_X12_in (Nat.le_of_ble_eq_true rfl) rfl ⟨Nat.le_of_ble_eq_true rfl, Nat.le_of_ble_eq_true rfl⟩ (Nat.le_of_ble_eq_true rfl) dX12_ring_37 rfl rfl rfl ?_
    refine go_if_ne (tgt := 47) (n := 43) dX12_ring_40 rfl rfl (fun c7 => ?_) (fun c7 => ?_)
    · simp only [if_neg c7] at E
      refine go_iconst (z := 0) (n := 48) ⟨by decide, by decide⟩ dX12_ring_47 rfl ?_
      exact SX12_ring_L48     _ _ _ _ _ _ _ E
    · simp only [if_pos c7] at E
      refine go_iconst (z := 1) (n := 44) ⟨by decide, by decide⟩ dX12_ring_43 rfl ?_
      refine go_goto (tgt := 48) dX12_ring_44 rfl ?_
      exact SX12_ring_L48     _ _ _ _ _ _ _ E
noncomputable def X12_ring_L20 (F : Nat)   (l0 : Nat) (l1 : Int) (l2 : Int) (l3 : Int) (s0 : Option Nat) (h : HP) : Option (Int × HP) :=
  X12_ring_L25 F l0 l1 l2 l3 1 s0 h
set_option maxRecDepth 100000 in
theorem SX12_ring_L20 {K : Ctx} {F : Nat} {r : Int} {hf : HP}     (l0 : Nat) (l1 : Int) (l2 : Int) (l3 : Int) (s0 : Option Nat) (h : HP) (E : X12_ring_L20 F   l0 l1 l2 l3 s0 h = some (r, hf)) : Go K MX12_ring (QM K (some (vi r)) hf) hf 20 [(0, vr (some l0)), (1, vi l1), (2, vi l2), (3, vi l3)] [vr s0] h := by
  unfold X12_ring_L20 at E
  refine go_iconst (z := 1) (n := 21) ⟨by decide, by decide⟩ dX12_ring_20 rfl ?_
  refine go_goto (tgt := 25) dX12_ring_21 rfl ?_
  exact SX12_ring_L25     _ _ _ _ _ _ _ E
noncomputable def X12_ring (F : Nat)   (l0 : Nat) (l1 : Int) (l2 : Int) (l3 : Int)  (h : HP) : Option (Int × HP) :=
  (xpI h (some l0) 12 31 0 0).bind fun h1 =>
  xb (X12_noShop F l1 h1) fun v2 h3 =>
  if v2 = 0 then
    xb (X12_noGood F l2 h3) fun v5 h6 =>
    if v5 = 0 then
      X12_ring_L25 F l0 l1 l2 l3 0 (some l0) h6
    else
      X12_ring_L20 F l0 l1 l2 l3 (some l0) h6
  else
    X12_ring_L20 F l0 l1 l2 l3 (some l0) h3
set_option maxRecDepth 100000 in
theorem SX12_ring {K : Ctx} {F : Nat} {r : Int} {hf : HP}     (l0 : Nat) (l1 : Int) (l2 : Int) (l3 : Int)  (h : HP) (E : X12_ring F   l0 l1 l2 l3 h = some (r, hf)) : Go K MX12_ring (QM K (some (vi r)) hf) hf 0 [(0, vr (some l0)), (1, vi l1), (2, vi l2), (3, vi l3)] [] h := by
  unfold X12_ring at E
  refine go_aload_n (j := 0) (n := 1) rfl rfl dX12_ring_0 rfl ?_
  refine go_iconst (z := 0) (n := 2) ⟨by decide, by decide⟩ dX12_ring_1 rfl ?_
  replace E := Option.bind_eq_some_iff.mp E; obtain ⟨h1, eh1, E⟩ := E
  refine go_putI (n := 5) eh1 fl_RX12_3 rfl dX12_ring_2 rfl ?_
  refine go_aload_n (j := 0) (n := 6) rfl rfl dX12_ring_5 rfl ?_
  refine go_iload_n (j := 1) (n := 7) rfl rfl dX12_ring_6 rfl ?_
  replace E := xb_some E; obtain ⟨v2, h3, ev2, E⟩ := E
  refine go_callS (y := yX12_noShop) (n := 10) (st := [vr (some l0)]) (as := [vi l1]) (stk9 := [vi v2, vr (some l0)]) (OX12_noShop ev2) yw_X12_noShop wml_RX12_90 wst_X12_noShop (Nat.le_of_ble_eq_true rfl) rfl ⟨Nat.le_of_ble_eq_true rfl, Nat.le_of_ble_eq_true rfl⟩ (Nat.le_of_ble_eq_true rfl) dX12_ring_7 rfl rfl rfl ?_
  refine go_if_ne (tgt := 20) (n := 13) dX12_ring_10 rfl rfl (fun c4 => ?_) (fun c4 => ?_)
  · rw [if_neg c4] at E
    exact SX12_ring_L20     _ _ _ _ _ _ E
  · rw [if_pos c4] at E
    refine go_iload_n (j := 2) (n := 14) rfl rfl dX12_ring_13 rfl ?_
    replace E := xb_some E; obtain ⟨v5, h6, ev5, E⟩ := E
    refine go_callS (y := yX12_noGood) (n := 17) (st := [vr (some l0)]) (as := [vi l2]) (stk9 := [vi v5, vr (some l0)]) (OX12_noGood ev5) yw_X12_noGood wml_RX12_93 wst_X12_noGood (Nat.le_of_ble_eq_true rfl) rfl ⟨Nat.le_of_ble_eq_true rfl, Nat.le_of_ble_eq_true rfl⟩ (Nat.le_of_ble_eq_true rfl) dX12_ring_14 rfl rfl rfl ?_
    refine go_if_eq (tgt := 24) (n := 20) dX12_ring_17 rfl rfl (fun c7 => ?_) (fun c7 => ?_)
    · rw [if_pos c7] at E
      refine go_iconst (z := 0) (n := 25) ⟨by decide, by decide⟩ dX12_ring_24 rfl ?_
      exact SX12_ring_L25     _ _ _ _ _ _ _ E
    · rw [if_neg c7] at E
      exact SX12_ring_L20     _ _ _ _ _ _ E
theorem OX12_ring {F : Nat} {l0 : Nat} {l1 : Int} {l2 : Int} {l3 : Int} {h hf : HP} {r : Int} (e : X12_ring F l0 l1 l2 l3 h = some (r, hf)) : Ok MX12_ring [vr (some l0), vi l1, vi l2, vi l3] (some (vi r)) h hf := fun K _ _ _ => SX12_ring l0 l1 l2 l3 h e
abbrev MX12_tell : MI := (RX12, cX12_tell, 3, (some .int), 5, none, "tell")
noncomputable def X12_tell_L41 (F : Nat)     (h : HP) : Option (Int × HP) :=
  some (0, h)
set_option maxRecDepth 100000 in
theorem SX12_tell_L41 {K : Ctx} {F : Nat} {r : Int} {hf : HP}       (h : HP) (E : X12_tell_L41 F    h = some (r, hf)) : Go K MX12_tell (QM K (some (vi r)) hf) hf 41 [] [] h := by
  unfold X12_tell_L41 at E
  refine go_iconst (z := 0) (n := 42) ⟨by decide, by decide⟩ dX12_tell_41 rfl ?_
  refine go_goto (tgt := 51) dX12_tell_42 rfl ?_
  cases E
  exact go_ireturn rfl dX12_tell_51
noncomputable def X12_tell_L34 (F : Nat)   (l0 : Nat) (l1 : Int) (l2 : Int) (s0 : Int) (s1 : Option Nat) (h : HP) : Option (Int × HP) :=
  (xrc h s1 12 31).bind fun a3 =>
  xb (X12_throwsIf F a3 s0 2 h) fun v1 h2 =>
  if v1 = 0 then
    (xrc h2 (some l0) 12 31).bind fun a7 =>
    xb (X12_tells F a7 l1 l2 h2) fun v5 h6 =>
    some (v5, h6)
  else
    X12_tell_L41 F h2
set_option maxRecDepth 100000 in
theorem SX12_tell_L34 {K : Ctx} {F : Nat} {r : Int} {hf : HP}     (l0 : Nat) (l1 : Int) (l2 : Int) (s0 : Int) (s1 : Option Nat) (h : HP) (E : X12_tell_L34 F   l0 l1 l2 s0 s1 h = some (r, hf)) : Go K MX12_tell (QM K (some (vi r)) hf) hf 34 [(0, vr (some l0)), (1, vi l1), (2, vi l2)] [vi s0, vr s1] h := by
  unfold X12_tell_L34 at E
  refine go_iconst (z := 2) (n := 35) ⟨by decide, by decide⟩ dX12_tell_34 rfl ?_
  replace E := Option.bind_eq_some_iff.mp E; obtain ⟨a3, ea3, E⟩ := E
  obtain ⟨fa3, ga3⟩ := xrc_some ea3
  replace E := xb_some E; obtain ⟨v1, h2, ev1, E⟩ := E
  refine go_callV (y := yX12_throwsIf) (n := 38) (st := []) (as := [vi s0, vi 2]) (stk9 := [vi v1]) (OX12_throwsIf ev1) yw_X12_throwsIf ci_12 ga3 wml_RX12_65 wim_X12_throwsIf wse_X12_throwsIf (Nat.le_of_ble_eq_true rfl) rfl ⟨Nat.le_of_ble_eq_true rfl, Nat.le_of_ble_eq_true rfl⟩ (Nat.le_of_ble_eq_true rfl) dX12_tell_35 rfl (by cases fa3; rfl) rfl ?_
  refine go_if_eq (tgt := 45) (n := 41) dX12_tell_38 rfl rfl (fun c4 => ?_) (fun c4 => ?_)
  · rw [if_pos c4] at E
    refine go_aload_n (j := 0) (n := 46) rfl rfl dX12_tell_45 rfl ?_
    refine go_iload_n (j := 1) (n := 47) rfl rfl dX12_tell_46 rfl ?_
    refine go_iload_n (j := 2) (n := 48) rfl rfl dX12_tell_47 rfl ?_
    replace E := Option.bind_eq_some_iff.mp E; obtain ⟨a7, ea7, E⟩ := E
    obtain ⟨fa7, ga7⟩ := xrc_some ea7
    replace E := xb_some E; obtain ⟨v5, h6, ev5, E⟩ := E
    refine go_callV (y := yX12_tells) (n := 51) (st := []) (as := [vi l1, vi l2]) (stk9 := [vi v5]) (OX12_tells ev5) yw_X12_tells ci_12 ga7 wml_RX12_97 wim_X12_tells wse_X12_tells (Nat.le_of_ble_eq_true rfl) rfl ⟨Nat.le_of_ble_eq_true rfl, Nat.le_of_ble_eq_true rfl⟩ (Nat.le_of_ble_eq_true rfl) dX12_tell_48 rfl (by cases fa7; rfl) rfl ?_
    cases E
    exact go_ireturn rfl dX12_tell_51
  · rw [if_neg c4] at E
    refine go_pick (lv' := []) [] rfl ?_
    exact SX12_tell_L41       _ E
noncomputable def X12_tell (F : Nat)   (l0 : Nat) (l1 : Int) (l2 : Int)  (h : HP) : Option (Int × HP) :=
  (xpI h (some l0) 12 31 0 0).bind fun h1 =>
  xb (X12_noWord F l1 h1) fun v2 h3 =>
  (xrc h3 (some l0) 12 31).bind fun a6 =>
  xb (X12_throwsIf F a6 v2 1 h3) fun v4 h5 =>
  if v4 = 0 then
    xb (X12_in F l2 (-999999999) 999999999 h5) fun v8 h9 =>
    X12_tell_L34 F l0 l1 l2 (if v8 = 0 then 1 else 0) (some l0) h9
  else
    X12_tell_L41 F h5
set_option maxRecDepth 100000 in
theorem SX12_tell {K : Ctx} {F : Nat} {r : Int} {hf : HP}     (l0 : Nat) (l1 : Int) (l2 : Int)  (h : HP) (E : X12_tell F   l0 l1 l2 h = some (r, hf)) : Go K MX12_tell (QM K (some (vi r)) hf) hf 0 [(0, vr (some l0)), (1, vi l1), (2, vi l2)] [] h := by
  unfold X12_tell at E
  refine go_aload_n (j := 0) (n := 1) rfl rfl dX12_tell_0 rfl ?_
  refine go_iconst (z := 0) (n := 2) ⟨by decide, by decide⟩ dX12_tell_1 rfl ?_
  replace E := Option.bind_eq_some_iff.mp E; obtain ⟨h1, eh1, E⟩ := E
  refine go_putI (n := 5) eh1 fl_RX12_3 rfl dX12_tell_2 rfl ?_
  refine go_aload_n (j := 0) (n := 6) rfl rfl dX12_tell_5 rfl ?_
  refine go_iload_n (j := 1) (n := 7) rfl rfl dX12_tell_6 rfl ?_
  replace E := xb_some E; obtain ⟨v2, h3, ev2, E⟩ := E
  refine go_callS (y := yX12_noWord) (n := 10) (st := [vr (some l0)]) (as := [vi l1]) (stk9 := [vi v2, vr (some l0)]) (OX12_noWord ev2) yw_X12_noWord wml_RX12_69 wst_X12_noWord (Nat.le_of_ble_eq_true rfl) rfl ⟨Nat.le_of_ble_eq_true rfl, Nat.le_of_ble_eq_true rfl⟩ (Nat.le_of_ble_eq_true rfl) dX12_tell_7 rfl rfl rfl ?_
  refine go_iconst (z := 1) (n := 11) ⟨by decide, by decide⟩ dX12_tell_10 rfl ?_
  replace E := Option.bind_eq_some_iff.mp E; obtain ⟨a6, ea6, E⟩ := E
  obtain ⟨fa6, ga6⟩ := xrc_some ea6
  replace E := xb_some E; obtain ⟨v4, h5, ev4, E⟩ := E
  refine go_callV (y := yX12_throwsIf) (n := 14) (st := []) (as := [vi v2, vi 1]) (stk9 := [vi v4]) (OX12_throwsIf ev4) yw_X12_throwsIf ci_12 ga6 wml_RX12_65 wim_X12_throwsIf wse_X12_throwsIf (Nat.le_of_ble_eq_true rfl) rfl ⟨Nat.le_of_ble_eq_true rfl, Nat.le_of_ble_eq_true rfl⟩ (Nat.le_of_ble_eq_true rfl) dX12_tell_11 rfl (by cases fa6; rfl) rfl ?_
  refine go_if_ne (tgt := 41) (n := 17) dX12_tell_14 rfl rfl (fun c7 => ?_) (fun c7 => ?_)
  · rw [if_neg c7] at E
    refine go_pick (lv' := []) [] rfl ?_
    exact SX12_tell_L41       _ E
  · rw [if_pos c7] at E
    refine go_aload_n (j := 0) (n := 18) rfl rfl dX12_tell_17 rfl ?_
    refine go_iload_n (j := 2) (n := 19) rfl rfl dX12_tell_18 rfl ?_
    refine go_ldc (z := (-999999999)) (n := 21) ⟨by decide, by decide⟩ wk_RX12_73 dX12_tell_19 rfl ?_
    refine go_ldc (z := 999999999) (n := 23) ⟨by decide, by decide⟩ wk_RX12_74 dX12_tell_21 rfl ?_
    replace E := xb_some E; obtain ⟨v8, h9, ev8, E⟩ := E
    refine go_callS (y := yX12_in) (n := 26) (st := [vr (some l0)]) (as := [vi l2, vi (-999999999), vi 999999999]) (stk9 := [vi v8, vr (some l0)]) (OX12_in ev8) yw_X12_in wml_RX12_61 wst_X12_in (Nat.le_of_ble_eq_true rfl) rfl ⟨Nat.le_of_ble_eq_true rfl, Nat.le_of_ble_eq_true rfl⟩ (Nat.le_of_ble_eq_true rfl) dX12_tell_23 rfl rfl rfl ?_
    refine go_if_ne (tgt := 33) (n := 29) dX12_tell_26 rfl rfl (fun c10 => ?_) (fun c10 => ?_)
    · simp only [if_neg c10] at E
      refine go_iconst (z := 0) (n := 34) ⟨by decide, by decide⟩ dX12_tell_33 rfl ?_
      exact SX12_tell_L34     _ _ _ _ _ _ E
    · simp only [if_pos c10] at E
      refine go_iconst (z := 1) (n := 30) ⟨by decide, by decide⟩ dX12_tell_29 rfl ?_
      refine go_goto (tgt := 34) dX12_tell_30 rfl ?_
      exact SX12_tell_L34     _ _ _ _ _ _ E
theorem OX12_tell {F : Nat} {l0 : Nat} {l1 : Int} {l2 : Int} {h hf : HP} {r : Int} (e : X12_tell F l0 l1 l2 h = some (r, hf)) : Ok MX12_tell [vr (some l0), vi l1, vi l2] (some (vi r)) h hf := fun K _ _ _ => SX12_tell l0 l1 l2 h e
abbrev MX12_word : MI := (RX12, cX12_word, 2, (some .int), 4, none, "word")
noncomputable def X12_word (F : Nat)   (l0 : Nat) (l1 : Int)  (h : HP) : Option (Int × HP) :=
  (xpI h (some l0) 12 31 0 0).bind fun h1 =>
  xb (X12_noWord F l1 h1) fun v2 h3 =>
  (xrc h3 (some l0) 12 31).bind fun a6 =>
  xb (X12_throwsIf F a6 v2 1 h3) fun v4 h5 =>
  if v4 = 0 then
    (xgP h5 (some l0) 12 31 1).bind fun v8 =>
    (xaI h5 v8 100 (w32 (9 + l1))).bind fun v9 =>
    some (v9, h5)
  else
    some (0, h5)
set_option maxRecDepth 100000 in
theorem SX12_word {K : Ctx} {F : Nat} {r : Int} {hf : HP}     (l0 : Nat) (l1 : Int)  (h : HP) (E : X12_word F   l0 l1 h = some (r, hf)) : Go K MX12_word (QM K (some (vi r)) hf) hf 0 [(0, vr (some l0)), (1, vi l1)] [] h := by
  unfold X12_word at E
  refine go_aload_n (j := 0) (n := 1) rfl rfl dX12_word_0 rfl ?_
  refine go_iconst (z := 0) (n := 2) ⟨by decide, by decide⟩ dX12_word_1 rfl ?_
  replace E := Option.bind_eq_some_iff.mp E; obtain ⟨h1, eh1, E⟩ := E
  refine go_putI (n := 5) eh1 fl_RX12_3 rfl dX12_word_2 rfl ?_
  refine go_aload_n (j := 0) (n := 6) rfl rfl dX12_word_5 rfl ?_
  refine go_iload_n (j := 1) (n := 7) rfl rfl dX12_word_6 rfl ?_
  replace E := xb_some E; obtain ⟨v2, h3, ev2, E⟩ := E
  refine go_callS (y := yX12_noWord) (n := 10) (st := [vr (some l0)]) (as := [vi l1]) (stk9 := [vi v2, vr (some l0)]) (OX12_noWord ev2) yw_X12_noWord wml_RX12_69 wst_X12_noWord (Nat.le_of_ble_eq_true rfl) rfl ⟨Nat.le_of_ble_eq_true rfl, Nat.le_of_ble_eq_true rfl⟩ (Nat.le_of_ble_eq_true rfl) dX12_word_7 rfl rfl rfl ?_
  refine go_iconst (z := 1) (n := 11) ⟨by decide, by decide⟩ dX12_word_10 rfl ?_
  replace E := Option.bind_eq_some_iff.mp E; obtain ⟨a6, ea6, E⟩ := E
  obtain ⟨fa6, ga6⟩ := xrc_some ea6
  replace E := xb_some E; obtain ⟨v4, h5, ev4, E⟩ := E
  refine go_callV (y := yX12_throwsIf) (n := 14) (st := []) (as := [vi v2, vi 1]) (stk9 := [vi v4]) (OX12_throwsIf ev4) yw_X12_throwsIf ci_12 ga6 wml_RX12_65 wim_X12_throwsIf wse_X12_throwsIf (Nat.le_of_ble_eq_true rfl) rfl ⟨Nat.le_of_ble_eq_true rfl, Nat.le_of_ble_eq_true rfl⟩ (Nat.le_of_ble_eq_true rfl) dX12_word_11 rfl (by cases fa6; rfl) rfl ?_
  refine go_if_eq (tgt := 21) (n := 17) dX12_word_14 rfl rfl (fun c7 => ?_) (fun c7 => ?_)
  · rw [if_pos c7] at E
    refine go_aload_n (j := 0) (n := 22) rfl rfl dX12_word_21 rfl ?_
    replace E := Option.bind_eq_some_iff.mp E; obtain ⟨v8, ev8, E⟩ := E
    refine go_getP (n := 25) ev8 fl_RX12_14 rfl dX12_word_22 rfl ?_
    refine go_bipush (z := 9) (n := 27) ⟨by decide, by decide⟩ dX12_word_25 rfl ?_
    refine go_iload_n (j := 1) (n := 28) rfl rfl dX12_word_27 rfl ?_
    refine go_iadd (n := 29) dX12_word_28 rfl ?_
    replace E := Option.bind_eq_some_iff.mp E; obtain ⟨v9, ev9, E⟩ := E
    refine go_iaload (n := 30) ev9 dX12_word_29 rfl ?_
    cases E
    exact go_ireturn rfl dX12_word_30
  · rw [if_neg c7] at E
    refine go_iconst (z := 0) (n := 18) ⟨by decide, by decide⟩ dX12_word_17 rfl ?_
    refine go_goto (tgt := 30) dX12_word_18 rfl ?_
    cases E
    exact go_ireturn rfl dX12_word_30
theorem OX12_word {F : Nat} {l0 : Nat} {l1 : Int} {h hf : HP} {r : Int} (e : X12_word F l0 l1 h = some (r, hf)) : Ok MX12_word [vr (some l0), vi l1] (some (vi r)) h hf := fun K _ _ _ => SX12_word l0 l1 h e
abbrev MX12_of : MI := (RX12, cX12_of, 3, (some .int), 3, none, "of")
noncomputable def X12_of (F : Nat)   (l0 : Nat) (l1 : Int) (l2 : Int)  (h : HP) : Option (Int × HP) :=
  (xgP h (some l0) 12 31 1).bind fun v1 =>
  (xrc h (some l0) 12 31).bind fun a4 =>
  xb (X12_writingAt F a4 l1 l2 h) fun v2 h3 =>
  (xaI h3 v1 100 v2).bind fun v5 =>
  some (v5, h3)
set_option maxRecDepth 100000 in
theorem SX12_of {K : Ctx} {F : Nat} {r : Int} {hf : HP}     (l0 : Nat) (l1 : Int) (l2 : Int)  (h : HP) (E : X12_of F   l0 l1 l2 h = some (r, hf)) : Go K MX12_of (QM K (some (vi r)) hf) hf 0 [(0, vr (some l0)), (1, vi l1), (2, vi l2)] [] h := by
  unfold X12_of at E
  refine go_aload_n (j := 0) (n := 1) rfl rfl dX12_of_0 rfl ?_
  replace E := Option.bind_eq_some_iff.mp E; obtain ⟨v1, ev1, E⟩ := E
  refine go_getP (n := 4) ev1 fl_RX12_14 rfl dX12_of_1 rfl ?_
  refine go_aload_n (j := 0) (n := 5) rfl rfl dX12_of_4 rfl ?_
  refine go_iload_n (j := 1) (n := 6) rfl rfl dX12_of_5 rfl ?_
  refine go_iload_n (j := 2) (n := 7) rfl rfl dX12_of_6 rfl ?_
  replace E := Option.bind_eq_some_iff.mp E; obtain ⟨a4, ea4, E⟩ := E
  obtain ⟨fa4, ga4⟩ := xrc_some ea4
  replace E := xb_some E; obtain ⟨v2, h3, ev2, E⟩ := E
  refine go_callV (y := yX12_writingAt) (n := 10) (st := [vr v1]) (as := [vi l1, vi l2]) (stk9 := [vi v2, vr v1]) (OX12_writingAt ev2) yw_X12_writingAt ci_12 ga4 wml_RX12_75 wim_X12_writingAt wse_X12_writingAt (Nat.le_of_ble_eq_true rfl) rfl ⟨Nat.le_of_ble_eq_true rfl, Nat.le_of_ble_eq_true rfl⟩ (Nat.le_of_ble_eq_true rfl) dX12_of_7 rfl (by cases fa4; rfl) rfl ?_
  replace E := Option.bind_eq_some_iff.mp E; obtain ⟨v5, ev5, E⟩ := E
  refine go_iaload (n := 11) ev5 dX12_of_10 rfl ?_
  cases E
  exact go_ireturn rfl dX12_of_11
theorem OX12_of {F : Nat} {l0 : Nat} {l1 : Int} {l2 : Int} {h hf : HP} {r : Int} (e : X12_of F l0 l1 l2 h = some (r, hf)) : Ok MX12_of [vr (some l0), vi l1, vi l2] (some (vi r)) h hf := fun K _ _ _ => SX12_of l0 l1 l2 h e
theorem yw_X12_of : YW yX12_of cX12_of 3 (some .int) 2 := ⟨bw_of 1926 (by decide +kernel) rfl, bw_of 129 (by decide +kernel) rfl, ⟨by decide +kernel, by decide +kernel, by decide +kernel⟩, by decide +kernel⟩
theorem wml_RX12_100 : Cond.methodLink RX12 100 yX12_of ∈ BW := bw_of 1923 (by decide +kernel) rfl
theorem wim_X12_of : Cond.instanceMethod yX12_of ∈ BW := bw_of 1925 (by decide +kernel) rfl
theorem wse_X12_of : Cond.selects RX12 yX12_of yX12_of ∈ BW := bw_of 64 (by decide +kernel) rfl
abbrev MX12_latest : MI := (RX12, cX12_latest, 4, (some .int), 4, none, "latest")
noncomputable def X12_latest_L31 (F : Nat)  (rc7 : Nat → Int → Int → Int → HP → Option (Int × HP)) (l0 : Nat) (l1 : Int) (l2 : Int) (l3 : Int)  (h : HP) : Option (Int × HP) :=
  rc7 l0 l1 l2 (w32 (l3 + (-1))) h
set_option maxRecDepth 100000 in
theorem SX12_latest_L31 {K : Ctx} {F : Nat} {r : Int} {hf : HP}   (rc7 : Nat → Int → Int → Int → HP → Option (Int × HP)) (hrc7 : ∀ l0 l1 l2 l3 h, rc7 l0 l1 l2 l3 h = some (r, hf) → Go K MX12_latest (QM K (some (vi r)) hf) hf 7 [(0, vr (some l0)), (1, vi l1), (2, vi l2), (3, vi l3)] [] h) (l0 : Nat) (l1 : Int) (l2 : Int) (l3 : Int)  (h : HP) (E : X12_latest_L31 F  rc7 l0 l1 l2 l3 h = some (r, hf)) : Go K MX12_latest (QM K (some (vi r)) hf) hf 31 [(0, vr (some l0)), (1, vi l1), (2, vi l2), (3, vi l3)] [] h := by
  unfold X12_latest_L31 at E
  refine go_iinc (j := 3) (n := 34) (lv' := [(3, vi (w32 (l3 + (-1)))), (0, vr (some l0)), (1, vi l1), (2, vi l2)]) rfl dX12_latest_31 rfl (Nat.le_of_ble_eq_true rfl) rfl ?_
  refine go_goto (tgt := 7) dX12_latest_34 rfl ?_
  refine go_pick (lv' := [(0, vr (some l0)), (1, vi l1), (2, vi l2), (3, vi (w32 (l3 + (-1))))]) [1, 2, 3, 0] rfl ?_
  exact hrc7 _ _ _ _ _ E
noncomputable def X12_latest_L7 (F : Nat)   (k : Nat) : Nat → Int → Int → Int → HP → Option (Int × HP) :=
  Nat.rec (motive := fun _ => Nat → Int → Int → Int → HP → Option (Int × HP)) (fun _ _ _ _ _ => none) (fun _ rc7 l0 l1 l2 l3 h =>
    if l3 < 0 then
      some (l3, h)
    else
      (xrc h (some l0) 12 31).bind fun a4 =>
      xb (X12_of F a4 l3 1 h) fun v2 h3 =>
      if v2 = l1 then
        (xrc h3 (some l0) 12 31).bind fun a8 =>
        xb (X12_of F a8 l3 0 h3) fun v6 h7 =>
        if v6 ≤ l2 then
          some (l3, h7)
        else
          X12_latest_L31 F rc7 l0 l1 l2 l3 h7
      else
        X12_latest_L31 F rc7 l0 l1 l2 l3 h3) k
theorem X12_latest_L7_s (F : Nat)   (k : Nat) (l0 : Nat) (l1 : Int) (l2 : Int) (l3 : Int)  (h : HP) : X12_latest_L7 F   (k + 1) l0 l1 l2 l3 h =
    if l3 < 0 then
      some (l3, h)
    else
      (xrc h (some l0) 12 31).bind fun a4 =>
      xb (X12_of F a4 l3 1 h) fun v2 h3 =>
      if v2 = l1 then
        (xrc h3 (some l0) 12 31).bind fun a8 =>
        xb (X12_of F a8 l3 0 h3) fun v6 h7 =>
        if v6 ≤ l2 then
          some (l3, h7)
        else
          X12_latest_L31 F (X12_latest_L7 F k) l0 l1 l2 l3 h7
      else
        X12_latest_L31 F (X12_latest_L7 F k) l0 l1 l2 l3 h3 := rfl
set_option maxRecDepth 100000 in
theorem SX12_latest_L7 {K : Ctx} {F : Nat} {r : Int} {hf : HP}     : ∀ (k : Nat) (l0 : Nat) (l1 : Int) (l2 : Int) (l3 : Int)  (h : HP), X12_latest_L7 F   k l0 l1 l2 l3 h = some (r, hf) → Go K MX12_latest (QM K (some (vi r)) hf) hf 7 [(0, vr (some l0)), (1, vi l1), (2, vi l2), (3, vi l3)] [] h := by
  intro k
  induction k with
  | zero => intro l0 l1 l2 l3 h E; exact nomatch E
  | succ k hrc7 =>
    intro l0 l1 l2 l3 h E
    rw [X12_latest_L7_s] at E
    refine go_iload_n (j := 3) (n := 8) rfl rfl dX12_latest_7 rfl ?_
    refine go_if_lt (tgt := 37) (n := 11) dX12_latest_8 rfl rfl (fun c1 => ?_) (fun c1 => ?_)
    · rw [if_pos c1] at E
      refine go_iload_n (j := 3) (n := 38) rfl rfl dX12_latest_37 rfl ?_
      cases E
      exact go_ireturn rfl dX12_latest_38
    · rw [if_neg c1] at E
      refine go_aload_n (j := 0) (n := 12) rfl rfl dX12_latest_11 rfl ?_
      refine go_iload_n (j := 3) (n := 13) rfl rfl dX12_latest_12 rfl ?_
      refine go_iconst (z := 1) (n := 14) ⟨by decide, by decide⟩ dX12_latest_13 rfl ?_
      replace E := Option.bind_eq_some_iff.mp E; obtain ⟨a4, ea4, E⟩ := E
      obtain ⟨fa4, ga4⟩ := xrc_some ea4
      replace E := xb_some E; obtain ⟨v2, h3, ev2, E⟩ := E
      refine go_callV (y := yX12_of) (n := 17) (st := []) (as := [vi l3, vi 1]) (stk9 := [vi v2]) (OX12_of ev2) yw_X12_of ci_12 ga4 wml_RX12_100 wim_X12_of wse_X12_of (Nat.le_of_ble_eq_true rfl) rfl ⟨Nat.le_of_ble_eq_true rfl, Nat.le_of_ble_eq_true rfl⟩ (Nat.le_of_ble_eq_true rfl) dX12_latest_14 rfl (by cases fa4; rfl) rfl ?_
      refine go_iload_n (j := 1) (n := 18) rfl rfl dX12_latest_17 rfl ?_
      refine go_icmp_ne (tgt := 31) (n := 21) dX12_latest_18 rfl rfl (fun c5 => ?_) (fun c5 => ?_)
      · rw [if_neg c5] at E
        exact SX12_latest_L31   _ hrc7 _ _ _ _  _ E
      · rw [if_pos c5] at E
        refine go_aload_n (j := 0) (n := 22) rfl rfl dX12_latest_21 rfl ?_
        refine go_iload_n (j := 3) (n := 23) rfl rfl dX12_latest_22 rfl ?_
        refine go_iconst (z := 0) (n := 24) ⟨by decide, by decide⟩ dX12_latest_23 rfl ?_
        replace E := Option.bind_eq_some_iff.mp E; obtain ⟨a8, ea8, E⟩ := E
        obtain ⟨fa8, ga8⟩ := xrc_some ea8
        replace E := xb_some E; obtain ⟨v6, h7, ev6, E⟩ := E
        refine go_callV (y := yX12_of) (n := 27) (st := []) (as := [vi l3, vi 0]) (stk9 := [vi v6]) (OX12_of ev6) yw_X12_of ci_12 ga8 wml_RX12_100 wim_X12_of wse_X12_of (Nat.le_of_ble_eq_true rfl) rfl ⟨Nat.le_of_ble_eq_true rfl, Nat.le_of_ble_eq_true rfl⟩ (Nat.le_of_ble_eq_true rfl) dX12_latest_24 rfl (by cases fa8; rfl) rfl ?_
        refine go_iload_n (j := 2) (n := 28) rfl rfl dX12_latest_27 rfl ?_
        refine go_icmp_le (tgt := 37) (n := 31) dX12_latest_28 rfl rfl (fun c9 => ?_) (fun c9 => ?_)
        · rw [if_pos c9] at E
          refine go_iload_n (j := 3) (n := 38) rfl rfl dX12_latest_37 rfl ?_
          cases E
          exact go_ireturn rfl dX12_latest_38
        · rw [if_neg c9] at E
          exact SX12_latest_L31   _ hrc7 _ _ _ _  _ E
noncomputable def X12_latest (F : Nat)   (l0 : Nat) (l1 : Int) (l2 : Int)  (h : HP) : Option (Int × HP) :=
  (xrc h (some l0) 12 31).bind fun a3 =>
  xb (X12_writings F a3 h) fun v1 h2 =>
  X12_latest_L7 F F l0 l1 l2 (w32 (v1 - 1)) h2
set_option maxRecDepth 100000 in
theorem SX12_latest {K : Ctx} {F : Nat} {r : Int} {hf : HP}     (l0 : Nat) (l1 : Int) (l2 : Int)  (h : HP) (E : X12_latest F   l0 l1 l2 h = some (r, hf)) : Go K MX12_latest (QM K (some (vi r)) hf) hf 0 [(0, vr (some l0)), (1, vi l1), (2, vi l2)] [] h := by
  unfold X12_latest at E
  refine go_aload_n (j := 0) (n := 1) rfl rfl dX12_latest_0 rfl ?_
  replace E := Option.bind_eq_some_iff.mp E; obtain ⟨a3, ea3, E⟩ := E
  obtain ⟨fa3, ga3⟩ := xrc_some ea3
  replace E := xb_some E; obtain ⟨v1, h2, ev1, E⟩ := E
  refine go_callV (y := yX12_writings) (n := 4) (st := []) (as := []) (stk9 := [vi v1]) (OX12_writings ev1) yw_X12_writings ci_12 ga3 wml_RX12_79 wim_X12_writings wse_X12_writings (Nat.le_of_ble_eq_true rfl) rfl ⟨Nat.le_of_ble_eq_true rfl, Nat.le_of_ble_eq_true rfl⟩ (Nat.le_of_ble_eq_true rfl) dX12_latest_1 rfl (by cases fa3; rfl) rfl ?_
  refine go_iconst (z := 1) (n := 5) ⟨by decide, by decide⟩ dX12_latest_4 rfl ?_
  refine go_isub (n := 6) dX12_latest_5 rfl ?_
  refine go_istore_n (n := 7) (lv' := [(3, vi (w32 (v1 - 1))), (0, vr (some l0)), (1, vi l1), (2, vi l2)]) rfl dX12_latest_6 rfl (Nat.le_of_ble_eq_true rfl) rfl ?_
  refine go_pick (lv' := [(0, vr (some l0)), (1, vi l1), (2, vi l2), (3, vi (w32 (v1 - 1)))]) [1, 2, 3, 0] rfl ?_
  exact SX12_latest_L7     F _ _ _ _ _ E
theorem OX12_latest {F : Nat} {l0 : Nat} {l1 : Int} {l2 : Int} {h hf : HP} {r : Int} (e : X12_latest F l0 l1 l2 h = some (r, hf)) : Ok MX12_latest [vr (some l0), vi l1, vi l2] (some (vi r)) h hf := fun K _ _ _ => SX12_latest l0 l1 l2 h e
theorem yw_X12_latest : YW yX12_latest cX12_latest 4 (some .int) 2 := ⟨bw_of 1922 (by decide +kernel) rfl, bw_of 129 (by decide +kernel) rfl, ⟨by decide +kernel, by decide +kernel, by decide +kernel⟩, by decide +kernel⟩
theorem wml_RX12_103 : Cond.methodLink RX12 103 yX12_latest ∈ BW := bw_of 1919 (by decide +kernel) rfl
theorem wim_X12_latest : Cond.instanceMethod yX12_latest ∈ BW := bw_of 1921 (by decide +kernel) rfl
theorem wse_X12_latest : Cond.selects RX12 yX12_latest yX12_latest ∈ BW := bw_of 63 (by decide +kernel) rfl
abbrev MX12_as : MI := (RX12, cX12_as, 4, (some .int), 5, none, "as")
noncomputable def X12_as (F : Nat)   (l0 : Nat) (l1 : Int) (l2 : Int)  (h : HP) : Option (Int × HP) :=
  (xpI h (some l0) 12 31 0 0).bind fun h1 =>
  xb (X12_noWord F l1 h1) fun v2 h3 =>
  (xrc h3 (some l0) 12 31).bind fun a6 =>
  xb (X12_throwsIf F a6 v2 1 h3) fun v4 h5 =>
  if v4 = 0 then
    (xrc h5 (some l0) 12 31).bind fun a10 =>
    xb (X12_latest F a10 l1 l2 h5) fun v8 h9 =>
    if 0 ≤ v8 then
      (xrc h9 (some l0) 12 31).bind fun a14 =>
      xb (X12_of F a14 v8 2 h9) fun v12 h13 =>
      some (v12, h13)
    else
      some (0, h9)
  else
    some (0, h5)
set_option maxRecDepth 100000 in
theorem SX12_as {K : Ctx} {F : Nat} {r : Int} {hf : HP}     (l0 : Nat) (l1 : Int) (l2 : Int)  (h : HP) (E : X12_as F   l0 l1 l2 h = some (r, hf)) : Go K MX12_as (QM K (some (vi r)) hf) hf 0 [(0, vr (some l0)), (1, vi l1), (2, vi l2)] [] h := by
  unfold X12_as at E
  refine go_aload_n (j := 0) (n := 1) rfl rfl dX12_as_0 rfl ?_
  refine go_iconst (z := 0) (n := 2) ⟨by decide, by decide⟩ dX12_as_1 rfl ?_
  replace E := Option.bind_eq_some_iff.mp E; obtain ⟨h1, eh1, E⟩ := E
  refine go_putI (n := 5) eh1 fl_RX12_3 rfl dX12_as_2 rfl ?_
  refine go_aload_n (j := 0) (n := 6) rfl rfl dX12_as_5 rfl ?_
  refine go_iload_n (j := 1) (n := 7) rfl rfl dX12_as_6 rfl ?_
  replace E := xb_some E; obtain ⟨v2, h3, ev2, E⟩ := E
  refine go_callS (y := yX12_noWord) (n := 10) (st := [vr (some l0)]) (as := [vi l1]) (stk9 := [vi v2, vr (some l0)]) (OX12_noWord ev2) yw_X12_noWord wml_RX12_69 wst_X12_noWord (Nat.le_of_ble_eq_true rfl) rfl ⟨Nat.le_of_ble_eq_true rfl, Nat.le_of_ble_eq_true rfl⟩ (Nat.le_of_ble_eq_true rfl) dX12_as_7 rfl rfl rfl ?_
  refine go_iconst (z := 1) (n := 11) ⟨by decide, by decide⟩ dX12_as_10 rfl ?_
  replace E := Option.bind_eq_some_iff.mp E; obtain ⟨a6, ea6, E⟩ := E
  obtain ⟨fa6, ga6⟩ := xrc_some ea6
  replace E := xb_some E; obtain ⟨v4, h5, ev4, E⟩ := E
  refine go_callV (y := yX12_throwsIf) (n := 14) (st := []) (as := [vi v2, vi 1]) (stk9 := [vi v4]) (OX12_throwsIf ev4) yw_X12_throwsIf ci_12 ga6 wml_RX12_65 wim_X12_throwsIf wse_X12_throwsIf (Nat.le_of_ble_eq_true rfl) rfl ⟨Nat.le_of_ble_eq_true rfl, Nat.le_of_ble_eq_true rfl⟩ (Nat.le_of_ble_eq_true rfl) dX12_as_11 rfl (by cases fa6; rfl) rfl ?_
  refine go_if_eq (tgt := 19) (n := 17) dX12_as_14 rfl rfl (fun c7 => ?_) (fun c7 => ?_)
  · rw [if_pos c7] at E
    refine go_aload_n (j := 0) (n := 20) rfl rfl dX12_as_19 rfl ?_
    refine go_iload_n (j := 1) (n := 21) rfl rfl dX12_as_20 rfl ?_
    refine go_iload_n (j := 2) (n := 22) rfl rfl dX12_as_21 rfl ?_
    replace E := Option.bind_eq_some_iff.mp E; obtain ⟨a10, ea10, E⟩ := E
    obtain ⟨fa10, ga10⟩ := xrc_some ea10
    replace E := xb_some E; obtain ⟨v8, h9, ev8, E⟩ := E
    refine go_callV (y := yX12_latest) (n := 25) (st := []) (as := [vi l1, vi l2]) (stk9 := [vi v8]) (OX12_latest ev8) yw_X12_latest ci_12 ga10 wml_RX12_103 wim_X12_latest wse_X12_latest (Nat.le_of_ble_eq_true rfl) rfl ⟨Nat.le_of_ble_eq_true rfl, Nat.le_of_ble_eq_true rfl⟩ (Nat.le_of_ble_eq_true rfl) dX12_as_22 rfl (by cases fa10; rfl) rfl ?_
    refine go_istore_n (n := 26) (lv' := [(3, vi v8), (0, vr (some l0)), (1, vi l1), (2, vi l2)]) rfl dX12_as_25 rfl (Nat.le_of_ble_eq_true rfl) rfl ?_
    refine go_iload_n (j := 0) (n := 27) rfl rfl dX12_as_26 rfl ?_
    refine go_if_ge (tgt := 34) (n := 30) dX12_as_27 rfl rfl (fun c11 => ?_) (fun c11 => ?_)
    · rw [if_pos c11] at E
      refine go_aload_n (j := 1) (n := 35) rfl rfl dX12_as_34 rfl ?_
      refine go_iload_n (j := 0) (n := 36) rfl rfl dX12_as_35 rfl ?_
      refine go_iconst (z := 2) (n := 37) ⟨by decide, by decide⟩ dX12_as_36 rfl ?_
      replace E := Option.bind_eq_some_iff.mp E; obtain ⟨a14, ea14, E⟩ := E
      obtain ⟨fa14, ga14⟩ := xrc_some ea14
      replace E := xb_some E; obtain ⟨v12, h13, ev12, E⟩ := E
      refine go_callV (y := yX12_of) (n := 40) (st := []) (as := [vi v8, vi 2]) (stk9 := [vi v12]) (OX12_of ev12) yw_X12_of ci_12 ga14 wml_RX12_100 wim_X12_of wse_X12_of (Nat.le_of_ble_eq_true rfl) rfl ⟨Nat.le_of_ble_eq_true rfl, Nat.le_of_ble_eq_true rfl⟩ (Nat.le_of_ble_eq_true rfl) dX12_as_37 rfl (by cases fa14; rfl) rfl ?_
      cases E
      exact go_ireturn rfl dX12_as_40
    · rw [if_neg c11] at E
      refine go_iconst (z := 0) (n := 31) ⟨by decide, by decide⟩ dX12_as_30 rfl ?_
      refine go_goto (tgt := 40) dX12_as_31 rfl ?_
      cases E
      exact go_ireturn rfl dX12_as_40
  · rw [if_neg c7] at E
    refine go_iconst (z := 0) (n := 18) ⟨by decide, by decide⟩ dX12_as_17 rfl ?_
    cases E
    exact go_ireturn rfl dX12_as_18
theorem OX12_as {F : Nat} {l0 : Nat} {l1 : Int} {l2 : Int} {h hf : HP} {r : Int} (e : X12_as F l0 l1 l2 h = some (r, hf)) : Ok MX12_as [vr (some l0), vi l1, vi l2] (some (vi r)) h hf := fun K _ _ _ => SX12_as l0 l1 l2 h e
abbrev MX12_led : MI := (RX12, cX12_led, 4, (some .int), 5, none, "led")
noncomputable def X12_led (F : Nat)   (l0 : Nat) (l1 : Int) (l2 : Int)  (h : HP) : Option (Int × HP) :=
  (xpI h (some l0) 12 31 0 0).bind fun h1 =>
  xb (X12_noWord F l1 h1) fun v2 h3 =>
  (xrc h3 (some l0) 12 31).bind fun a6 =>
  xb (X12_throwsIf F a6 v2 1 h3) fun v4 h5 =>
  if v4 = 0 then
    (xrc h5 (some l0) 12 31).bind fun a10 =>
    xb (X12_latest F a10 l1 l2 h5) fun v8 h9 =>
    if 0 ≤ v8 then
      (xrc h9 (some l0) 12 31).bind fun a14 =>
      xb (X12_of F a14 v8 4 h9) fun v12 h13 =>
      some (v12, h13)
    else
      some ((-2), h9)
  else
    some (0, h5)
set_option maxRecDepth 100000 in
theorem SX12_led {K : Ctx} {F : Nat} {r : Int} {hf : HP}     (l0 : Nat) (l1 : Int) (l2 : Int)  (h : HP) (E : X12_led F   l0 l1 l2 h = some (r, hf)) : Go K MX12_led (QM K (some (vi r)) hf) hf 0 [(0, vr (some l0)), (1, vi l1), (2, vi l2)] [] h := by
  unfold X12_led at E
  refine go_aload_n (j := 0) (n := 1) rfl rfl dX12_led_0 rfl ?_
  refine go_iconst (z := 0) (n := 2) ⟨by decide, by decide⟩ dX12_led_1 rfl ?_
  replace E := Option.bind_eq_some_iff.mp E; obtain ⟨h1, eh1, E⟩ := E
  refine go_putI (n := 5) eh1 fl_RX12_3 rfl dX12_led_2 rfl ?_
  refine go_aload_n (j := 0) (n := 6) rfl rfl dX12_led_5 rfl ?_
  refine go_iload_n (j := 1) (n := 7) rfl rfl dX12_led_6 rfl ?_
  replace E := xb_some E; obtain ⟨v2, h3, ev2, E⟩ := E
  refine go_callS (y := yX12_noWord) (n := 10) (st := [vr (some l0)]) (as := [vi l1]) (stk9 := [vi v2, vr (some l0)]) (OX12_noWord ev2) yw_X12_noWord wml_RX12_69 wst_X12_noWord (Nat.le_of_ble_eq_true rfl) rfl ⟨Nat.le_of_ble_eq_true rfl, Nat.le_of_ble_eq_true rfl⟩ (Nat.le_of_ble_eq_true rfl) dX12_led_7 rfl rfl rfl ?_
  refine go_iconst (z := 1) (n := 11) ⟨by decide, by decide⟩ dX12_led_10 rfl ?_
  replace E := Option.bind_eq_some_iff.mp E; obtain ⟨a6, ea6, E⟩ := E
  obtain ⟨fa6, ga6⟩ := xrc_some ea6
  replace E := xb_some E; obtain ⟨v4, h5, ev4, E⟩ := E
  refine go_callV (y := yX12_throwsIf) (n := 14) (st := []) (as := [vi v2, vi 1]) (stk9 := [vi v4]) (OX12_throwsIf ev4) yw_X12_throwsIf ci_12 ga6 wml_RX12_65 wim_X12_throwsIf wse_X12_throwsIf (Nat.le_of_ble_eq_true rfl) rfl ⟨Nat.le_of_ble_eq_true rfl, Nat.le_of_ble_eq_true rfl⟩ (Nat.le_of_ble_eq_true rfl) dX12_led_11 rfl (by cases fa6; rfl) rfl ?_
  refine go_if_eq (tgt := 19) (n := 17) dX12_led_14 rfl rfl (fun c7 => ?_) (fun c7 => ?_)
  · rw [if_pos c7] at E
    refine go_aload_n (j := 0) (n := 20) rfl rfl dX12_led_19 rfl ?_
    refine go_iload_n (j := 1) (n := 21) rfl rfl dX12_led_20 rfl ?_
    refine go_iload_n (j := 2) (n := 22) rfl rfl dX12_led_21 rfl ?_
    replace E := Option.bind_eq_some_iff.mp E; obtain ⟨a10, ea10, E⟩ := E
    obtain ⟨fa10, ga10⟩ := xrc_some ea10
    replace E := xb_some E; obtain ⟨v8, h9, ev8, E⟩ := E
    refine go_callV (y := yX12_latest) (n := 25) (st := []) (as := [vi l1, vi l2]) (stk9 := [vi v8]) (OX12_latest ev8) yw_X12_latest ci_12 ga10 wml_RX12_103 wim_X12_latest wse_X12_latest (Nat.le_of_ble_eq_true rfl) rfl ⟨Nat.le_of_ble_eq_true rfl, Nat.le_of_ble_eq_true rfl⟩ (Nat.le_of_ble_eq_true rfl) dX12_led_22 rfl (by cases fa10; rfl) rfl ?_
    refine go_istore_n (n := 26) (lv' := [(3, vi v8), (0, vr (some l0)), (1, vi l1), (2, vi l2)]) rfl dX12_led_25 rfl (Nat.le_of_ble_eq_true rfl) rfl ?_
    refine go_iload_n (j := 0) (n := 27) rfl rfl dX12_led_26 rfl ?_
    refine go_if_ge (tgt := 35) (n := 30) dX12_led_27 rfl rfl (fun c11 => ?_) (fun c11 => ?_)
    · rw [if_pos c11] at E
      refine go_aload_n (j := 1) (n := 36) rfl rfl dX12_led_35 rfl ?_
      refine go_iload_n (j := 0) (n := 37) rfl rfl dX12_led_36 rfl ?_
      refine go_iconst (z := 4) (n := 38) ⟨by decide, by decide⟩ dX12_led_37 rfl ?_
      replace E := Option.bind_eq_some_iff.mp E; obtain ⟨a14, ea14, E⟩ := E
      obtain ⟨fa14, ga14⟩ := xrc_some ea14
      replace E := xb_some E; obtain ⟨v12, h13, ev12, E⟩ := E
      refine go_callV (y := yX12_of) (n := 41) (st := []) (as := [vi v8, vi 4]) (stk9 := [vi v12]) (OX12_of ev12) yw_X12_of ci_12 ga14 wml_RX12_100 wim_X12_of wse_X12_of (Nat.le_of_ble_eq_true rfl) rfl ⟨Nat.le_of_ble_eq_true rfl, Nat.le_of_ble_eq_true rfl⟩ (Nat.le_of_ble_eq_true rfl) dX12_led_38 rfl (by cases fa14; rfl) rfl ?_
      cases E
      exact go_ireturn rfl dX12_led_41
    · rw [if_neg c11] at E
      refine go_bipush (z := (-2)) (n := 32) ⟨by decide, by decide⟩ dX12_led_30 rfl ?_
      refine go_goto (tgt := 41) dX12_led_32 rfl ?_
      cases E
      exact go_ireturn rfl dX12_led_41
  · rw [if_neg c7] at E
    refine go_iconst (z := 0) (n := 18) ⟨by decide, by decide⟩ dX12_led_17 rfl ?_
    cases E
    exact go_ireturn rfl dX12_led_18
theorem OX12_led {F : Nat} {l0 : Nat} {l1 : Int} {l2 : Int} {h hf : HP} {r : Int} (e : X12_led F l0 l1 l2 h = some (r, hf)) : Ok MX12_led [vr (some l0), vi l1, vi l2] (some (vi r)) h hf := fun K _ _ _ => SX12_led l0 l1 l2 h e
theorem fl_RX12_109 : FL RX12 109 12 31 6 false := ⟨RX12, TX12, ci_12, by decide, bw_of 1759 (by decide +kernel) rfl, rfl, rfl⟩
theorem fl_RX12_112 : FL RX12 112 12 31 7 false := ⟨RX12, TX12, ci_12, by decide, bw_of 1760 (by decide +kernel) rfl, rfl, rfl⟩
abbrev MX12_isAt : MI := (RX12, cX12_isAt, 3, (some .boolean), 2, none, "isAt")
noncomputable def X12_isAt (F : Nat)   (l0 : Nat) (l1 : Int) (l2 : Int)  (h : HP) : Option (Int × HP) :=
  (xgI h (some l0) 12 31 6).bind fun v1 =>
  (xgI h (some l0) 12 31 7).bind fun v2 =>
  if v2 ≤ v1 then
    some (0, h)
  else
    (xgP h (some l0) 12 31 4).bind fun v4 =>
    (xgI h (some l0) 12 31 6).bind fun v5 =>
    (xaI h v4 102 v5).bind fun v6 =>
    if v6 < l1 then
      some (0, h)
    else
      (xgP h (some l0) 12 31 4).bind fun v8 =>
      (xgI h (some l0) 12 31 6).bind fun v9 =>
      (xaI h v8 102 v9).bind fun v10 =>
      some (if l2 < v10 then 0 else 1, h)
set_option maxRecDepth 100000 in
theorem SX12_isAt {K : Ctx} {F : Nat} {r : Int} {hf : HP}     (l0 : Nat) (l1 : Int) (l2 : Int)  (h : HP) (E : X12_isAt F   l0 l1 l2 h = some (r, hf)) : Go K MX12_isAt (QM K (some (vi r)) hf) hf 0 [(0, vr (some l0)), (1, vi l1), (2, vi l2)] [] h := by
  unfold X12_isAt at E
  refine go_aload_n (j := 0) (n := 1) rfl rfl dX12_isAt_0 rfl ?_
  replace E := Option.bind_eq_some_iff.mp E; obtain ⟨v1, ev1, E⟩ := E
  refine go_getI (n := 4) ev1 fl_RX12_109 rfl dX12_isAt_1 rfl ?_
  refine go_aload_n (j := 0) (n := 5) rfl rfl dX12_isAt_4 rfl ?_
  replace E := Option.bind_eq_some_iff.mp E; obtain ⟨v2, ev2, E⟩ := E
  refine go_getI (n := 8) ev2 fl_RX12_112 rfl dX12_isAt_5 rfl ?_
  refine go_icmp_ge (tgt := 41) (n := 11) dX12_isAt_8 rfl rfl (fun c3 => ?_) (fun c3 => ?_)
  · rw [if_pos c3] at E
    refine go_iconst (z := 0) (n := 42) ⟨by decide, by decide⟩ dX12_isAt_41 rfl ?_
    cases E
    exact go_zreturn rfl (Or.inl rfl) dX12_isAt_42
  · rw [if_neg c3] at E
    refine go_aload_n (j := 0) (n := 12) rfl rfl dX12_isAt_11 rfl ?_
    replace E := Option.bind_eq_some_iff.mp E; obtain ⟨v4, ev4, E⟩ := E
    refine go_getP (n := 15) ev4 fl_RX12_21 rfl dX12_isAt_12 rfl ?_
    refine go_aload_n (j := 0) (n := 16) rfl rfl dX12_isAt_15 rfl ?_
    replace E := Option.bind_eq_some_iff.mp E; obtain ⟨v5, ev5, E⟩ := E
    refine go_getI (n := 19) ev5 fl_RX12_109 rfl dX12_isAt_16 rfl ?_
    replace E := Option.bind_eq_some_iff.mp E; obtain ⟨v6, ev6, E⟩ := E
    refine go_baload (n := 20) (Or.inl rfl) ev6 dX12_isAt_19 rfl ?_
    refine go_iload_n (j := 1) (n := 21) rfl rfl dX12_isAt_20 rfl ?_
    refine go_icmp_lt (tgt := 41) (n := 24) dX12_isAt_21 rfl rfl (fun c7 => ?_) (fun c7 => ?_)
    · rw [if_pos c7] at E
      refine go_iconst (z := 0) (n := 42) ⟨by decide, by decide⟩ dX12_isAt_41 rfl ?_
      cases E
      exact go_zreturn rfl (Or.inl rfl) dX12_isAt_42
    · rw [if_neg c7] at E
      refine go_aload_n (j := 0) (n := 25) rfl rfl dX12_isAt_24 rfl ?_
      replace E := Option.bind_eq_some_iff.mp E; obtain ⟨v8, ev8, E⟩ := E
      refine go_getP (n := 28) ev8 fl_RX12_21 rfl dX12_isAt_25 rfl ?_
      refine go_aload_n (j := 0) (n := 29) rfl rfl dX12_isAt_28 rfl ?_
      replace E := Option.bind_eq_some_iff.mp E; obtain ⟨v9, ev9, E⟩ := E
      refine go_getI (n := 32) ev9 fl_RX12_109 rfl dX12_isAt_29 rfl ?_
      replace E := Option.bind_eq_some_iff.mp E; obtain ⟨v10, ev10, E⟩ := E
      refine go_baload (n := 33) (Or.inl rfl) ev10 dX12_isAt_32 rfl ?_
      refine go_iload_n (j := 2) (n := 34) rfl rfl dX12_isAt_33 rfl ?_
      refine go_icmp_gt (tgt := 41) (n := 37) dX12_isAt_34 rfl rfl (fun c11 => ?_) (fun c11 => ?_)
      · simp only [if_pos c11] at E
        refine go_iconst (z := 0) (n := 42) ⟨by decide, by decide⟩ dX12_isAt_41 rfl ?_
        cases E
        exact go_zreturn rfl (Or.inl rfl) dX12_isAt_42
      · simp only [if_neg c11] at E
        refine go_iconst (z := 1) (n := 38) ⟨by decide, by decide⟩ dX12_isAt_37 rfl ?_
        refine go_goto (tgt := 42) dX12_isAt_38 rfl ?_
        cases E
        exact go_zreturn rfl (Or.inr rfl) dX12_isAt_42
theorem OX12_isAt {F : Nat} {l0 : Nat} {l1 : Int} {l2 : Int} {h hf : HP} {r : Int} (e : X12_isAt F l0 l1 l2 h = some (r, hf)) : Ok MX12_isAt [vr (some l0), vi l1, vi l2] (some (vi r)) h hf := fun K _ _ _ => SX12_isAt l0 l1 l2 h e
theorem yw_X12_isAt : YW yX12_isAt cX12_isAt 3 (some .boolean) 2 := ⟨bw_of 1958 (by decide +kernel) rfl, bw_of 129 (by decide +kernel) rfl, ⟨by decide +kernel, by decide +kernel, by decide +kernel⟩, by decide +kernel⟩
theorem wml_RX12_115 : Cond.methodLink RX12 115 yX12_isAt ∈ BW := bw_of 1955 (by decide +kernel) rfl
theorem wim_X12_isAt : Cond.instanceMethod yX12_isAt ∈ BW := bw_of 1957 (by decide +kernel) rfl
theorem wse_X12_isAt : Cond.selects RX12 yX12_isAt yX12_isAt ∈ BW := bw_of 67 (by decide +kernel) rfl
theorem fl_RX12_119 : FL RX12 119 12 31 8 false := ⟨RX12, TX12, ci_12, by decide, bw_of 1761 (by decide +kernel) rfl, rfl, rfl⟩
abbrev MX12_blanks : MI := (RX12, cX12_blanks, 1, none, 3, none, "blanks")
noncomputable def X12_blanks_L0 (F : Nat)   (k : Nat) : Nat → HP → Option (Unit × HP) :=
  Nat.rec (motive := fun _ => Nat → HP → Option (Unit × HP)) (fun _ _ => none) (fun _ rc0 l0 h =>
    (xrc h (some l0) 12 31).bind fun a3 =>
    xb (X12_isAt F a3 32 32 h) fun v1 h2 =>
    if v1 = 0 then
      (xgI h2 (some l0) 12 31 6).bind fun v5 =>
      (xpI h2 (some l0) 12 31 8 v5).bind fun h6 =>
      some ((), h6)
    else
      (xgI h2 (some l0) 12 31 6).bind fun v7 =>
      (xpI h2 (some l0) 12 31 6 (w32 (v7 + 1))).bind fun h8 =>
      rc0 l0 h8) k
theorem X12_blanks_L0_s (F : Nat)   (k : Nat) (l0 : Nat)  (h : HP) : X12_blanks_L0 F   (k + 1) l0 h =
    (xrc h (some l0) 12 31).bind fun a3 =>
    xb (X12_isAt F a3 32 32 h) fun v1 h2 =>
    if v1 = 0 then
      (xgI h2 (some l0) 12 31 6).bind fun v5 =>
      (xpI h2 (some l0) 12 31 8 v5).bind fun h6 =>
      some ((), h6)
    else
      (xgI h2 (some l0) 12 31 6).bind fun v7 =>
      (xpI h2 (some l0) 12 31 6 (w32 (v7 + 1))).bind fun h8 =>
      (X12_blanks_L0 F k) l0 h8 := rfl
set_option maxRecDepth 100000 in
theorem SX12_blanks_L0 {K : Ctx} {F : Nat} {r : Unit} {hf : HP}     : ∀ (k : Nat) (l0 : Nat)  (h : HP), X12_blanks_L0 F   k l0 h = some (r, hf) → Go K MX12_blanks (QM K none hf) hf 0 [(0, vr (some l0))] [] h := by
  intro k
  induction k with
  | zero => intro l0 h E; exact nomatch E
  | succ k hrc0 =>
    intro l0 h E
    rw [X12_blanks_L0_s] at E
    refine go_aload_n (j := 0) (n := 1) rfl rfl dX12_blanks_0 rfl ?_
    refine go_bipush (z := 32) (n := 3) ⟨by decide, by decide⟩ dX12_blanks_1 rfl ?_
    refine go_bipush (z := 32) (n := 5) ⟨by decide, by decide⟩ dX12_blanks_3 rfl ?_
    replace E := Option.bind_eq_some_iff.mp E; obtain ⟨a3, ea3, E⟩ := E
    obtain ⟨fa3, ga3⟩ := xrc_some ea3
    replace E := xb_some E; obtain ⟨v1, h2, ev1, E⟩ := E
    refine go_callV (y := yX12_isAt) (n := 8) (st := []) (as := [vi 32, vi 32]) (stk9 := [vi v1]) (OX12_isAt ev1) yw_X12_isAt ci_12 ga3 wml_RX12_115 wim_X12_isAt wse_X12_isAt (Nat.le_of_ble_eq_true rfl) rfl ⟨Nat.le_of_ble_eq_true rfl, Nat.le_of_ble_eq_true rfl⟩ (Nat.le_of_ble_eq_true rfl) dX12_blanks_5 rfl (by cases fa3; rfl) rfl ?_
    refine go_if_eq (tgt := 24) (n := 11) dX12_blanks_8 rfl rfl (fun c4 => ?_) (fun c4 => ?_)
    · rw [if_pos c4] at E
      refine go_aload_n (j := 0) (n := 25) rfl rfl dX12_blanks_24 rfl ?_
      refine go_aload_n (j := 0) (n := 26) rfl rfl dX12_blanks_25 rfl ?_
      replace E := Option.bind_eq_some_iff.mp E; obtain ⟨v5, ev5, E⟩ := E
      refine go_getI (n := 29) ev5 fl_RX12_109 rfl dX12_blanks_26 rfl ?_
      replace E := Option.bind_eq_some_iff.mp E; obtain ⟨h6, eh6, E⟩ := E
      refine go_putI (n := 32) eh6 fl_RX12_119 rfl dX12_blanks_29 rfl ?_
      cases E
      exact go_return rfl dX12_blanks_32
    · rw [if_neg c4] at E
      refine go_aload_n (j := 0) (n := 12) rfl rfl dX12_blanks_11 rfl ?_
      refine go_dup (n := 13) rfl dX12_blanks_12 rfl ?_
      replace E := Option.bind_eq_some_iff.mp E; obtain ⟨v7, ev7, E⟩ := E
      refine go_getI (n := 16) ev7 fl_RX12_109 rfl dX12_blanks_13 rfl ?_
      refine go_iconst (z := 1) (n := 17) ⟨by decide, by decide⟩ dX12_blanks_16 rfl ?_
      refine go_iadd (n := 18) dX12_blanks_17 rfl ?_
      replace E := Option.bind_eq_some_iff.mp E; obtain ⟨h8, eh8, E⟩ := E
      refine go_putI (n := 21) eh8 fl_RX12_109 rfl dX12_blanks_18 rfl ?_
      refine go_goto (tgt := 0) dX12_blanks_21 rfl ?_
      exact hrc0 _ _ E
noncomputable def X12_blanks (F : Nat)   (l0 : Nat)  (h : HP) : Option (Unit × HP) :=
  X12_blanks_L0 F F l0 h
set_option maxRecDepth 100000 in
theorem SX12_blanks {K : Ctx} {F : Nat} {r : Unit} {hf : HP}     (l0 : Nat)  (h : HP) (E : X12_blanks F   l0 h = some (r, hf)) : Go K MX12_blanks (QM K none hf) hf 0 [(0, vr (some l0))] [] h := by
  unfold X12_blanks at E
  exact SX12_blanks_L0     F _ _ E
theorem OX12_blanks {F : Nat} {l0 : Nat} {h hf : HP} {r : Unit} (e : X12_blanks F l0 h = some (r, hf)) : Ok MX12_blanks [vr (some l0)] none h hf := fun K _ _ _ => SX12_blanks l0 h e
theorem yw_X12_blanks : YW yX12_blanks cX12_blanks 1 none 0 := ⟨bw_of 1954 (by decide +kernel) rfl, bw_of 129 (by decide +kernel) rfl, ⟨by decide +kernel, by decide +kernel, by decide +kernel⟩, by decide +kernel⟩
theorem wml_RX12_122 : Cond.methodLink RX12 122 yX12_blanks ∈ BW := bw_of 1951 (by decide +kernel) rfl
theorem wim_X12_blanks : Cond.instanceMethod yX12_blanks ∈ BW := bw_of 1953 (by decide +kernel) rfl
theorem wse_X12_blanks : Cond.selects RX12 yX12_blanks yX12_blanks ∈ BW := bw_of 66 (by decide +kernel) rfl
abbrev MX12_letters : MI := (RX12, cX12_letters, 1, none, 4, none, "letters")
noncomputable def X12_letters_L4 (F : Nat)   (k : Nat) : Nat → HP → Option (Unit × HP) :=
  Nat.rec (motive := fun _ => Nat → HP → Option (Unit × HP)) (fun _ _ => none) (fun _ rc4 l0 h =>
    (xrc h (some l0) 12 31).bind fun a3 =>
    xb (X12_isAt F a3 97 122 h) fun v1 h2 =>
    if v1 = 0 then
      some ((), h2)
    else
      (xgI h2 (some l0) 12 31 6).bind fun v5 =>
      (xpI h2 (some l0) 12 31 6 (w32 (v5 + 1))).bind fun h6 =>
      rc4 l0 h6) k
theorem X12_letters_L4_s (F : Nat)   (k : Nat) (l0 : Nat)  (h : HP) : X12_letters_L4 F   (k + 1) l0 h =
    (xrc h (some l0) 12 31).bind fun a3 =>
    xb (X12_isAt F a3 97 122 h) fun v1 h2 =>
    if v1 = 0 then
      some ((), h2)
    else
      (xgI h2 (some l0) 12 31 6).bind fun v5 =>
      (xpI h2 (some l0) 12 31 6 (w32 (v5 + 1))).bind fun h6 =>
      (X12_letters_L4 F k) l0 h6 := rfl
set_option maxRecDepth 100000 in
theorem SX12_letters_L4 {K : Ctx} {F : Nat} {r : Unit} {hf : HP}     : ∀ (k : Nat) (l0 : Nat)  (h : HP), X12_letters_L4 F   k l0 h = some (r, hf) → Go K MX12_letters (QM K none hf) hf 4 [(0, vr (some l0))] [] h := by
  intro k
  induction k with
  | zero => intro l0 h E; exact nomatch E
  | succ k hrc4 =>
    intro l0 h E
    rw [X12_letters_L4_s] at E
    refine go_aload_n (j := 0) (n := 5) rfl rfl dX12_letters_4 rfl ?_
    refine go_bipush (z := 97) (n := 7) ⟨by decide, by decide⟩ dX12_letters_5 rfl ?_
    refine go_bipush (z := 122) (n := 9) ⟨by decide, by decide⟩ dX12_letters_7 rfl ?_
    replace E := Option.bind_eq_some_iff.mp E; obtain ⟨a3, ea3, E⟩ := E
    obtain ⟨fa3, ga3⟩ := xrc_some ea3
    replace E := xb_some E; obtain ⟨v1, h2, ev1, E⟩ := E
    refine go_callV (y := yX12_isAt) (n := 12) (st := []) (as := [vi 97, vi 122]) (stk9 := [vi v1]) (OX12_isAt ev1) yw_X12_isAt ci_12 ga3 wml_RX12_115 wim_X12_isAt wse_X12_isAt (Nat.le_of_ble_eq_true rfl) rfl ⟨Nat.le_of_ble_eq_true rfl, Nat.le_of_ble_eq_true rfl⟩ (Nat.le_of_ble_eq_true rfl) dX12_letters_9 rfl (by cases fa3; rfl) rfl ?_
    refine go_if_eq (tgt := 28) (n := 15) dX12_letters_12 rfl rfl (fun c4 => ?_) (fun c4 => ?_)
    · rw [if_pos c4] at E
      cases E
      exact go_return rfl dX12_letters_28
    · rw [if_neg c4] at E
      refine go_aload_n (j := 0) (n := 16) rfl rfl dX12_letters_15 rfl ?_
      refine go_dup (n := 17) rfl dX12_letters_16 rfl ?_
      replace E := Option.bind_eq_some_iff.mp E; obtain ⟨v5, ev5, E⟩ := E
      refine go_getI (n := 20) ev5 fl_RX12_109 rfl dX12_letters_17 rfl ?_
      refine go_iconst (z := 1) (n := 21) ⟨by decide, by decide⟩ dX12_letters_20 rfl ?_
      refine go_iadd (n := 22) dX12_letters_21 rfl ?_
      replace E := Option.bind_eq_some_iff.mp E; obtain ⟨h6, eh6, E⟩ := E
      refine go_putI (n := 25) eh6 fl_RX12_109 rfl dX12_letters_22 rfl ?_
      refine go_goto (tgt := 4) dX12_letters_25 rfl ?_
      exact hrc4 _ _ E
noncomputable def X12_letters (F : Nat)   (l0 : Nat)  (h : HP) : Option (Unit × HP) :=
  (xrc h (some l0) 12 31).bind fun a3 =>
  xb (X12_blanks F a3 h) fun v1 h2 =>
  X12_letters_L4 F F l0 h2
set_option maxRecDepth 100000 in
theorem SX12_letters {K : Ctx} {F : Nat} {r : Unit} {hf : HP}     (l0 : Nat)  (h : HP) (E : X12_letters F   l0 h = some (r, hf)) : Go K MX12_letters (QM K none hf) hf 0 [(0, vr (some l0))] [] h := by
  unfold X12_letters at E
  refine go_aload_n (j := 0) (n := 1) rfl rfl dX12_letters_0 rfl ?_
  replace E := Option.bind_eq_some_iff.mp E; obtain ⟨a3, ea3, E⟩ := E
  obtain ⟨fa3, ga3⟩ := xrc_some ea3
  replace E := xb_some E; obtain ⟨v1, h2, ev1, E⟩ := E
  refine go_callV (y := yX12_blanks) (n := 4) (st := []) (as := []) (stk9 := []) (OX12_blanks ev1) yw_X12_blanks ci_12 ga3 wml_RX12_122 wim_X12_blanks wse_X12_blanks (Nat.le_of_ble_eq_true rfl) rfl ⟨Nat.le_of_ble_eq_true rfl, Nat.le_of_ble_eq_true rfl⟩ (Nat.le_of_ble_eq_true rfl) dX12_letters_1 rfl (by cases fa3; rfl) rfl ?_
  exact SX12_letters_L4     F _ _ E
theorem OX12_letters {F : Nat} {l0 : Nat} {h hf : HP} {r : Unit} (e : X12_letters F l0 h = some (r, hf)) : Ok MX12_letters [vr (some l0)] none h hf := fun K _ _ _ => SX12_letters l0 h e
theorem wml_RX12_125 : Cond.methodLink RX12 125 yJ0_length_8abf5 ∈ BW := bw_of 1972 (by decide +kernel) rfl
theorem wml_RX12_130 : Cond.methodLink RX12 130 yJ0_charAt_5068e ∈ BW := bw_of 1973 (by decide +kernel) rfl
abbrev MX12_isWord : MI := (RX12, cX12_isWord, 4, (some .boolean), 8, none, "isWord")
noncomputable def X12_isWord_L60 (F : Nat)  (rc24 : Nat → Option Nat → Int → Int → HP → Option (Int × HP)) (l0 : Nat) (l1 : Option Nat) (l3 : Int) (s0 : Int) (h : HP) : Option (Int × HP) :=
  rc24 l0 l1 s0 (w32 (l3 + 1)) h
set_option maxRecDepth 100000 in
theorem SX12_isWord_L60 {K : Ctx} {F : Nat} {r : Int} {hf : HP}   (rc24 : Nat → Option Nat → Int → Int → HP → Option (Int × HP)) (hrc24 : ∀ l0 l1 l2 l3 h, rc24 l0 l1 l2 l3 h = some (r, hf) → Go K MX12_isWord (QM K (some (vi r)) hf) hf 24 [(0, vr (some l0)), (1, vr l1), (2, vi l2), (3, vi l3)] [] h) (l0 : Nat) (l1 : Option Nat) (l3 : Int) (s0 : Int) (h : HP) (E : X12_isWord_L60 F  rc24 l0 l1 l3 s0 h = some (r, hf)) : Go K MX12_isWord (QM K (some (vi r)) hf) hf 60 [(0, vr (some l0)), (1, vr l1), (3, vi l3)] [vi s0] h := by
  unfold X12_isWord_L60 at E
  refine go_istore_n (n := 61) (lv' := [(2, vi s0), (0, vr (some l0)), (1, vr l1), (3, vi l3)]) rfl dX12_isWord_60 rfl (Nat.le_of_ble_eq_true rfl) rfl ?_
  refine go_iinc (j := 3) (n := 64) (lv' := [(3, vi (w32 (l3 + 1))), (2, vi s0), (0, vr (some l0)), (1, vr l1)]) rfl dX12_isWord_61 rfl (Nat.le_of_ble_eq_true rfl) rfl ?_
  refine go_goto (tgt := 24) dX12_isWord_64 rfl ?_
  refine go_pick (lv' := [(0, vr (some l0)), (1, vr l1), (2, vi s0), (3, vi (w32 (l3 + 1)))]) [2, 3, 1, 0] rfl ?_
  exact hrc24 _ _ _ _ _ E
noncomputable def X12_isWord_L24 (F : Nat)   (k : Nat) : Nat → Option Nat → Int → Int → HP → Option (Int × HP) :=
  Nat.rec (motive := fun _ => Nat → Option Nat → Int → Int → HP → Option (Int × HP)) (fun _ _ _ _ _ => none) (fun _ rc24 l0 l1 l2 l3 h =>
    if l2 = 0 then
      xz l2 h
    else
      (xnn l1).bind fun a5 =>
      xb (XJ0_length_8abf5 F a5 h) fun v3 h4 =>
      if v3 ≤ l3 then
        xz l2 h4
      else
        (xgP h4 (some l0) 12 31 4).bind fun v8 =>
        (xgI h4 (some l0) 12 31 8).bind fun v9 =>
        (xaI h4 v8 102 (w32 (v9 + l3))).bind fun v10 =>
        (xnn l1).bind fun a13 =>
        xb (XJ0_charAt_5068e F a13 l3 h4) fun v11 h12 =>
        X12_isWord_L60 F rc24 l0 l1 l3 (if v10 = v11 then 1 else 0) h12) k
theorem X12_isWord_L24_s (F : Nat)   (k : Nat) (l0 : Nat) (l1 : Option Nat) (l2 : Int) (l3 : Int)  (h : HP) : X12_isWord_L24 F   (k + 1) l0 l1 l2 l3 h =
    if l2 = 0 then
      xz l2 h
    else
      (xnn l1).bind fun a5 =>
      xb (XJ0_length_8abf5 F a5 h) fun v3 h4 =>
      if v3 ≤ l3 then
        xz l2 h4
      else
        (xgP h4 (some l0) 12 31 4).bind fun v8 =>
        (xgI h4 (some l0) 12 31 8).bind fun v9 =>
        (xaI h4 v8 102 (w32 (v9 + l3))).bind fun v10 =>
        (xnn l1).bind fun a13 =>
        xb (XJ0_charAt_5068e F a13 l3 h4) fun v11 h12 =>
        X12_isWord_L60 F (X12_isWord_L24 F k) l0 l1 l3 (if v10 = v11 then 1 else 0) h12 := rfl
set_option maxRecDepth 100000 in
theorem SX12_isWord_L24 {K : Ctx} {F : Nat} {r : Int} {hf : HP}     : ∀ (k : Nat) (l0 : Nat) (l1 : Option Nat) (l2 : Int) (l3 : Int)  (h : HP), X12_isWord_L24 F   k l0 l1 l2 l3 h = some (r, hf) → Go K MX12_isWord (QM K (some (vi r)) hf) hf 24 [(0, vr (some l0)), (1, vr l1), (2, vi l2), (3, vi l3)] [] h := by
  intro k
  induction k with
  | zero => intro l0 l1 l2 l3 h E; exact nomatch E
  | succ k hrc24 =>
    intro l0 l1 l2 l3 h E
    rw [X12_isWord_L24_s] at E
    refine go_iload_n (j := 2) (n := 25) rfl rfl dX12_isWord_24 rfl ?_
    refine go_if_eq (tgt := 67) (n := 28) dX12_isWord_25 rfl rfl (fun c1 => ?_) (fun c1 => ?_)
    · rw [if_pos c1] at E
      refine go_iload_n (j := 2) (n := 68) rfl rfl dX12_isWord_67 rfl ?_
      unfold xz at E
      split at E
      · next c2 =>
        cases E
        exact go_zreturn rfl c2 dX12_isWord_68
      · cases E
    · rw [if_neg c1] at E
      refine go_iload_n (j := 3) (n := 29) rfl rfl dX12_isWord_28 rfl ?_
      refine go_aload_n (j := 1) (n := 30) rfl rfl dX12_isWord_29 rfl ?_
      replace E := Option.bind_eq_some_iff.mp E; obtain ⟨a5, ea5, E⟩ := E
      replace ea5 : l1 = some a5 := ea5
      replace E := xb_some E; obtain ⟨v3, h4, ev3, E⟩ := E
      obtain ⟨jv3, qv3, pv3, ov3⟩ := OXJ0_length_8abf5 ev3
      refine go_callVT (y := yJ0_length_8abf5) (n := 33) (st := [vi l3]) (as := []) (stk9 := [vi v3, vi l3]) ov3 yw_J0_length_8abf5 qv3 pv3 rfl wml_RX12_125 wim_J0_length_8abf5 wse_J0_length_8abf5 (Nat.le_of_ble_eq_true rfl) rfl ⟨Nat.le_of_ble_eq_true rfl, Nat.le_of_ble_eq_true rfl⟩ (Nat.le_of_ble_eq_true rfl) dX12_isWord_30 rfl (by cases ea5; rfl) rfl ?_
      refine go_icmp_ge (tgt := 67) (n := 36) dX12_isWord_33 rfl rfl (fun c6 => ?_) (fun c6 => ?_)
      · rw [if_pos c6] at E
        refine go_iload_n (j := 2) (n := 68) rfl rfl dX12_isWord_67 rfl ?_
        unfold xz at E
        split at E
        · next c7 =>
          cases E
          exact go_zreturn rfl c7 dX12_isWord_68
        · cases E
      · rw [if_neg c6] at E
        refine go_aload_n (j := 0) (n := 37) rfl rfl dX12_isWord_36 rfl ?_
        replace E := Option.bind_eq_some_iff.mp E; obtain ⟨v8, ev8, E⟩ := E
        refine go_getP (n := 40) ev8 fl_RX12_21 rfl dX12_isWord_37 rfl ?_
        refine go_aload_n (j := 0) (n := 41) rfl rfl dX12_isWord_40 rfl ?_
        replace E := Option.bind_eq_some_iff.mp E; obtain ⟨v9, ev9, E⟩ := E
        refine go_getI (n := 44) ev9 fl_RX12_119 rfl dX12_isWord_41 rfl ?_
        refine go_iload_n (j := 3) (n := 45) rfl rfl dX12_isWord_44 rfl ?_
        refine go_iadd (n := 46) dX12_isWord_45 rfl ?_
        replace E := Option.bind_eq_some_iff.mp E; obtain ⟨v10, ev10, E⟩ := E
        refine go_baload (n := 47) (Or.inl rfl) ev10 dX12_isWord_46 rfl ?_
        refine go_aload_n (j := 1) (n := 48) rfl rfl dX12_isWord_47 rfl ?_
        refine go_iload_n (j := 3) (n := 49) rfl rfl dX12_isWord_48 rfl ?_
        replace E := Option.bind_eq_some_iff.mp E; obtain ⟨a13, ea13, E⟩ := E
        replace ea13 : l1 = some a13 := ea13
        replace E := xb_some E; obtain ⟨v11, h12, ev11, E⟩ := E
        obtain ⟨jv11, qv11, pv11, ov11⟩ := OXJ0_charAt_5068e ev11
        refine go_callVT (y := yJ0_charAt_5068e) (n := 52) (st := [vi v10]) (as := [vi l3]) (stk9 := [vi v11, vi v10]) ov11 yw_J0_charAt_5068e qv11 pv11 rfl wml_RX12_130 wim_J0_charAt_5068e wse_J0_charAt_5068e (Nat.le_of_ble_eq_true rfl) rfl ⟨Nat.le_of_ble_eq_true rfl, Nat.le_of_ble_eq_true rfl⟩ (Nat.le_of_ble_eq_true rfl) dX12_isWord_49 rfl (by cases ea13; rfl) rfl ?_
        refine go_icmp_ne (tgt := 59) (n := 55) dX12_isWord_52 rfl rfl (fun c14 => ?_) (fun c14 => ?_)
        · simp only [if_neg c14] at E
          refine go_iconst (z := 0) (n := 60) ⟨by decide, by decide⟩ dX12_isWord_59 rfl ?_
          refine go_pick (lv' := [(0, vr (some l0)), (1, vr l1), (3, vi l3)]) [0, 1, 3] rfl ?_
          exact SX12_isWord_L60   _ hrc24 _ _ _ _ _ E
        · simp only [if_pos c14] at E
          refine go_iconst (z := 1) (n := 56) ⟨by decide, by decide⟩ dX12_isWord_55 rfl ?_
          refine go_goto (tgt := 60) dX12_isWord_56 rfl ?_
          refine go_pick (lv' := [(0, vr (some l0)), (1, vr l1), (3, vi l3)]) [0, 1, 3] rfl ?_
          exact SX12_isWord_L60   _ hrc24 _ _ _ _ _ E
noncomputable def X12_isWord_L21 (F : Nat)   (l0 : Nat) (l1 : Option Nat) (s0 : Int) (h : HP) : Option (Int × HP) :=
  X12_isWord_L24 F F l0 l1 s0 0 h
set_option maxRecDepth 100000 in
theorem SX12_isWord_L21 {K : Ctx} {F : Nat} {r : Int} {hf : HP}     (l0 : Nat) (l1 : Option Nat) (s0 : Int) (h : HP) (E : X12_isWord_L21 F   l0 l1 s0 h = some (r, hf)) : Go K MX12_isWord (QM K (some (vi r)) hf) hf 21 [(0, vr (some l0)), (1, vr l1)] [vi s0] h := by
  unfold X12_isWord_L21 at E
  refine go_istore_n (n := 22) (lv' := [(2, vi s0), (0, vr (some l0)), (1, vr l1)]) rfl dX12_isWord_21 rfl (Nat.le_of_ble_eq_true rfl) rfl ?_
  refine go_iconst (z := 0) (n := 23) ⟨by decide, by decide⟩ dX12_isWord_22 rfl ?_
  refine go_istore_n (n := 24) (lv' := [(3, vi 0), (2, vi s0), (0, vr (some l0)), (1, vr l1)]) rfl dX12_isWord_23 rfl (Nat.le_of_ble_eq_true rfl) rfl ?_
  refine go_pick (lv' := [(0, vr (some l0)), (1, vr l1), (2, vi s0), (3, vi 0)]) [2, 3, 1, 0] rfl ?_
  exact SX12_isWord_L24     F _ _ _ _ _ E
noncomputable def X12_isWord (F : Nat)   (l0 : Nat) (l1 : Option Nat)  (h : HP) : Option (Int × HP) :=
  (xgI h (some l0) 12 31 6).bind fun v1 =>
  (xgI h (some l0) 12 31 8).bind fun v2 =>
  (xnn l1).bind fun a5 =>
  xb (XJ0_length_8abf5 F a5 h) fun v3 h4 =>
  X12_isWord_L21 F l0 l1 (if (w32 (v1 - v2)) = v3 then 1 else 0) h4
set_option maxRecDepth 100000 in
theorem SX12_isWord {K : Ctx} {F : Nat} {r : Int} {hf : HP}     (l0 : Nat) (l1 : Option Nat)  (h : HP) (E : X12_isWord F   l0 l1 h = some (r, hf)) : Go K MX12_isWord (QM K (some (vi r)) hf) hf 0 [(0, vr (some l0)), (1, vr l1)] [] h := by
  unfold X12_isWord at E
  refine go_aload_n (j := 0) (n := 1) rfl rfl dX12_isWord_0 rfl ?_
  replace E := Option.bind_eq_some_iff.mp E; obtain ⟨v1, ev1, E⟩ := E
  refine go_getI (n := 4) ev1 fl_RX12_109 rfl dX12_isWord_1 rfl ?_
  refine go_aload_n (j := 0) (n := 5) rfl rfl dX12_isWord_4 rfl ?_
  replace E := Option.bind_eq_some_iff.mp E; obtain ⟨v2, ev2, E⟩ := E
  refine go_getI (n := 8) ev2 fl_RX12_119 rfl dX12_isWord_5 rfl ?_
  refine go_isub (n := 9) dX12_isWord_8 rfl ?_
  refine go_aload_n (j := 1) (n := 10) rfl rfl dX12_isWord_9 rfl ?_
  replace E := Option.bind_eq_some_iff.mp E; obtain ⟨a5, ea5, E⟩ := E
  replace ea5 : l1 = some a5 := ea5
  replace E := xb_some E; obtain ⟨v3, h4, ev3, E⟩ := E
  obtain ⟨jv3, qv3, pv3, ov3⟩ := OXJ0_length_8abf5 ev3
  refine go_callVT (y := yJ0_length_8abf5) (n := 13) (st := [vi (w32 (v1 - v2))]) (as := []) (stk9 := [vi v3, vi (w32 (v1 - v2))]) ov3 yw_J0_length_8abf5 qv3 pv3 rfl wml_RX12_125 wim_J0_length_8abf5 wse_J0_length_8abf5 (Nat.le_of_ble_eq_true rfl) rfl ⟨Nat.le_of_ble_eq_true rfl, Nat.le_of_ble_eq_true rfl⟩ (Nat.le_of_ble_eq_true rfl) dX12_isWord_10 rfl (by cases ea5; rfl) rfl ?_
  refine go_icmp_ne (tgt := 20) (n := 16) dX12_isWord_13 rfl rfl (fun c6 => ?_) (fun c6 => ?_)
  · simp only [if_neg c6] at E
    refine go_iconst (z := 0) (n := 21) ⟨by decide, by decide⟩ dX12_isWord_20 rfl ?_
    exact SX12_isWord_L21     _ _ _ _ E
  · simp only [if_pos c6] at E
    refine go_iconst (z := 1) (n := 17) ⟨by decide, by decide⟩ dX12_isWord_16 rfl ?_
    refine go_goto (tgt := 21) dX12_isWord_17 rfl ?_
    exact SX12_isWord_L21     _ _ _ _ E
theorem OX12_isWord {F : Nat} {l0 : Nat} {l1 : Option Nat} {h hf : HP} {r : Int} (e : X12_isWord F l0 l1 h = some (r, hf)) : Ok MX12_isWord [vr (some l0), vr l1] (some (vi r)) h hf := fun K _ _ _ => SX12_isWord l0 l1 h e
abbrev MX12_number : MI := (RX12, cX12_number, 4, (some .int), 4, none, "number")
noncomputable def X12_number_L101 (F : Nat)     (h : HP) : Option (Int × HP) :=
  some ((-1), h)
set_option maxRecDepth 100000 in
theorem SX12_number_L101 {K : Ctx} {F : Nat} {r : Int} {hf : HP}       (h : HP) (E : X12_number_L101 F    h = some (r, hf)) : Go K MX12_number (QM K (some (vi r)) hf) hf 101 [] [] h := by
  unfold X12_number_L101 at E
  refine go_iconst (z := (-1)) (n := 102) ⟨by decide, by decide⟩ dX12_number_101 rfl ?_
  refine go_goto (tgt := 106) dX12_number_102 rfl ?_
  cases E
  exact go_ireturn rfl dX12_number_106
noncomputable def X12_number_L52 (F : Nat)  (rc6 : Nat → Int → Int → Int → HP → Option (Int × HP)) (l0 : Nat) (l1 : Int) (l2 : Int) (s0 : Int) (h : HP) : Option (Int × HP) :=
  (xgI h (some l0) 12 31 6).bind fun v1 =>
  (xpI h (some l0) 12 31 6 (w32 (v1 + 1))).bind fun h2 =>
  rc6 l0 l1 l2 s0 h2
set_option maxRecDepth 100000 in
theorem SX12_number_L52 {K : Ctx} {F : Nat} {r : Int} {hf : HP}   (rc6 : Nat → Int → Int → Int → HP → Option (Int × HP)) (hrc6 : ∀ l0 l1 l2 l3 h, rc6 l0 l1 l2 l3 h = some (r, hf) → Go K MX12_number (QM K (some (vi r)) hf) hf 6 [(0, vr (some l0)), (1, vi l1), (2, vi l2), (3, vi l3)] [] h) (l0 : Nat) (l1 : Int) (l2 : Int) (s0 : Int) (h : HP) (E : X12_number_L52 F  rc6 l0 l1 l2 s0 h = some (r, hf)) : Go K MX12_number (QM K (some (vi r)) hf) hf 52 [(0, vr (some l0)), (1, vi l1), (2, vi l2)] [vi s0] h := by
  unfold X12_number_L52 at E
  refine go_istore_n (n := 53) (lv' := [(3, vi s0), (0, vr (some l0)), (1, vi l1), (2, vi l2)]) rfl dX12_number_52 rfl (Nat.le_of_ble_eq_true rfl) rfl ?_
  refine go_aload_n (j := 1) (n := 54) rfl rfl dX12_number_53 rfl ?_
  refine go_dup (n := 55) rfl dX12_number_54 rfl ?_
  replace E := Option.bind_eq_some_iff.mp E; obtain ⟨v1, ev1, E⟩ := E
  refine go_getI (n := 58) ev1 fl_RX12_109 rfl dX12_number_55 rfl ?_
  refine go_iconst (z := 1) (n := 59) ⟨by decide, by decide⟩ dX12_number_58 rfl ?_
  refine go_iadd (n := 60) dX12_number_59 rfl ?_
  replace E := Option.bind_eq_some_iff.mp E; obtain ⟨h2, eh2, E⟩ := E
  refine go_putI (n := 63) eh2 fl_RX12_109 rfl dX12_number_60 rfl ?_
  refine go_goto (tgt := 6) dX12_number_63 rfl ?_
  refine go_pick (lv' := [(0, vr (some l0)), (1, vi l1), (2, vi l2), (3, vi s0)]) [1, 2, 3, 0] rfl ?_
  exact hrc6 _ _ _ _ _ E
noncomputable def X12_number_L6 (F : Nat)   (k : Nat) : Nat → Int → Int → Int → HP → Option (Int × HP) :=
  Nat.rec (motive := fun _ => Nat → Int → Int → Int → HP → Option (Int × HP)) (fun _ _ _ _ _ => none) (fun _ rc6 l0 l1 l2 l3 h =>
    (xrc h (some l0) 12 31).bind fun a3 =>
    xb (X12_isAt F a3 48 57 h) fun v1 h2 =>
    if v1 = 0 then
      (xgI h2 (some l0) 12 31 6).bind fun v5 =>
      (xgI h2 (some l0) 12 31 8).bind fun v6 =>
      if v5 = v6 then
        X12_number_L101 F h2
      else
        (xgI h2 (some l0) 12 31 6).bind fun v8 =>
        (xgI h2 (some l0) 12 31 8).bind fun v9 =>
        if 6 < (w32 (v8 - v9)) then
          X12_number_L101 F h2
        else
          if l3 < l1 then
            X12_number_L101 F h2
          else
            if l3 ≤ l2 then
              some (l3, h2)
            else
              X12_number_L101 F h2
    else
      (xgI h2 (some l0) 12 31 6).bind fun v13 =>
      (xgI h2 (some l0) 12 31 8).bind fun v14 =>
      if 6 ≤ (w32 (v13 - v14)) then
        X12_number_L52 F rc6 l0 l1 l2 l3 h2
      else
        (xgP h2 (some l0) 12 31 4).bind fun v16 =>
        (xgI h2 (some l0) 12 31 6).bind fun v17 =>
        (xaI h2 v16 102 v17).bind fun v18 =>
        X12_number_L52 F rc6 l0 l1 l2 (w32 ((w32 ((w32 (10 * l3)) + v18)) - 48)) h2) k
theorem X12_number_L6_s (F : Nat)   (k : Nat) (l0 : Nat) (l1 : Int) (l2 : Int) (l3 : Int)  (h : HP) : X12_number_L6 F   (k + 1) l0 l1 l2 l3 h =
    (xrc h (some l0) 12 31).bind fun a3 =>
    xb (X12_isAt F a3 48 57 h) fun v1 h2 =>
    if v1 = 0 then
      (xgI h2 (some l0) 12 31 6).bind fun v5 =>
      (xgI h2 (some l0) 12 31 8).bind fun v6 =>
      if v5 = v6 then
        X12_number_L101 F h2
      else
        (xgI h2 (some l0) 12 31 6).bind fun v8 =>
        (xgI h2 (some l0) 12 31 8).bind fun v9 =>
        if 6 < (w32 (v8 - v9)) then
          X12_number_L101 F h2
        else
          if l3 < l1 then
            X12_number_L101 F h2
          else
            if l3 ≤ l2 then
              some (l3, h2)
            else
              X12_number_L101 F h2
    else
      (xgI h2 (some l0) 12 31 6).bind fun v13 =>
      (xgI h2 (some l0) 12 31 8).bind fun v14 =>
      if 6 ≤ (w32 (v13 - v14)) then
        X12_number_L52 F (X12_number_L6 F k) l0 l1 l2 l3 h2
      else
        (xgP h2 (some l0) 12 31 4).bind fun v16 =>
        (xgI h2 (some l0) 12 31 6).bind fun v17 =>
        (xaI h2 v16 102 v17).bind fun v18 =>
        X12_number_L52 F (X12_number_L6 F k) l0 l1 l2 (w32 ((w32 ((w32 (10 * l3)) + v18)) - 48)) h2 := rfl
set_option maxRecDepth 100000 in
theorem SX12_number_L6 {K : Ctx} {F : Nat} {r : Int} {hf : HP}     : ∀ (k : Nat) (l0 : Nat) (l1 : Int) (l2 : Int) (l3 : Int)  (h : HP), X12_number_L6 F   k l0 l1 l2 l3 h = some (r, hf) → Go K MX12_number (QM K (some (vi r)) hf) hf 6 [(0, vr (some l0)), (1, vi l1), (2, vi l2), (3, vi l3)] [] h := by
  intro k
  induction k with
  | zero => intro l0 l1 l2 l3 h E; exact nomatch E
  | succ k hrc6 =>
    intro l0 l1 l2 l3 h E
    rw [X12_number_L6_s] at E
    refine go_aload_n (j := 0) (n := 7) rfl rfl dX12_number_6 rfl ?_
    refine go_bipush (z := 48) (n := 9) ⟨by decide, by decide⟩ dX12_number_7 rfl ?_
    refine go_bipush (z := 57) (n := 11) ⟨by decide, by decide⟩ dX12_number_9 rfl ?_
    replace E := Option.bind_eq_some_iff.mp E; obtain ⟨a3, ea3, E⟩ := E
    obtain ⟨fa3, ga3⟩ := xrc_some ea3
    replace E := xb_some E; obtain ⟨v1, h2, ev1, E⟩ := E
    refine go_callV (y := yX12_isAt) (n := 14) (st := []) (as := [vi 48, vi 57]) (stk9 := [vi v1]) (OX12_isAt ev1) yw_X12_isAt ci_12 ga3 wml_RX12_115 wim_X12_isAt wse_X12_isAt (Nat.le_of_ble_eq_true rfl) rfl ⟨Nat.le_of_ble_eq_true rfl, Nat.le_of_ble_eq_true rfl⟩ (Nat.le_of_ble_eq_true rfl) dX12_number_11 rfl (by cases fa3; rfl) rfl ?_
    refine go_if_eq (tgt := 66) (n := 17) dX12_number_14 rfl rfl (fun c4 => ?_) (fun c4 => ?_)
    · rw [if_pos c4] at E
      refine go_aload_n (j := 0) (n := 67) rfl rfl dX12_number_66 rfl ?_
      replace E := Option.bind_eq_some_iff.mp E; obtain ⟨v5, ev5, E⟩ := E
      refine go_getI (n := 70) ev5 fl_RX12_109 rfl dX12_number_67 rfl ?_
      refine go_aload_n (j := 0) (n := 71) rfl rfl dX12_number_70 rfl ?_
      replace E := Option.bind_eq_some_iff.mp E; obtain ⟨v6, ev6, E⟩ := E
      refine go_getI (n := 74) ev6 fl_RX12_119 rfl dX12_number_71 rfl ?_
      refine go_icmp_eq (tgt := 101) (n := 77) dX12_number_74 rfl rfl (fun c7 => ?_) (fun c7 => ?_)
      · rw [if_pos c7] at E
        refine go_pick (lv' := []) [] rfl ?_
        exact SX12_number_L101       _ E
      · rw [if_neg c7] at E
        refine go_aload_n (j := 0) (n := 78) rfl rfl dX12_number_77 rfl ?_
        replace E := Option.bind_eq_some_iff.mp E; obtain ⟨v8, ev8, E⟩ := E
        refine go_getI (n := 81) ev8 fl_RX12_109 rfl dX12_number_78 rfl ?_
        refine go_aload_n (j := 0) (n := 82) rfl rfl dX12_number_81 rfl ?_
        replace E := Option.bind_eq_some_iff.mp E; obtain ⟨v9, ev9, E⟩ := E
        refine go_getI (n := 85) ev9 fl_RX12_119 rfl dX12_number_82 rfl ?_
        refine go_isub (n := 86) dX12_number_85 rfl ?_
        refine go_bipush (z := 6) (n := 88) ⟨by decide, by decide⟩ dX12_number_86 rfl ?_
        refine go_icmp_gt (tgt := 101) (n := 91) dX12_number_88 rfl rfl (fun c10 => ?_) (fun c10 => ?_)
        · rw [if_pos c10] at E
          refine go_pick (lv' := []) [] rfl ?_
          exact SX12_number_L101       _ E
        · rw [if_neg c10] at E
          refine go_iload_n (j := 3) (n := 92) rfl rfl dX12_number_91 rfl ?_
          refine go_iload_n (j := 1) (n := 93) rfl rfl dX12_number_92 rfl ?_
          refine go_icmp_lt (tgt := 101) (n := 96) dX12_number_93 rfl rfl (fun c11 => ?_) (fun c11 => ?_)
          · rw [if_pos c11] at E
            refine go_pick (lv' := []) [] rfl ?_
            exact SX12_number_L101       _ E
          · rw [if_neg c11] at E
            refine go_iload_n (j := 3) (n := 97) rfl rfl dX12_number_96 rfl ?_
            refine go_iload_n (j := 2) (n := 98) rfl rfl dX12_number_97 rfl ?_
            refine go_icmp_le (tgt := 105) (n := 101) dX12_number_98 rfl rfl (fun c12 => ?_) (fun c12 => ?_)
            · rw [if_pos c12] at E
              refine go_iload_n (j := 3) (n := 106) rfl rfl dX12_number_105 rfl ?_
              cases E
              exact go_ireturn rfl dX12_number_106
            · rw [if_neg c12] at E
              refine go_pick (lv' := []) [] rfl ?_
              exact SX12_number_L101       _ E
    · rw [if_neg c4] at E
      refine go_aload_n (j := 0) (n := 18) rfl rfl dX12_number_17 rfl ?_
      replace E := Option.bind_eq_some_iff.mp E; obtain ⟨v13, ev13, E⟩ := E
      refine go_getI (n := 21) ev13 fl_RX12_109 rfl dX12_number_18 rfl ?_
      refine go_aload_n (j := 0) (n := 22) rfl rfl dX12_number_21 rfl ?_
      replace E := Option.bind_eq_some_iff.mp E; obtain ⟨v14, ev14, E⟩ := E
      refine go_getI (n := 25) ev14 fl_RX12_119 rfl dX12_number_22 rfl ?_
      refine go_isub (n := 26) dX12_number_25 rfl ?_
      refine go_bipush (z := 6) (n := 28) ⟨by decide, by decide⟩ dX12_number_26 rfl ?_
      refine go_icmp_ge (tgt := 51) (n := 31) dX12_number_28 rfl rfl (fun c15 => ?_) (fun c15 => ?_)
      · rw [if_pos c15] at E
        refine go_iload_n (j := 3) (n := 52) rfl rfl dX12_number_51 rfl ?_
        refine go_pick (lv' := [(0, vr (some l0)), (1, vi l1), (2, vi l2)]) [0, 1, 2] rfl ?_
        exact SX12_number_L52   _ hrc6 _ _ _ _ _ E
      · rw [if_neg c15] at E
        refine go_bipush (z := 10) (n := 33) ⟨by decide, by decide⟩ dX12_number_31 rfl ?_
        refine go_iload_n (j := 3) (n := 34) rfl rfl dX12_number_33 rfl ?_
        refine go_imul (n := 35) dX12_number_34 rfl ?_
        refine go_aload_n (j := 0) (n := 36) rfl rfl dX12_number_35 rfl ?_
        replace E := Option.bind_eq_some_iff.mp E; obtain ⟨v16, ev16, E⟩ := E
        refine go_getP (n := 39) ev16 fl_RX12_21 rfl dX12_number_36 rfl ?_
        refine go_aload_n (j := 0) (n := 40) rfl rfl dX12_number_39 rfl ?_
        replace E := Option.bind_eq_some_iff.mp E; obtain ⟨v17, ev17, E⟩ := E
        refine go_getI (n := 43) ev17 fl_RX12_109 rfl dX12_number_40 rfl ?_
        replace E := Option.bind_eq_some_iff.mp E; obtain ⟨v18, ev18, E⟩ := E
        refine go_baload (n := 44) (Or.inl rfl) ev18 dX12_number_43 rfl ?_
        refine go_iadd (n := 45) dX12_number_44 rfl ?_
        refine go_bipush (z := 48) (n := 47) ⟨by decide, by decide⟩ dX12_number_45 rfl ?_
        refine go_isub (n := 48) dX12_number_47 rfl ?_
        refine go_goto (tgt := 52) dX12_number_48 rfl ?_
        refine go_pick (lv' := [(0, vr (some l0)), (1, vi l1), (2, vi l2)]) [0, 1, 2] rfl ?_
        exact SX12_number_L52   _ hrc6 _ _ _ _ _ E
noncomputable def X12_number (F : Nat)   (l0 : Nat) (l1 : Int) (l2 : Int)  (h : HP) : Option (Int × HP) :=
  (xrc h (some l0) 12 31).bind fun a3 =>
  xb (X12_blanks F a3 h) fun v1 h2 =>
  X12_number_L6 F F l0 l1 l2 0 h2
set_option maxRecDepth 100000 in
theorem SX12_number {K : Ctx} {F : Nat} {r : Int} {hf : HP}     (l0 : Nat) (l1 : Int) (l2 : Int)  (h : HP) (E : X12_number F   l0 l1 l2 h = some (r, hf)) : Go K MX12_number (QM K (some (vi r)) hf) hf 0 [(0, vr (some l0)), (1, vi l1), (2, vi l2)] [] h := by
  unfold X12_number at E
  refine go_aload_n (j := 0) (n := 1) rfl rfl dX12_number_0 rfl ?_
  replace E := Option.bind_eq_some_iff.mp E; obtain ⟨a3, ea3, E⟩ := E
  obtain ⟨fa3, ga3⟩ := xrc_some ea3
  replace E := xb_some E; obtain ⟨v1, h2, ev1, E⟩ := E
  refine go_callV (y := yX12_blanks) (n := 4) (st := []) (as := []) (stk9 := []) (OX12_blanks ev1) yw_X12_blanks ci_12 ga3 wml_RX12_122 wim_X12_blanks wse_X12_blanks (Nat.le_of_ble_eq_true rfl) rfl ⟨Nat.le_of_ble_eq_true rfl, Nat.le_of_ble_eq_true rfl⟩ (Nat.le_of_ble_eq_true rfl) dX12_number_1 rfl (by cases fa3; rfl) rfl ?_
  refine go_iconst (z := 0) (n := 5) ⟨by decide, by decide⟩ dX12_number_4 rfl ?_
  refine go_istore_n (n := 6) (lv' := [(3, vi 0), (0, vr (some l0)), (1, vi l1), (2, vi l2)]) rfl dX12_number_5 rfl (Nat.le_of_ble_eq_true rfl) rfl ?_
  refine go_pick (lv' := [(0, vr (some l0)), (1, vi l1), (2, vi l2), (3, vi 0)]) [1, 2, 3, 0] rfl ?_
  exact SX12_number_L6     F _ _ _ _ _ E
theorem OX12_number {F : Nat} {l0 : Nat} {l1 : Int} {l2 : Int} {h hf : HP} {r : Int} (e : X12_number F l0 l1 l2 h = some (r, hf)) : Ok MX12_number [vr (some l0), vi l1, vi l2] (some (vi r)) h hf := fun K _ _ _ => SX12_number l0 l1 l2 h e
theorem yw_X12_letters : YW yX12_letters cX12_letters 1 none 0 := ⟨bw_of 1966 (by decide +kernel) rfl, bw_of 129 (by decide +kernel) rfl, ⟨by decide +kernel, by decide +kernel, by decide +kernel⟩, by decide +kernel⟩
theorem wml_RX12_134 : Cond.methodLink RX12 134 yX12_letters ∈ BW := bw_of 1963 (by decide +kernel) rfl
theorem wim_X12_letters : Cond.instanceMethod yX12_letters ∈ BW := bw_of 1965 (by decide +kernel) rfl
theorem wse_X12_letters : Cond.selects RX12 yX12_letters yX12_letters ∈ BW := bw_of 69 (by decide +kernel) rfl
theorem yw_X12_isWord : YW yX12_isWord cX12_isWord 4 (some .boolean) 1 := ⟨bw_of 1971 (by decide +kernel) rfl, bw_of 129 (by decide +kernel) rfl, ⟨by decide +kernel, by decide +kernel, by decide +kernel⟩, by decide +kernel⟩
theorem wml_RX12_137 : Cond.methodLink RX12 137 yX12_isWord ∈ BW := bw_of 1968 (by decide +kernel) rfl
theorem wim_X12_isWord : Cond.instanceMethod yX12_isWord ∈ BW := bw_of 1970 (by decide +kernel) rfl
theorem wse_X12_isWord : Cond.selects RX12 yX12_isWord yX12_isWord ∈ BW := bw_of 70 (by decide +kernel) rfl
abbrev MX12_needs : MI := (RX12, cX12_needs, 2, (some .boolean), 9, none, "needs")
noncomputable def X12_needs (F : Nat)   (l0 : Nat) (l1 : Option Nat)  (h : HP) : Option (Int × HP) :=
  (xrc h (some l0) 12 31).bind fun a3 =>
  xb (X12_letters F a3 h) fun v1 h2 =>
  (xrc h2 (some l0) 12 31).bind fun a6 =>
  xb (X12_isWord F a6 l1 h2) fun v4 h5 =>
  xz v4 h5
set_option maxRecDepth 100000 in
theorem SX12_needs {K : Ctx} {F : Nat} {r : Int} {hf : HP}     (l0 : Nat) (l1 : Option Nat)  (h : HP) (E : X12_needs F   l0 l1 h = some (r, hf)) : Go K MX12_needs (QM K (some (vi r)) hf) hf 0 [(0, vr (some l0)), (1, vr l1)] [] h := by
  unfold X12_needs at E
  refine go_aload_n (j := 0) (n := 1) rfl rfl dX12_needs_0 rfl ?_
  replace E := Option.bind_eq_some_iff.mp E; obtain ⟨a3, ea3, E⟩ := E
  obtain ⟨fa3, ga3⟩ := xrc_some ea3
  replace E := xb_some E; obtain ⟨v1, h2, ev1, E⟩ := E
  refine go_callV (y := yX12_letters) (n := 4) (st := []) (as := []) (stk9 := []) (OX12_letters ev1) yw_X12_letters ci_12 ga3 wml_RX12_134 wim_X12_letters wse_X12_letters (Nat.le_of_ble_eq_true rfl) rfl ⟨Nat.le_of_ble_eq_true rfl, Nat.le_of_ble_eq_true rfl⟩ (Nat.le_of_ble_eq_true rfl) dX12_needs_1 rfl (by cases fa3; rfl) rfl ?_
  refine go_aload_n (j := 0) (n := 5) rfl rfl dX12_needs_4 rfl ?_
  refine go_aload_n (j := 1) (n := 6) rfl rfl dX12_needs_5 rfl ?_
  replace E := Option.bind_eq_some_iff.mp E; obtain ⟨a6, ea6, E⟩ := E
  obtain ⟨fa6, ga6⟩ := xrc_some ea6
  replace E := xb_some E; obtain ⟨v4, h5, ev4, E⟩ := E
  refine go_callV (y := yX12_isWord) (n := 9) (st := []) (as := [vr l1]) (stk9 := [vi v4]) (OX12_isWord ev4) yw_X12_isWord ci_12 ga6 wml_RX12_137 wim_X12_isWord wse_X12_isWord (Nat.le_of_ble_eq_true rfl) rfl ⟨Nat.le_of_ble_eq_true rfl, Nat.le_of_ble_eq_true rfl⟩ (Nat.le_of_ble_eq_true rfl) dX12_needs_6 rfl (by cases fa6; rfl) rfl ?_
  unfold xz at E
  split at E
  · next c7 =>
    cases E
    exact go_zreturn rfl c7 dX12_needs_9
  · cases E
theorem OX12_needs {F : Nat} {l0 : Nat} {l1 : Option Nat} {h hf : HP} {r : Int} (e : X12_needs F l0 l1 h = some (r, hf)) : Ok MX12_needs [vr (some l0), vr l1] (some (vi r)) h hf := fun K _ _ _ => SX12_needs l0 l1 h e
abbrev MX12_sign : MI := (RX12, cX12_sign, 2, (some .boolean), 4, none, "sign")
noncomputable def X12_sign (F : Nat)   (l0 : Nat) (l1 : Int)  (h : HP) : Option (Int × HP) :=
  (xrc h (some l0) 12 31).bind fun a3 =>
  xb (X12_blanks F a3 h) fun v1 h2 =>
  (xrc h2 (some l0) 12 31).bind fun a6 =>
  xb (X12_isAt F a6 l1 l1 h2) fun v4 h5 =>
  if v4 = 0 then
    some (0, h5)
  else
    (xgI h5 (some l0) 12 31 6).bind fun v8 =>
    (xpI h5 (some l0) 12 31 6 (w32 (v8 + 1))).bind fun h9 =>
    some (1, h9)
set_option maxRecDepth 100000 in
theorem SX12_sign {K : Ctx} {F : Nat} {r : Int} {hf : HP}     (l0 : Nat) (l1 : Int)  (h : HP) (E : X12_sign F   l0 l1 h = some (r, hf)) : Go K MX12_sign (QM K (some (vi r)) hf) hf 0 [(0, vr (some l0)), (1, vi l1)] [] h := by
  unfold X12_sign at E
  refine go_aload_n (j := 0) (n := 1) rfl rfl dX12_sign_0 rfl ?_
  replace E := Option.bind_eq_some_iff.mp E; obtain ⟨a3, ea3, E⟩ := E
  obtain ⟨fa3, ga3⟩ := xrc_some ea3
  replace E := xb_some E; obtain ⟨v1, h2, ev1, E⟩ := E
  refine go_callV (y := yX12_blanks) (n := 4) (st := []) (as := []) (stk9 := []) (OX12_blanks ev1) yw_X12_blanks ci_12 ga3 wml_RX12_122 wim_X12_blanks wse_X12_blanks (Nat.le_of_ble_eq_true rfl) rfl ⟨Nat.le_of_ble_eq_true rfl, Nat.le_of_ble_eq_true rfl⟩ (Nat.le_of_ble_eq_true rfl) dX12_sign_1 rfl (by cases fa3; rfl) rfl ?_
  refine go_aload_n (j := 0) (n := 5) rfl rfl dX12_sign_4 rfl ?_
  refine go_iload_n (j := 1) (n := 6) rfl rfl dX12_sign_5 rfl ?_
  refine go_iload_n (j := 1) (n := 7) rfl rfl dX12_sign_6 rfl ?_
  replace E := Option.bind_eq_some_iff.mp E; obtain ⟨a6, ea6, E⟩ := E
  obtain ⟨fa6, ga6⟩ := xrc_some ea6
  replace E := xb_some E; obtain ⟨v4, h5, ev4, E⟩ := E
  refine go_callV (y := yX12_isAt) (n := 10) (st := []) (as := [vi l1, vi l1]) (stk9 := [vi v4]) (OX12_isAt ev4) yw_X12_isAt ci_12 ga6 wml_RX12_115 wim_X12_isAt wse_X12_isAt (Nat.le_of_ble_eq_true rfl) rfl ⟨Nat.le_of_ble_eq_true rfl, Nat.le_of_ble_eq_true rfl⟩ (Nat.le_of_ble_eq_true rfl) dX12_sign_7 rfl (by cases fa6; rfl) rfl ?_
  refine go_if_ne (tgt := 15) (n := 13) dX12_sign_10 rfl rfl (fun c7 => ?_) (fun c7 => ?_)
  · rw [if_neg c7] at E
    refine go_aload_n (j := 0) (n := 16) rfl rfl dX12_sign_15 rfl ?_
    refine go_dup (n := 17) rfl dX12_sign_16 rfl ?_
    replace E := Option.bind_eq_some_iff.mp E; obtain ⟨v8, ev8, E⟩ := E
    refine go_getI (n := 20) ev8 fl_RX12_109 rfl dX12_sign_17 rfl ?_
    refine go_iconst (z := 1) (n := 21) ⟨by decide, by decide⟩ dX12_sign_20 rfl ?_
    refine go_iadd (n := 22) dX12_sign_21 rfl ?_
    replace E := Option.bind_eq_some_iff.mp E; obtain ⟨h9, eh9, E⟩ := E
    refine go_putI (n := 25) eh9 fl_RX12_109 rfl dX12_sign_22 rfl ?_
    refine go_iconst (z := 1) (n := 26) ⟨by decide, by decide⟩ dX12_sign_25 rfl ?_
    cases E
    exact go_zreturn rfl (Or.inr rfl) dX12_sign_26
  · rw [if_pos c7] at E
    refine go_iconst (z := 0) (n := 14) ⟨by decide, by decide⟩ dX12_sign_13 rfl ?_
    cases E
    exact go_zreturn rfl (Or.inl rfl) dX12_sign_14
theorem OX12_sign {F : Nat} {l0 : Nat} {l1 : Int} {h hf : HP} {r : Int} (e : X12_sign F l0 l1 h = some (r, hf)) : Ok MX12_sign [vr (some l0), vi l1] (some (vi r)) h hf := fun K _ _ _ => SX12_sign l0 l1 h e
abbrev MX12_passes : MI := (RX12, cX12_passes, 2, (some .boolean), 9, none, "passes")
noncomputable def X12_passes (F : Nat)   (l0 : Nat) (l1 : Option Nat)  (h : HP) : Option (Int × HP) :=
  (xrc h (some l0) 12 31).bind fun a3 =>
  xb (X12_letters F a3 h) fun v1 h2 =>
  (xrc h2 (some l0) 12 31).bind fun a6 =>
  xb (X12_isWord F a6 l1 h2) fun v4 h5 =>
  if v4 = 0 then
    (xgI h5 (some l0) 12 31 8).bind fun v8 =>
    (xpI h5 (some l0) 12 31 6 v8).bind fun h9 =>
    some (0, h9)
  else
    some (1, h5)
set_option maxRecDepth 100000 in
theorem SX12_passes {K : Ctx} {F : Nat} {r : Int} {hf : HP}     (l0 : Nat) (l1 : Option Nat)  (h : HP) (E : X12_passes F   l0 l1 h = some (r, hf)) : Go K MX12_passes (QM K (some (vi r)) hf) hf 0 [(0, vr (some l0)), (1, vr l1)] [] h := by
  unfold X12_passes at E
  refine go_aload_n (j := 0) (n := 1) rfl rfl dX12_passes_0 rfl ?_
  replace E := Option.bind_eq_some_iff.mp E; obtain ⟨a3, ea3, E⟩ := E
  obtain ⟨fa3, ga3⟩ := xrc_some ea3
  replace E := xb_some E; obtain ⟨v1, h2, ev1, E⟩ := E
  refine go_callV (y := yX12_letters) (n := 4) (st := []) (as := []) (stk9 := []) (OX12_letters ev1) yw_X12_letters ci_12 ga3 wml_RX12_134 wim_X12_letters wse_X12_letters (Nat.le_of_ble_eq_true rfl) rfl ⟨Nat.le_of_ble_eq_true rfl, Nat.le_of_ble_eq_true rfl⟩ (Nat.le_of_ble_eq_true rfl) dX12_passes_1 rfl (by cases fa3; rfl) rfl ?_
  refine go_aload_n (j := 0) (n := 5) rfl rfl dX12_passes_4 rfl ?_
  refine go_aload_n (j := 1) (n := 6) rfl rfl dX12_passes_5 rfl ?_
  replace E := Option.bind_eq_some_iff.mp E; obtain ⟨a6, ea6, E⟩ := E
  obtain ⟨fa6, ga6⟩ := xrc_some ea6
  replace E := xb_some E; obtain ⟨v4, h5, ev4, E⟩ := E
  refine go_callV (y := yX12_isWord) (n := 9) (st := []) (as := [vr l1]) (stk9 := [vi v4]) (OX12_isWord ev4) yw_X12_isWord ci_12 ga6 wml_RX12_137 wim_X12_isWord wse_X12_isWord (Nat.le_of_ble_eq_true rfl) rfl ⟨Nat.le_of_ble_eq_true rfl, Nat.le_of_ble_eq_true rfl⟩ (Nat.le_of_ble_eq_true rfl) dX12_passes_6 rfl (by cases fa6; rfl) rfl ?_
  refine go_if_eq (tgt := 14) (n := 12) dX12_passes_9 rfl rfl (fun c7 => ?_) (fun c7 => ?_)
  · rw [if_pos c7] at E
    refine go_aload_n (j := 0) (n := 15) rfl rfl dX12_passes_14 rfl ?_
    refine go_aload_n (j := 0) (n := 16) rfl rfl dX12_passes_15 rfl ?_
    replace E := Option.bind_eq_some_iff.mp E; obtain ⟨v8, ev8, E⟩ := E
    refine go_getI (n := 19) ev8 fl_RX12_119 rfl dX12_passes_16 rfl ?_
    replace E := Option.bind_eq_some_iff.mp E; obtain ⟨h9, eh9, E⟩ := E
    refine go_putI (n := 22) eh9 fl_RX12_109 rfl dX12_passes_19 rfl ?_
    refine go_iconst (z := 0) (n := 23) ⟨by decide, by decide⟩ dX12_passes_22 rfl ?_
    cases E
    exact go_zreturn rfl (Or.inl rfl) dX12_passes_23
  · rw [if_neg c7] at E
    refine go_iconst (z := 1) (n := 13) ⟨by decide, by decide⟩ dX12_passes_12 rfl ?_
    cases E
    exact go_zreturn rfl (Or.inr rfl) dX12_passes_13
theorem OX12_passes {F : Nat} {l0 : Nat} {l1 : Option Nat} {h hf : HP} {r : Int} (e : X12_passes F l0 l1 h = some (r, hf)) : Ok MX12_passes [vr (some l0), vr l1] (some (vi r)) h hf := fun K _ _ _ => SX12_passes l0 l1 h e
theorem fl_RX12_31 : FL RX12 31 12 31 12 true := ⟨RX12, TX12, ci_12, by decide, bw_of 1765 (by decide +kernel) rfl, rfl, rfl⟩
theorem fl_RX12_144 : FL RX12 144 12 31 13 false := ⟨RX12, TX12, ci_12, by decide, bw_of 1766 (by decide +kernel) rfl, rfl, rfl⟩
abbrev MX12_emits : MI := (RX12, cX12_emits, 3, none, 2, none, "emits")
noncomputable def X12_emits (F : Nat)   (l0 : Nat) (l1 : Int) (l2 : Int)  (h : HP) : Option (Unit × HP) :=
  (xgP h (some l0) 12 31 12).bind fun v1 =>
  (xgI h (some l0) 12 31 13).bind fun v2 =>
  (xsI h v1 (w32 (82 + (w32 (2 * v2)))) l1).bind fun h3 =>
  (xgP h3 (some l0) 12 31 12).bind fun v4 =>
  (xgI h3 (some l0) 12 31 13).bind fun v5 =>
  (xsI h3 v4 (w32 ((w32 (82 + (w32 (2 * v5)))) + 1)) l2).bind fun h6 =>
  (xgI h6 (some l0) 12 31 13).bind fun v7 =>
  (xpI h6 (some l0) 12 31 13 (w32 (v7 + 1))).bind fun h8 =>
  some ((), h8)
set_option maxRecDepth 100000 in
theorem SX12_emits {K : Ctx} {F : Nat} {r : Unit} {hf : HP}     (l0 : Nat) (l1 : Int) (l2 : Int)  (h : HP) (E : X12_emits F   l0 l1 l2 h = some (r, hf)) : Go K MX12_emits (QM K none hf) hf 0 [(0, vr (some l0)), (1, vi l1), (2, vi l2)] [] h := by
  unfold X12_emits at E
  refine go_aload_n (j := 0) (n := 1) rfl rfl dX12_emits_0 rfl ?_
  replace E := Option.bind_eq_some_iff.mp E; obtain ⟨v1, ev1, E⟩ := E
  refine go_getP (n := 4) ev1 fl_RX12_31 rfl dX12_emits_1 rfl ?_
  refine go_bipush (z := 82) (n := 6) ⟨by decide, by decide⟩ dX12_emits_4 rfl ?_
  refine go_iconst (z := 2) (n := 7) ⟨by decide, by decide⟩ dX12_emits_6 rfl ?_
  refine go_aload_n (j := 0) (n := 8) rfl rfl dX12_emits_7 rfl ?_
  replace E := Option.bind_eq_some_iff.mp E; obtain ⟨v2, ev2, E⟩ := E
  refine go_getI (n := 11) ev2 fl_RX12_144 rfl dX12_emits_8 rfl ?_
  refine go_imul (n := 12) dX12_emits_11 rfl ?_
  refine go_iadd (n := 13) dX12_emits_12 rfl ?_
  refine go_iload_n (j := 1) (n := 14) rfl rfl dX12_emits_13 rfl ?_
  replace E := Option.bind_eq_some_iff.mp E; obtain ⟨h3, eh3, E⟩ := E
  refine go_iastore (n := 15) eh3 dX12_emits_14 rfl ?_
  refine go_aload_n (j := 0) (n := 16) rfl rfl dX12_emits_15 rfl ?_
  replace E := Option.bind_eq_some_iff.mp E; obtain ⟨v4, ev4, E⟩ := E
  refine go_getP (n := 19) ev4 fl_RX12_31 rfl dX12_emits_16 rfl ?_
  refine go_bipush (z := 82) (n := 21) ⟨by decide, by decide⟩ dX12_emits_19 rfl ?_
  refine go_iconst (z := 2) (n := 22) ⟨by decide, by decide⟩ dX12_emits_21 rfl ?_
  refine go_aload_n (j := 0) (n := 23) rfl rfl dX12_emits_22 rfl ?_
  replace E := Option.bind_eq_some_iff.mp E; obtain ⟨v5, ev5, E⟩ := E
  refine go_getI (n := 26) ev5 fl_RX12_144 rfl dX12_emits_23 rfl ?_
  refine go_imul (n := 27) dX12_emits_26 rfl ?_
  refine go_iadd (n := 28) dX12_emits_27 rfl ?_
  refine go_iconst (z := 1) (n := 29) ⟨by decide, by decide⟩ dX12_emits_28 rfl ?_
  refine go_iadd (n := 30) dX12_emits_29 rfl ?_
  refine go_iload_n (j := 2) (n := 31) rfl rfl dX12_emits_30 rfl ?_
  replace E := Option.bind_eq_some_iff.mp E; obtain ⟨h6, eh6, E⟩ := E
  refine go_iastore (n := 32) eh6 dX12_emits_31 rfl ?_
  refine go_aload_n (j := 0) (n := 33) rfl rfl dX12_emits_32 rfl ?_
  refine go_dup (n := 34) rfl dX12_emits_33 rfl ?_
  replace E := Option.bind_eq_some_iff.mp E; obtain ⟨v7, ev7, E⟩ := E
  refine go_getI (n := 37) ev7 fl_RX12_144 rfl dX12_emits_34 rfl ?_
  refine go_iconst (z := 1) (n := 38) ⟨by decide, by decide⟩ dX12_emits_37 rfl ?_
  refine go_iadd (n := 39) dX12_emits_38 rfl ?_
  replace E := Option.bind_eq_some_iff.mp E; obtain ⟨h8, eh8, E⟩ := E
  refine go_putI (n := 42) eh8 fl_RX12_144 rfl dX12_emits_39 rfl ?_
  cases E
  exact go_return rfl dX12_emits_42
theorem OX12_emits {F : Nat} {l0 : Nat} {l1 : Int} {l2 : Int} {h hf : HP} {r : Unit} (e : X12_emits F l0 l1 l2 h = some (r, hf)) : Ok MX12_emits [vr (some l0), vi l1, vi l2] none h hf := fun K _ _ _ => SX12_emits l0 l1 l2 h e
theorem fl_RX12_147 : FL RX12 147 12 31 15 false := ⟨RX12, TX12, ci_12, by decide, bw_of 1768 (by decide +kernel) rfl, rfl, rfl⟩
theorem fl_RX12_151 : FL RX12 151 12 31 14 false := ⟨RX12, TX12, ci_12, by decide, bw_of 1767 (by decide +kernel) rfl, rfl, rfl⟩
abbrev MX12_isRead : MI := (RX12, cX12_isRead, 2, none, 2, none, "isRead")
noncomputable def X12_isRead_L25 (F : Nat)    (s0 : Int) (s1 : Int) (s2 : Option Nat) (h : HP) : Option (Unit × HP) :=
  (xpJ h s2 12 31 15 (yor s1 s0)).bind fun h1 =>
  some ((), h1)
set_option maxRecDepth 100000 in
theorem SX12_isRead_L25 {K : Ctx} {F : Nat} {r : Unit} {hf : HP}      (s0 : Int) (s1 : Int) (s2 : Option Nat) (h : HP) (E : X12_isRead_L25 F   s0 s1 s2 h = some (r, hf)) : Go K MX12_isRead (QM K none hf) hf 25 [] [vl s0, vl s1, vr s2] h := by
  unfold X12_isRead_L25 at E
  refine go_lor (n := 26) dX12_isRead_25 rfl ?_
  replace E := Option.bind_eq_some_iff.mp E; obtain ⟨h1, eh1, E⟩ := E
  refine go_putJ (n := 29) eh1 fl_RX12_147 rfl dX12_isRead_26 rfl ?_
  cases E
  exact go_return rfl dX12_isRead_29
noncomputable def X12_isRead (F : Nat)   (l0 : Nat) (l1 : Int)  (h : HP) : Option (Unit × HP) :=
  (xgJ h (some l0) 12 31 15).bind fun v1 =>
  (xgJ h (some l0) 12 31 14).bind fun v2 =>
  X12_isRead_L25 F (if (xcmp (yand (yshr v2 l1) 1) 0) = 0 then yshl 1 l1 else 0) v1 (some l0) h
set_option maxRecDepth 100000 in
theorem SX12_isRead {K : Ctx} {F : Nat} {r : Unit} {hf : HP}     (l0 : Nat) (l1 : Int)  (h : HP) (E : X12_isRead F   l0 l1 h = some (r, hf)) : Go K MX12_isRead (QM K none hf) hf 0 [(0, vr (some l0)), (1, vi l1)] [] h := by
  unfold X12_isRead at E
  refine go_aload_n (j := 0) (n := 1) rfl rfl dX12_isRead_0 rfl ?_
  refine go_dup (n := 2) rfl dX12_isRead_1 rfl ?_
  replace E := Option.bind_eq_some_iff.mp E; obtain ⟨v1, ev1, E⟩ := E
  refine go_getJ (n := 5) ev1 fl_RX12_147 rfl dX12_isRead_2 rfl ?_
  refine go_aload_n (j := 0) (n := 6) rfl rfl dX12_isRead_5 rfl ?_
  replace E := Option.bind_eq_some_iff.mp E; obtain ⟨v2, ev2, E⟩ := E
  refine go_getJ (n := 9) ev2 fl_RX12_151 rfl dX12_isRead_6 rfl ?_
  refine go_iload_n (j := 1) (n := 10) rfl rfl dX12_isRead_9 rfl ?_
  refine go_lshr (n := 11) dX12_isRead_10 rfl ?_
  refine go_lconst (w := 1) (n := 12) rfl dX12_isRead_11 rfl ?_
  refine go_land (n := 13) dX12_isRead_12 rfl ?_
  refine go_lconst (w := 0) (n := 14) rfl dX12_isRead_13 rfl ?_
  refine go_lcmp (n := 15) dX12_isRead_14 rfl ?_
  refine go_if_ne (tgt := 24) (n := 18) dX12_isRead_15 rfl rfl (fun c3 => ?_) (fun c3 => ?_)
  · simp only [if_neg c3] at E
    refine go_lconst (w := 0) (n := 25) rfl dX12_isRead_24 rfl ?_
    refine go_pick (lv' := []) [] rfl ?_
    exact SX12_isRead_L25      _ _ _ _ E
  · simp only [if_pos c3] at E
    refine go_lconst (w := 1) (n := 19) rfl dX12_isRead_18 rfl ?_
    refine go_iload_n (j := 1) (n := 20) rfl rfl dX12_isRead_19 rfl ?_
    refine go_lshl (n := 21) dX12_isRead_20 rfl ?_
    refine go_goto (tgt := 25) dX12_isRead_21 rfl ?_
    refine go_pick (lv' := []) [] rfl ?_
    exact SX12_isRead_L25      _ _ _ _ E
theorem OX12_isRead {F : Nat} {l0 : Nat} {l1 : Int} {h hf : HP} {r : Unit} (e : X12_isRead F l0 l1 h = some (r, hf)) : Ok MX12_isRead [vr (some l0), vi l1] none h hf := fun K _ _ _ => SX12_isRead l0 l1 h e
theorem yw_X12_emits : YW yX12_emits cX12_emits 3 none 2 := ⟨bw_of 2016 (by decide +kernel) rfl, bw_of 129 (by decide +kernel) rfl, ⟨by decide +kernel, by decide +kernel, by decide +kernel⟩, by decide +kernel⟩
theorem wml_RX12_158 : Cond.methodLink RX12 158 yX12_emits ∈ BW := bw_of 2013 (by decide +kernel) rfl
theorem wim_X12_emits : Cond.instanceMethod yX12_emits ∈ BW := bw_of 2015 (by decide +kernel) rfl
theorem wse_X12_emits : Cond.selects RX12 yX12_emits yX12_emits ∈ BW := bw_of 79 (by decide +kernel) rfl
theorem yw_X12_number : YW yX12_number cX12_number 4 (some .int) 2 := ⟨bw_of 1977 (by decide +kernel) rfl, bw_of 129 (by decide +kernel) rfl, ⟨by decide +kernel, by decide +kernel, by decide +kernel⟩, by decide +kernel⟩
theorem wml_RX12_155 : Cond.methodLink RX12 155 yX12_number ∈ BW := bw_of 1974 (by decide +kernel) rfl
theorem wim_X12_number : Cond.instanceMethod yX12_number ∈ BW := bw_of 1976 (by decide +kernel) rfl
theorem wse_X12_number : Cond.selects RX12 yX12_number yX12_number ∈ BW := bw_of 71 (by decide +kernel) rfl
theorem yw_X12_isRead : YW yX12_isRead cX12_isRead 2 none 1 := ⟨bw_of 2037 (by decide +kernel) rfl, bw_of 129 (by decide +kernel) rfl, ⟨by decide +kernel, by decide +kernel, by decide +kernel⟩, by decide +kernel⟩
theorem wml_RX12_170 : Cond.methodLink RX12 170 yX12_isRead ∈ BW := bw_of 2034 (by decide +kernel) rfl
theorem wim_X12_isRead : Cond.instanceMethod yX12_isRead ∈ BW := bw_of 2036 (by decide +kernel) rfl
theorem wse_X12_isRead : Cond.selects RX12 yX12_isRead yX12_isRead ∈ BW := bw_of 83 (by decide +kernel) rfl
theorem wk_RX12_154 : Cond.constant RX12 154 (Int32.ofInt 999999) ∈ BW := bw_of 2029 (by decide +kernel) rfl
abbrev MX12_readAtom : MI := (RX12, cX12_readAtom, 3, (some .boolean), 9, none, "readAtom")
noncomputable def X12_readAtom_L70 (F : Nat)    (s0 : Int) (s1 : Option Nat) (h : HP) : Option (Int × HP) :=
  (xrc h s1 12 31).bind fun a3 =>
  xb (X12_emits F a3 s0 0 h) fun v1 h2 =>
  some (1, h2)
set_option maxRecDepth 100000 in
theorem SX12_readAtom_L70 {K : Ctx} {F : Nat} {r : Int} {hf : HP}      (s0 : Int) (s1 : Option Nat) (h : HP) (E : X12_readAtom_L70 F   s0 s1 h = some (r, hf)) : Go K MX12_readAtom (QM K (some (vi r)) hf) hf 70 [] [vi s0, vr s1] h := by
  unfold X12_readAtom_L70 at E
  refine go_iconst (z := 0) (n := 71) ⟨by decide, by decide⟩ dX12_readAtom_70 rfl ?_
  replace E := Option.bind_eq_some_iff.mp E; obtain ⟨a3, ea3, E⟩ := E
  obtain ⟨fa3, ga3⟩ := xrc_some ea3
  replace E := xb_some E; obtain ⟨v1, h2, ev1, E⟩ := E
  refine go_callV (y := yX12_emits) (n := 74) (st := []) (as := [vi s0, vi 0]) (stk9 := []) (OX12_emits ev1) yw_X12_emits ci_12 ga3 wml_RX12_158 wim_X12_emits wse_X12_emits (Nat.le_of_ble_eq_true rfl) rfl ⟨Nat.le_of_ble_eq_true rfl, Nat.le_of_ble_eq_true rfl⟩ (Nat.le_of_ble_eq_true rfl) dX12_readAtom_71 rfl (by cases fa3; rfl) rfl ?_
  refine go_iconst (z := 1) (n := 75) ⟨by decide, by decide⟩ dX12_readAtom_74 rfl ?_
  cases E
  exact go_zreturn rfl (Or.inr rfl) dX12_readAtom_75
noncomputable def X12_readAtom_L55 (F : Nat)   (l0 : Nat)  (h : HP) : Option (Int × HP) :=
  (xrc h (some l0) 12 31).bind fun a3 =>
  xb (X12_isWord F a3 (some 1000009) h) fun v1 h2 =>
  X12_readAtom_L70 F (if v1 = 0 then 4 else 3) (some l0) h2
set_option maxRecDepth 100000 in
theorem SX12_readAtom_L55 {K : Ctx} {F : Nat} {r : Int} {hf : HP}     (l0 : Nat)  (h : HP) (E : X12_readAtom_L55 F   l0 h = some (r, hf)) : Go K MX12_readAtom (QM K (some (vi r)) hf) hf 55 [(0, vr (some l0))] [] h := by
  unfold X12_readAtom_L55 at E
  refine go_aload_n (j := 0) (n := 56) rfl rfl dX12_readAtom_55 rfl ?_
  refine go_aload_n (j := 0) (n := 57) rfl rfl dX12_readAtom_56 rfl ?_
  refine go_ldcS (j := 9) (n := 59) rfl rfl dX12_readAtom_57 rfl ?_
  replace E := Option.bind_eq_some_iff.mp E; obtain ⟨a3, ea3, E⟩ := E
  obtain ⟨fa3, ga3⟩ := xrc_some ea3
  replace E := xb_some E; obtain ⟨v1, h2, ev1, E⟩ := E
  refine go_callV (y := yX12_isWord) (n := 62) (st := [vr (some l0)]) (as := [vr (some 1000009)]) (stk9 := [vi v1, vr (some l0)]) (OX12_isWord ev1) yw_X12_isWord ci_12 ga3 wml_RX12_137 wim_X12_isWord wse_X12_isWord (Nat.le_of_ble_eq_true rfl) rfl ⟨Nat.le_of_ble_eq_true rfl, Nat.le_of_ble_eq_true rfl⟩ (Nat.le_of_ble_eq_true rfl) dX12_readAtom_59 rfl (by cases fa3; rfl) rfl ?_
  refine go_if_eq (tgt := 69) (n := 65) dX12_readAtom_62 rfl rfl (fun c4 => ?_) (fun c4 => ?_)
  · simp only [if_pos c4] at E
    refine go_iconst (z := 4) (n := 70) ⟨by decide, by decide⟩ dX12_readAtom_69 rfl ?_
    refine go_pick (lv' := []) [] rfl ?_
    exact SX12_readAtom_L70      _ _ _ E
  · simp only [if_neg c4] at E
    refine go_iconst (z := 3) (n := 66) ⟨by decide, by decide⟩ dX12_readAtom_65 rfl ?_
    refine go_goto (tgt := 70) dX12_readAtom_66 rfl ?_
    refine go_pick (lv' := []) [] rfl ?_
    exact SX12_readAtom_L70      _ _ _ E
noncomputable def X12_readAtom_L131 (F : Nat)   (l2 : Int) (s0 : Int) (s1 : Option Nat) (h : HP) : Option (Int × HP) :=
  (xrc h s1 12 31).bind fun a3 =>
  xb (X12_emits F a3 s0 l2 h) fun v1 h2 =>
  some (1, h2)
set_option maxRecDepth 100000 in
theorem SX12_readAtom_L131 {K : Ctx} {F : Nat} {r : Int} {hf : HP}     (l2 : Int) (s0 : Int) (s1 : Option Nat) (h : HP) (E : X12_readAtom_L131 F   l2 s0 s1 h = some (r, hf)) : Go K MX12_readAtom (QM K (some (vi r)) hf) hf 131 [(2, vi l2)] [vi s0, vr s1] h := by
  unfold X12_readAtom_L131 at E
  refine go_iload_n (j := 0) (n := 132) rfl rfl dX12_readAtom_131 rfl ?_
  replace E := Option.bind_eq_some_iff.mp E; obtain ⟨a3, ea3, E⟩ := E
  obtain ⟨fa3, ga3⟩ := xrc_some ea3
  replace E := xb_some E; obtain ⟨v1, h2, ev1, E⟩ := E
  refine go_callV (y := yX12_emits) (n := 135) (st := []) (as := [vi s0, vi l2]) (stk9 := []) (OX12_emits ev1) yw_X12_emits ci_12 ga3 wml_RX12_158 wim_X12_emits wse_X12_emits (Nat.le_of_ble_eq_true rfl) rfl ⟨Nat.le_of_ble_eq_true rfl, Nat.le_of_ble_eq_true rfl⟩ (Nat.le_of_ble_eq_true rfl) dX12_readAtom_132 rfl (by cases fa3; rfl) rfl ?_
  refine go_iconst (z := 1) (n := 136) ⟨by decide, by decide⟩ dX12_readAtom_135 rfl ?_
  cases E
  exact go_zreturn rfl (Or.inr rfl) dX12_readAtom_136
noncomputable def X12_readAtom_L121 (F : Nat)   (l0 : Nat) (l1 : Int) (l2 : Int)  (h : HP) : Option (Int × HP) :=
  X12_readAtom_L131 F l2 (if l1 = 0 then 1 else 2) (some l0) h
set_option maxRecDepth 100000 in
theorem SX12_readAtom_L121 {K : Ctx} {F : Nat} {r : Int} {hf : HP}     (l0 : Nat) (l1 : Int) (l2 : Int)  (h : HP) (E : X12_readAtom_L121 F   l0 l1 l2 h = some (r, hf)) : Go K MX12_readAtom (QM K (some (vi r)) hf) hf 121 [(0, vr (some l0)), (1, vi l1), (2, vi l2)] [] h := by
  unfold X12_readAtom_L121 at E
  refine go_aload_n (j := 0) (n := 122) rfl rfl dX12_readAtom_121 rfl ?_
  refine go_iload_n (j := 1) (n := 123) rfl rfl dX12_readAtom_122 rfl ?_
  refine go_if_eq (tgt := 130) (n := 126) dX12_readAtom_123 rfl rfl (fun c1 => ?_) (fun c1 => ?_)
  · simp only [if_pos c1] at E
    refine go_iconst (z := 1) (n := 131) ⟨by decide, by decide⟩ dX12_readAtom_130 rfl ?_
    refine go_pick (lv' := [(2, vi l2)]) [2] rfl ?_
    exact SX12_readAtom_L131     _ _ _ _ E
  · simp only [if_neg c1] at E
    refine go_iconst (z := 2) (n := 127) ⟨by decide, by decide⟩ dX12_readAtom_126 rfl ?_
    refine go_goto (tgt := 131) dX12_readAtom_127 rfl ?_
    refine go_pick (lv' := [(2, vi l2)]) [2] rfl ?_
    exact SX12_readAtom_L131     _ _ _ _ E
noncomputable def X12_readAtom_L98 (F : Nat)   (l0 : Nat) (l1 : Int)  (h : HP) : Option (Int × HP) :=
  (xrc h (some l0) 12 31).bind fun a3 =>
  xb (X12_number F a3 0 63 h) fun v1 h2 =>
  if 0 ≤ v1 then
    if l1 = 0 then
      (xrc h2 (some l0) 12 31).bind fun a8 =>
      xb (X12_isRead F a8 v1 h2) fun v6 h7 =>
      X12_readAtom_L121 F l0 l1 v1 h7
    else
      X12_readAtom_L121 F l0 l1 v1 h2
  else
    some (0, h2)
set_option maxRecDepth 100000 in
theorem SX12_readAtom_L98 {K : Ctx} {F : Nat} {r : Int} {hf : HP}     (l0 : Nat) (l1 : Int)  (h : HP) (E : X12_readAtom_L98 F   l0 l1 h = some (r, hf)) : Go K MX12_readAtom (QM K (some (vi r)) hf) hf 98 [(0, vr (some l0)), (1, vi l1)] [] h := by
  unfold X12_readAtom_L98 at E
  refine go_aload_n (j := 0) (n := 99) rfl rfl dX12_readAtom_98 rfl ?_
  refine go_iconst (z := 0) (n := 100) ⟨by decide, by decide⟩ dX12_readAtom_99 rfl ?_
  refine go_bipush (z := 63) (n := 102) ⟨by decide, by decide⟩ dX12_readAtom_100 rfl ?_
  replace E := Option.bind_eq_some_iff.mp E; obtain ⟨a3, ea3, E⟩ := E
  obtain ⟨fa3, ga3⟩ := xrc_some ea3
  replace E := xb_some E; obtain ⟨v1, h2, ev1, E⟩ := E
  refine go_callV (y := yX12_number) (n := 105) (st := []) (as := [vi 0, vi 63]) (stk9 := [vi v1]) (OX12_number ev1) yw_X12_number ci_12 ga3 wml_RX12_155 wim_X12_number wse_X12_number (Nat.le_of_ble_eq_true rfl) rfl ⟨Nat.le_of_ble_eq_true rfl, Nat.le_of_ble_eq_true rfl⟩ (Nat.le_of_ble_eq_true rfl) dX12_readAtom_102 rfl (by cases fa3; rfl) rfl ?_
  refine go_istore_n (n := 106) (lv' := [(2, vi v1), (0, vr (some l0)), (1, vi l1)]) rfl dX12_readAtom_105 rfl (Nat.le_of_ble_eq_true rfl) rfl ?_
  refine go_iload_n (j := 0) (n := 107) rfl rfl dX12_readAtom_106 rfl ?_
  refine go_if_ge (tgt := 112) (n := 110) dX12_readAtom_107 rfl rfl (fun c4 => ?_) (fun c4 => ?_)
  · rw [if_pos c4] at E
    refine go_iload_n (j := 2) (n := 113) rfl rfl dX12_readAtom_112 rfl ?_
    refine go_if_ne (tgt := 121) (n := 116) dX12_readAtom_113 rfl rfl (fun c5 => ?_) (fun c5 => ?_)
    · rw [if_neg c5] at E
      refine go_pick (lv' := [(0, vr (some l0)), (1, vi l1), (2, vi v1)]) [1, 2, 0] rfl ?_
      exact SX12_readAtom_L121     _ _ _  _ E
    · rw [if_pos c5] at E
      refine go_aload_n (j := 1) (n := 117) rfl rfl dX12_readAtom_116 rfl ?_
      refine go_iload_n (j := 0) (n := 118) rfl rfl dX12_readAtom_117 rfl ?_
      replace E := Option.bind_eq_some_iff.mp E; obtain ⟨a8, ea8, E⟩ := E
      obtain ⟨fa8, ga8⟩ := xrc_some ea8
      replace E := xb_some E; obtain ⟨v6, h7, ev6, E⟩ := E
      refine go_callV (y := yX12_isRead) (n := 121) (st := []) (as := [vi v1]) (stk9 := []) (OX12_isRead ev6) yw_X12_isRead ci_12 ga8 wml_RX12_170 wim_X12_isRead wse_X12_isRead (Nat.le_of_ble_eq_true rfl) rfl ⟨Nat.le_of_ble_eq_true rfl, Nat.le_of_ble_eq_true rfl⟩ (Nat.le_of_ble_eq_true rfl) dX12_readAtom_118 rfl (by cases fa8; rfl) rfl ?_
      refine go_pick (lv' := [(0, vr (some l0)), (1, vi l1), (2, vi v1)]) [1, 2, 0] rfl ?_
      exact SX12_readAtom_L121     _ _ _  _ E
  · rw [if_neg c4] at E
    refine go_iconst (z := 0) (n := 111) ⟨by decide, by decide⟩ dX12_readAtom_110 rfl ?_
    cases E
    exact go_zreturn rfl (Or.inl rfl) dX12_readAtom_111
noncomputable def X12_readAtom (F : Nat)   (l0 : Nat)  (h : HP) : Option (Int × HP) :=
  (xrc h (some l0) 12 31).bind fun a3 =>
  xb (X12_letters F a3 h) fun v1 h2 =>
  (xgI h2 (some l0) 12 31 6).bind fun v4 =>
  (xgI h2 (some l0) 12 31 8).bind fun v5 =>
  if v4 = v5 then
    (xrc h2 (some l0) 12 31).bind fun a25 =>
    xb (X12_number F a25 0 999999 h2) fun v23 h24 =>
    if 0 ≤ v23 then
      (xrc h24 (some l0) 12 31).bind fun a29 =>
      xb (X12_emits F a29 0 v23 h24) fun v27 h28 =>
      some (1, h28)
    else
      some (0, h24)
  else
    (xrc h2 (some l0) 12 31).bind fun a9 =>
    xb (X12_isWord F a9 (some 1000009) h2) fun v7 h8 =>
    if v7 = 0 then
      (xrc h8 (some l0) 12 31).bind fun a13 =>
      xb (X12_isWord F a13 (some 1000010) h8) fun v11 h12 =>
      if v11 = 0 then
        (xrc h12 (some l0) 12 31).bind fun a17 =>
        xb (X12_isWord F a17 (some 1000011) h12) fun v15 h16 =>
        if v15 = 0 then
          (xrc h16 (some l0) 12 31).bind fun a21 =>
          xb (X12_isWord F a21 (some 1000012) h16) fun v19 h20 =>
          if v19 = 0 then
            some (0, h20)
          else
            X12_readAtom_L98 F l0 v15 h20
        else
          X12_readAtom_L98 F l0 v15 h16
      else
        X12_readAtom_L55 F l0 h12
    else
      X12_readAtom_L55 F l0 h8
set_option maxRecDepth 100000 in
theorem SX12_readAtom {K : Ctx} {F : Nat} {r : Int} {hf : HP}     (l0 : Nat)  (h : HP) (E : X12_readAtom F   l0 h = some (r, hf)) : Go K MX12_readAtom (QM K (some (vi r)) hf) hf 0 [(0, vr (some l0))] [] h := by
  unfold X12_readAtom at E
  refine go_aload_n (j := 0) (n := 1) rfl rfl dX12_readAtom_0 rfl ?_
  replace E := Option.bind_eq_some_iff.mp E; obtain ⟨a3, ea3, E⟩ := E
  obtain ⟨fa3, ga3⟩ := xrc_some ea3
  replace E := xb_some E; obtain ⟨v1, h2, ev1, E⟩ := E
  refine go_callV (y := yX12_letters) (n := 4) (st := []) (as := []) (stk9 := []) (OX12_letters ev1) yw_X12_letters ci_12 ga3 wml_RX12_134 wim_X12_letters wse_X12_letters (Nat.le_of_ble_eq_true rfl) rfl ⟨Nat.le_of_ble_eq_true rfl, Nat.le_of_ble_eq_true rfl⟩ (Nat.le_of_ble_eq_true rfl) dX12_readAtom_1 rfl (by cases fa3; rfl) rfl ?_
  refine go_aload_n (j := 0) (n := 5) rfl rfl dX12_readAtom_4 rfl ?_
  replace E := Option.bind_eq_some_iff.mp E; obtain ⟨v4, ev4, E⟩ := E
  refine go_getI (n := 8) ev4 fl_RX12_109 rfl dX12_readAtom_5 rfl ?_
  refine go_aload_n (j := 0) (n := 9) rfl rfl dX12_readAtom_8 rfl ?_
  replace E := Option.bind_eq_some_iff.mp E; obtain ⟨v5, ev5, E⟩ := E
  refine go_getI (n := 12) ev5 fl_RX12_119 rfl dX12_readAtom_9 rfl ?_
  refine go_icmp_ne (tgt := 37) (n := 15) dX12_readAtom_12 rfl rfl (fun c6 => ?_) (fun c6 => ?_)
  · rw [if_neg c6] at E
    refine go_aload_n (j := 0) (n := 38) rfl rfl dX12_readAtom_37 rfl ?_
    refine go_ldcS (j := 9) (n := 40) rfl rfl dX12_readAtom_38 rfl ?_
    replace E := Option.bind_eq_some_iff.mp E; obtain ⟨a9, ea9, E⟩ := E
    obtain ⟨fa9, ga9⟩ := xrc_some ea9
    replace E := xb_some E; obtain ⟨v7, h8, ev7, E⟩ := E
    refine go_callV (y := yX12_isWord) (n := 43) (st := []) (as := [vr (some 1000009)]) (stk9 := [vi v7]) (OX12_isWord ev7) yw_X12_isWord ci_12 ga9 wml_RX12_137 wim_X12_isWord wse_X12_isWord (Nat.le_of_ble_eq_true rfl) rfl ⟨Nat.le_of_ble_eq_true rfl, Nat.le_of_ble_eq_true rfl⟩ (Nat.le_of_ble_eq_true rfl) dX12_readAtom_40 rfl (by cases fa9; rfl) rfl ?_
    refine go_if_ne (tgt := 55) (n := 46) dX12_readAtom_43 rfl rfl (fun c10 => ?_) (fun c10 => ?_)
    · rw [if_neg c10] at E
      exact SX12_readAtom_L55     _  _ E
    · rw [if_pos c10] at E
      refine go_aload_n (j := 0) (n := 47) rfl rfl dX12_readAtom_46 rfl ?_
      refine go_ldcS (j := 10) (n := 49) rfl rfl dX12_readAtom_47 rfl ?_
      replace E := Option.bind_eq_some_iff.mp E; obtain ⟨a13, ea13, E⟩ := E
      obtain ⟨fa13, ga13⟩ := xrc_some ea13
      replace E := xb_some E; obtain ⟨v11, h12, ev11, E⟩ := E
      refine go_callV (y := yX12_isWord) (n := 52) (st := []) (as := [vr (some 1000010)]) (stk9 := [vi v11]) (OX12_isWord ev11) yw_X12_isWord ci_12 ga13 wml_RX12_137 wim_X12_isWord wse_X12_isWord (Nat.le_of_ble_eq_true rfl) rfl ⟨Nat.le_of_ble_eq_true rfl, Nat.le_of_ble_eq_true rfl⟩ (Nat.le_of_ble_eq_true rfl) dX12_readAtom_49 rfl (by cases fa13; rfl) rfl ?_
      refine go_if_eq (tgt := 76) (n := 55) dX12_readAtom_52 rfl rfl (fun c14 => ?_) (fun c14 => ?_)
      · rw [if_pos c14] at E
        refine go_aload_n (j := 0) (n := 77) rfl rfl dX12_readAtom_76 rfl ?_
        refine go_ldcS (j := 11) (n := 79) rfl rfl dX12_readAtom_77 rfl ?_
        replace E := Option.bind_eq_some_iff.mp E; obtain ⟨a17, ea17, E⟩ := E
        obtain ⟨fa17, ga17⟩ := xrc_some ea17
        replace E := xb_some E; obtain ⟨v15, h16, ev15, E⟩ := E
        refine go_callV (y := yX12_isWord) (n := 82) (st := []) (as := [vr (some 1000011)]) (stk9 := [vi v15]) (OX12_isWord ev15) yw_X12_isWord ci_12 ga17 wml_RX12_137 wim_X12_isWord wse_X12_isWord (Nat.le_of_ble_eq_true rfl) rfl ⟨Nat.le_of_ble_eq_true rfl, Nat.le_of_ble_eq_true rfl⟩ (Nat.le_of_ble_eq_true rfl) dX12_readAtom_79 rfl (by cases fa17; rfl) rfl ?_
        refine go_istore_n (n := 83) (lv' := [(1, vi v15), (0, vr (some l0))]) rfl dX12_readAtom_82 rfl (Nat.le_of_ble_eq_true rfl) rfl ?_
        refine go_iload_n (j := 0) (n := 84) rfl rfl dX12_readAtom_83 rfl ?_
        refine go_if_ne (tgt := 98) (n := 87) dX12_readAtom_84 rfl rfl (fun c18 => ?_) (fun c18 => ?_)
        · rw [if_neg c18] at E
          refine go_pick (lv' := [(0, vr (some l0)), (1, vi v15)]) [1, 0] rfl ?_
          exact SX12_readAtom_L98     _ _  _ E
        · rw [if_pos c18] at E
          refine go_aload_n (j := 1) (n := 88) rfl rfl dX12_readAtom_87 rfl ?_
          refine go_ldcS (j := 12) (n := 90) rfl rfl dX12_readAtom_88 rfl ?_
          replace E := Option.bind_eq_some_iff.mp E; obtain ⟨a21, ea21, E⟩ := E
          obtain ⟨fa21, ga21⟩ := xrc_some ea21
          replace E := xb_some E; obtain ⟨v19, h20, ev19, E⟩ := E
          refine go_callV (y := yX12_isWord) (n := 93) (st := []) (as := [vr (some 1000012)]) (stk9 := [vi v19]) (OX12_isWord ev19) yw_X12_isWord ci_12 ga21 wml_RX12_137 wim_X12_isWord wse_X12_isWord (Nat.le_of_ble_eq_true rfl) rfl ⟨Nat.le_of_ble_eq_true rfl, Nat.le_of_ble_eq_true rfl⟩ (Nat.le_of_ble_eq_true rfl) dX12_readAtom_90 rfl (by cases fa21; rfl) rfl ?_
          refine go_if_ne (tgt := 98) (n := 96) dX12_readAtom_93 rfl rfl (fun c22 => ?_) (fun c22 => ?_)
          · rw [if_neg c22] at E
            refine go_pick (lv' := [(0, vr (some l0)), (1, vi v15)]) [1, 0] rfl ?_
            exact SX12_readAtom_L98     _ _  _ E
          · rw [if_pos c22] at E
            refine go_iconst (z := 0) (n := 97) ⟨by decide, by decide⟩ dX12_readAtom_96 rfl ?_
            cases E
            exact go_zreturn rfl (Or.inl rfl) dX12_readAtom_97
      · rw [if_neg c14] at E
        exact SX12_readAtom_L55     _  _ E
  · rw [if_pos c6] at E
    refine go_aload_n (j := 0) (n := 16) rfl rfl dX12_readAtom_15 rfl ?_
    refine go_iconst (z := 0) (n := 17) ⟨by decide, by decide⟩ dX12_readAtom_16 rfl ?_
    refine go_ldc (z := 999999) (n := 19) ⟨by decide, by decide⟩ wk_RX12_154 dX12_readAtom_17 rfl ?_
    replace E := Option.bind_eq_some_iff.mp E; obtain ⟨a25, ea25, E⟩ := E
    obtain ⟨fa25, ga25⟩ := xrc_some ea25
    replace E := xb_some E; obtain ⟨v23, h24, ev23, E⟩ := E
    refine go_callV (y := yX12_number) (n := 22) (st := []) (as := [vi 0, vi 999999]) (stk9 := [vi v23]) (OX12_number ev23) yw_X12_number ci_12 ga25 wml_RX12_155 wim_X12_number wse_X12_number (Nat.le_of_ble_eq_true rfl) rfl ⟨Nat.le_of_ble_eq_true rfl, Nat.le_of_ble_eq_true rfl⟩ (Nat.le_of_ble_eq_true rfl) dX12_readAtom_19 rfl (by cases fa25; rfl) rfl ?_
    refine go_istore_n (n := 23) (lv' := [(1, vi v23), (0, vr (some l0))]) rfl dX12_readAtom_22 rfl (Nat.le_of_ble_eq_true rfl) rfl ?_
    refine go_iload_n (j := 0) (n := 24) rfl rfl dX12_readAtom_23 rfl ?_
    refine go_if_ge (tgt := 29) (n := 27) dX12_readAtom_24 rfl rfl (fun c26 => ?_) (fun c26 => ?_)
    · rw [if_pos c26] at E
      refine go_aload_n (j := 1) (n := 30) rfl rfl dX12_readAtom_29 rfl ?_
      refine go_iconst (z := 0) (n := 31) ⟨by decide, by decide⟩ dX12_readAtom_30 rfl ?_
      refine go_iload_n (j := 0) (n := 32) rfl rfl dX12_readAtom_31 rfl ?_
      replace E := Option.bind_eq_some_iff.mp E; obtain ⟨a29, ea29, E⟩ := E
      obtain ⟨fa29, ga29⟩ := xrc_some ea29
      replace E := xb_some E; obtain ⟨v27, h28, ev27, E⟩ := E
      refine go_callV (y := yX12_emits) (n := 35) (st := []) (as := [vi 0, vi v23]) (stk9 := []) (OX12_emits ev27) yw_X12_emits ci_12 ga29 wml_RX12_158 wim_X12_emits wse_X12_emits (Nat.le_of_ble_eq_true rfl) rfl ⟨Nat.le_of_ble_eq_true rfl, Nat.le_of_ble_eq_true rfl⟩ (Nat.le_of_ble_eq_true rfl) dX12_readAtom_32 rfl (by cases fa29; rfl) rfl ?_
      refine go_iconst (z := 1) (n := 36) ⟨by decide, by decide⟩ dX12_readAtom_35 rfl ?_
      cases E
      exact go_zreturn rfl (Or.inr rfl) dX12_readAtom_36
    · rw [if_neg c26] at E
      refine go_iconst (z := 0) (n := 28) ⟨by decide, by decide⟩ dX12_readAtom_27 rfl ?_
      cases E
      exact go_zreturn rfl (Or.inl rfl) dX12_readAtom_28
theorem OX12_readAtom {F : Nat} {l0 : Nat} {h hf : HP} {r : Int} (e : X12_readAtom F l0 h = some (r, hf)) : Ok MX12_readAtom [vr (some l0)] (some (vi r)) h hf := fun K _ _ _ => SX12_readAtom l0 h e
