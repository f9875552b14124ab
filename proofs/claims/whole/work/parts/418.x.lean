/-! the methods, decompiled: written by dec.py -/
abbrev MX12_rowAt : MI := (RX12, cX12_rowAt, 3, (some .int), 3, none, "rowAt")
noncomputable def X12_rowAt (F : Nat)   (l0 : Nat) (l1 : Int)  (h : HP) : Option (Int × HP) :=
  (xrc h (some l0) 12 31).bind fun a3 =>
  xb (X12_writings F a3 h) fun v1 h2 =>
  xb (X12_in F l1 0 (w32 ((min 8 v1) - 1)) h2) fun v4 h5 =>
  if v4 = 0 then
    some ((-1), h5)
  else
    (xrc h5 (some l0) 12 31).bind fun a9 =>
    xb (X12_writings F a9 h5) fun v7 h8 =>
    some (w32 ((w32 (v7 - (min 8 v1))) + l1), h8)
set_option maxRecDepth 100000 in
theorem SX12_rowAt {K : Ctx} {F : Nat} {r : Int} {hf : HP}     (l0 : Nat) (l1 : Int)  (h : HP) (E : X12_rowAt F   l0 l1 h = some (r, hf)) : Go K MX12_rowAt (QM K (some (vi r)) hf) hf 0 [(0, vr (some l0)), (1, vi l1)] [] h := by
  unfold X12_rowAt at E
  refine go_bipush (z := 8) (n := 2) ⟨by decide, by decide⟩ dX12_rowAt_0 rfl ?_
  refine go_aload_n (j := 0) (n := 3) rfl rfl dX12_rowAt_2 rfl ?_
  replace E := Option.bind_eq_some_iff.mp E; obtain ⟨a3, ea3, E⟩ := E
  obtain ⟨fa3, ga3⟩ := xrc_some ea3
  replace E := xb_some E; obtain ⟨v1, h2, ev1, E⟩ := E
  refine go_callV (y := yX12_writings) (n := 6) (st := [vi 8]) (as := []) (stk9 := [vi v1, vi 8]) (OX12_writings ev1) yw_X12_writings ci_12 ga3 wml_RX12_79 wim_X12_writings wse_X12_writings (Nat.le_of_ble_eq_true rfl) rfl ⟨Nat.le_of_ble_eq_true rfl, Nat.le_of_ble_eq_true rfl⟩ (Nat.le_of_ble_eq_true rfl) dX12_rowAt_3 rfl (by cases fa3; rfl) rfl ?_
  refine go_mmin (n := 9) wml_RX12_342 jm_min_i (Nat.le_of_ble_eq_true rfl) (Nat.le_of_ble_eq_true rfl) dX12_rowAt_6 rfl ?_
  refine go_istore_n (n := 10) (lv' := [(2, vi (min 8 v1)), (0, vr (some l0)), (1, vi l1)]) rfl dX12_rowAt_9 rfl (Nat.le_of_ble_eq_true rfl) rfl ?_
  refine go_iload_n (j := 2) (n := 11) rfl rfl dX12_rowAt_10 rfl ?_
  refine go_iconst (z := 0) (n := 12) ⟨by decide, by decide⟩ dX12_rowAt_11 rfl ?_
  refine go_iload_n (j := 0) (n := 13) rfl rfl dX12_rowAt_12 rfl ?_
  refine go_iconst (z := 1) (n := 14) ⟨by decide, by decide⟩ dX12_rowAt_13 rfl ?_
  refine go_isub (n := 15) dX12_rowAt_14 rfl ?_
  replace E := xb_some E; obtain ⟨v4, h5, ev4, E⟩ := E
  refine go_callS (y := yX12_in) (n := 18) (st := []) (as := [vi l1, vi 0, vi (w32 ((min 8 v1) - 1))]) (stk9 := [vi v4]) (OX12_in ev4) yw_X12_in wml_RX12_61 wst_X12_in (Nat.le_of_ble_eq_true rfl) rfl ⟨Nat.le_of_ble_eq_true rfl, Nat.le_of_ble_eq_true rfl⟩ (Nat.le_of_ble_eq_true rfl) dX12_rowAt_15 rfl rfl rfl ?_
  refine go_if_eq (tgt := 32) (n := 21) dX12_rowAt_18 rfl rfl (fun c6 => ?_) (fun c6 => ?_)
  · rw [if_pos c6] at E
    refine go_iconst (z := (-1)) (n := 33) ⟨by decide, by decide⟩ dX12_rowAt_32 rfl ?_
    cases E
    exact go_ireturn rfl dX12_rowAt_33
  · rw [if_neg c6] at E
    refine go_aload_n (j := 1) (n := 22) rfl rfl dX12_rowAt_21 rfl ?_
    replace E := Option.bind_eq_some_iff.mp E; obtain ⟨a9, ea9, E⟩ := E
    obtain ⟨fa9, ga9⟩ := xrc_some ea9
    replace E := xb_some E; obtain ⟨v7, h8, ev7, E⟩ := E
    refine go_callV (y := yX12_writings) (n := 25) (st := []) (as := []) (stk9 := [vi v7]) (OX12_writings ev7) yw_X12_writings ci_12 ga9 wml_RX12_79 wim_X12_writings wse_X12_writings (Nat.le_of_ble_eq_true rfl) rfl ⟨Nat.le_of_ble_eq_true rfl, Nat.le_of_ble_eq_true rfl⟩ (Nat.le_of_ble_eq_true rfl) dX12_rowAt_22 rfl (by cases fa9; rfl) rfl ?_
    refine go_iload_n (j := 0) (n := 26) rfl rfl dX12_rowAt_25 rfl ?_
    refine go_isub (n := 27) dX12_rowAt_26 rfl ?_
    refine go_iload_n (j := 2) (n := 28) rfl rfl dX12_rowAt_27 rfl ?_
    refine go_iadd (n := 29) dX12_rowAt_28 rfl ?_
    refine go_goto (tgt := 33) dX12_rowAt_29 rfl ?_
    cases E
    exact go_ireturn rfl dX12_rowAt_33
theorem OX12_rowAt {F : Nat} {l0 : Nat} {l1 : Int} {h hf : HP} {r : Int} (e : X12_rowAt F l0 l1 h = some (r, hf)) : Ok MX12_rowAt [vr (some l0), vi l1] (some (vi r)) h hf := fun K _ _ _ => SX12_rowAt l0 l1 h e
theorem yw_X12_rowAt : YW yX12_rowAt cX12_rowAt 3 (some .int) 1 := ⟨bw_of 2314 (by decide +kernel) rfl, bw_of 129 (by decide +kernel) rfl, ⟨by decide +kernel, by decide +kernel, by decide +kernel⟩, by decide +kernel⟩
theorem wml_RX12_401 : Cond.methodLink RX12 401 yX12_rowAt ∈ BW := bw_of 2311 (by decide +kernel) rfl
theorem wim_X12_rowAt : Cond.instanceMethod yX12_rowAt ∈ BW := bw_of 2313 (by decide +kernel) rfl
theorem wse_X12_rowAt : Cond.selects RX12 yX12_rowAt yX12_rowAt ∈ BW := bw_of 114 (by decide +kernel) rfl
abbrev MX12_tear : MI := (RX12, cX12_tear, 4, (some .int), 4, none, "tear")
noncomputable def X12_tear_L21 (F : Nat)   (l0 : Nat) (l2 : Int) (l3 : Int) (s0 : Int) (s1 : Option Nat) (h : HP) : Option (Int × HP) :=
  (xrc h s1 12 31).bind fun a3 =>
  xb (X12_throwsIf F a3 s0 1 h) fun v1 h2 =>
  if v1 = 0 then
    (xgP h2 (some l0) 12 31 1).bind fun v5 =>
    (xrc h2 (some l0) 12 31).bind fun a8 =>
    xb (X12_writingAt F a8 l3 2 h2) fun v6 h7 =>
    (xaI h7 v5 100 v6).bind fun v9 =>
    (xsI h7 v5 v6 (xxor v9 l2)).bind fun h10 =>
    (xrc h10 (some l0) 12 31).bind fun a13 =>
    xb (X12_of F a13 l3 2 h10) fun v11 h12 =>
    some (v11, h12)
  else
    some (0, h2)
set_option maxRecDepth 100000 in
theorem SX12_tear_L21 {K : Ctx} {F : Nat} {r : Int} {hf : HP}     (l0 : Nat) (l2 : Int) (l3 : Int) (s0 : Int) (s1 : Option Nat) (h : HP) (E : X12_tear_L21 F   l0 l2 l3 s0 s1 h = some (r, hf)) : Go K MX12_tear (QM K (some (vi r)) hf) hf 21 [(0, vr (some l0)), (2, vi l2), (3, vi l3)] [vi s0, vr s1] h := by
  unfold X12_tear_L21 at E
  refine go_iconst (z := 1) (n := 22) ⟨by decide, by decide⟩ dX12_tear_21 rfl ?_
  replace E := Option.bind_eq_some_iff.mp E; obtain ⟨a3, ea3, E⟩ := E
  obtain ⟨fa3, ga3⟩ := xrc_some ea3
  replace E := xb_some E; obtain ⟨v1, h2, ev1, E⟩ := E
  refine go_callV (y := yX12_throwsIf) (n := 25) (st := []) (as := [vi s0, vi 1]) (stk9 := [vi v1]) (OX12_throwsIf ev1) yw_X12_throwsIf ci_12 ga3 wml_RX12_65 wim_X12_throwsIf wse_X12_throwsIf (Nat.le_of_ble_eq_true rfl) rfl ⟨Nat.le_of_ble_eq_true rfl, Nat.le_of_ble_eq_true rfl⟩ (Nat.le_of_ble_eq_true rfl) dX12_tear_22 rfl (by cases fa3; rfl) rfl ?_
  refine go_if_eq (tgt := 30) (n := 28) dX12_tear_25 rfl rfl (fun c4 => ?_) (fun c4 => ?_)
  · rw [if_pos c4] at E
    refine go_aload_n (j := 0) (n := 31) rfl rfl dX12_tear_30 rfl ?_
    replace E := Option.bind_eq_some_iff.mp E; obtain ⟨v5, ev5, E⟩ := E
    refine go_getP (n := 34) ev5 fl_RX12_14 rfl dX12_tear_31 rfl ?_
    refine go_aload_n (j := 0) (n := 35) rfl rfl dX12_tear_34 rfl ?_
    refine go_iload_n (j := 2) (n := 36) rfl rfl dX12_tear_35 rfl ?_
    refine go_iconst (z := 2) (n := 37) ⟨by decide, by decide⟩ dX12_tear_36 rfl ?_
    replace E := Option.bind_eq_some_iff.mp E; obtain ⟨a8, ea8, E⟩ := E
    obtain ⟨fa8, ga8⟩ := xrc_some ea8
    replace E := xb_some E; obtain ⟨v6, h7, ev6, E⟩ := E
    refine go_callV (y := yX12_writingAt) (n := 40) (st := [vr v5]) (as := [vi l3, vi 2]) (stk9 := [vi v6, vr v5]) (OX12_writingAt ev6) yw_X12_writingAt ci_12 ga8 wml_RX12_75 wim_X12_writingAt wse_X12_writingAt (Nat.le_of_ble_eq_true rfl) rfl ⟨Nat.le_of_ble_eq_true rfl, Nat.le_of_ble_eq_true rfl⟩ (Nat.le_of_ble_eq_true rfl) dX12_tear_37 rfl (by cases fa8; rfl) rfl ?_
    refine go_dup2 (n := 41) rfl rfl dX12_tear_40 rfl ?_
    replace E := Option.bind_eq_some_iff.mp E; obtain ⟨v9, ev9, E⟩ := E
    refine go_iaload (n := 42) ev9 dX12_tear_41 rfl ?_
    refine go_iload_n (j := 1) (n := 43) rfl rfl dX12_tear_42 rfl ?_
    refine go_ixor (n := 44) dX12_tear_43 rfl ?_
    replace E := Option.bind_eq_some_iff.mp E; obtain ⟨h10, eh10, E⟩ := E
    refine go_iastore (n := 45) eh10 dX12_tear_44 rfl ?_
    refine go_aload_n (j := 0) (n := 46) rfl rfl dX12_tear_45 rfl ?_
    refine go_iload_n (j := 2) (n := 47) rfl rfl dX12_tear_46 rfl ?_
    refine go_iconst (z := 2) (n := 48) ⟨by decide, by decide⟩ dX12_tear_47 rfl ?_
    replace E := Option.bind_eq_some_iff.mp E; obtain ⟨a13, ea13, E⟩ := E
    obtain ⟨fa13, ga13⟩ := xrc_some ea13
    replace E := xb_some E; obtain ⟨v11, h12, ev11, E⟩ := E
    refine go_callV (y := yX12_of) (n := 51) (st := []) (as := [vi l3, vi 2]) (stk9 := [vi v11]) (OX12_of ev11) yw_X12_of ci_12 ga13 wml_RX12_100 wim_X12_of wse_X12_of (Nat.le_of_ble_eq_true rfl) rfl ⟨Nat.le_of_ble_eq_true rfl, Nat.le_of_ble_eq_true rfl⟩ (Nat.le_of_ble_eq_true rfl) dX12_tear_48 rfl (by cases fa13; rfl) rfl ?_
    cases E
    exact go_ireturn rfl dX12_tear_51
  · rw [if_neg c4] at E
    refine go_iconst (z := 0) (n := 29) ⟨by decide, by decide⟩ dX12_tear_28 rfl ?_
    cases E
    exact go_ireturn rfl dX12_tear_29
noncomputable def X12_tear (F : Nat)   (l0 : Nat) (l1 : Int) (l2 : Int)  (h : HP) : Option (Int × HP) :=
  (xpI h (some l0) 12 31 0 0).bind fun h1 =>
  (xrc h1 (some l0) 12 31).bind fun a4 =>
  xb (X12_rowAt F a4 l1 h1) fun v2 h3 =>
  X12_tear_L21 F l0 l2 v2 (if 0 ≤ v2 then 0 else 1) (some l0) h3
set_option maxRecDepth 100000 in
theorem SX12_tear {K : Ctx} {F : Nat} {r : Int} {hf : HP}     (l0 : Nat) (l1 : Int) (l2 : Int)  (h : HP) (E : X12_tear F   l0 l1 l2 h = some (r, hf)) : Go K MX12_tear (QM K (some (vi r)) hf) hf 0 [(0, vr (some l0)), (1, vi l1), (2, vi l2)] [] h := by
  unfold X12_tear at E
  refine go_aload_n (j := 0) (n := 1) rfl rfl dX12_tear_0 rfl ?_
  refine go_iconst (z := 0) (n := 2) ⟨by decide, by decide⟩ dX12_tear_1 rfl ?_
  replace E := Option.bind_eq_some_iff.mp E; obtain ⟨h1, eh1, E⟩ := E
  refine go_putI (n := 5) eh1 fl_RX12_3 rfl dX12_tear_2 rfl ?_
  refine go_aload_n (j := 0) (n := 6) rfl rfl dX12_tear_5 rfl ?_
  refine go_iload_n (j := 1) (n := 7) rfl rfl dX12_tear_6 rfl ?_
  replace E := Option.bind_eq_some_iff.mp E; obtain ⟨a4, ea4, E⟩ := E
  obtain ⟨fa4, ga4⟩ := xrc_some ea4
  replace E := xb_some E; obtain ⟨v2, h3, ev2, E⟩ := E
  refine go_callV (y := yX12_rowAt) (n := 10) (st := []) (as := [vi l1]) (stk9 := [vi v2]) (OX12_rowAt ev2) yw_X12_rowAt ci_12 ga4 wml_RX12_401 wim_X12_rowAt wse_X12_rowAt (Nat.le_of_ble_eq_true rfl) rfl ⟨Nat.le_of_ble_eq_true rfl, Nat.le_of_ble_eq_true rfl⟩ (Nat.le_of_ble_eq_true rfl) dX12_tear_7 rfl (by cases fa4; rfl) rfl ?_
  refine go_istore_n (n := 11) (lv' := [(3, vi v2), (0, vr (some l0)), (1, vi l1), (2, vi l2)]) rfl dX12_tear_10 rfl (Nat.le_of_ble_eq_true rfl) rfl ?_
  refine go_aload_n (j := 1) (n := 12) rfl rfl dX12_tear_11 rfl ?_
  refine go_iload_n (j := 0) (n := 13) rfl rfl dX12_tear_12 rfl ?_
  refine go_if_ge (tgt := 20) (n := 16) dX12_tear_13 rfl rfl (fun c5 => ?_) (fun c5 => ?_)
  · simp only [if_pos c5] at E
    refine go_iconst (z := 0) (n := 21) ⟨by decide, by decide⟩ dX12_tear_20 rfl ?_
    refine go_pick (lv' := [(0, vr (some l0)), (2, vi l2), (3, vi v2)]) [1, 3, 0] rfl ?_
    exact SX12_tear_L21     _ _ _ _ _ _ E
  · simp only [if_neg c5] at E
    refine go_iconst (z := 1) (n := 17) ⟨by decide, by decide⟩ dX12_tear_16 rfl ?_
    refine go_goto (tgt := 21) dX12_tear_17 rfl ?_
    refine go_pick (lv' := [(0, vr (some l0)), (2, vi l2), (3, vi v2)]) [1, 3, 0] rfl ?_
    exact SX12_tear_L21     _ _ _ _ _ _ E
theorem OX12_tear {F : Nat} {l0 : Nat} {l1 : Int} {l2 : Int} {h hf : HP} {r : Int} (e : X12_tear F l0 l1 l2 h = some (r, hf)) : Ok MX12_tear [vr (some l0), vi l1, vi l2] (some (vi r)) h hf := fun K _ _ _ => SX12_tear l0 l1 l2 h e
abbrev MX12_check : MI := (RX12, cX12_check, 2, (some .int), 4, none, "check")
noncomputable def X12_check_L7 (F : Nat)   (k : Nat) : Nat → Int → HP → Option (Int × HP) :=
  Nat.rec (motive := fun _ => Nat → Int → HP → Option (Int × HP)) (fun _ _ _ => none) (fun _ rc7 l0 l1 h =>
    (xrc h (some l0) 12 31).bind fun a3 =>
    xb (X12_writings F a3 h) fun v1 h2 =>
    if (min 8 v1) ≤ l1 then
      some ((-1), h2)
    else
      (xrc h2 (some l0) 12 31).bind fun a7 =>
      xb (X12_rowAt F a7 l1 h2) fun v5 h6 =>
      (xrc h6 (some l0) 12 31).bind fun a10 =>
      xb (X12_of F a10 v5 2 h6) fun v8 h9 =>
      (xrc h9 (some l0) 12 31).bind fun a13 =>
      xb (X12_rowAt F a13 l1 h9) fun v11 h12 =>
      (xrc h12 (some l0) 12 31).bind fun a16 =>
      xb (X12_of F a16 v11 3 h12) fun v14 h15 =>
      if v8 = v14 then
        rc7 l0 (w32 (l1 + 1)) h15
      else
        some (l1, h15)) k
theorem X12_check_L7_s (F : Nat)   (k : Nat) (l0 : Nat) (l1 : Int)  (h : HP) : X12_check_L7 F   (k + 1) l0 l1 h =
    (xrc h (some l0) 12 31).bind fun a3 =>
    xb (X12_writings F a3 h) fun v1 h2 =>
    if (min 8 v1) ≤ l1 then
      some ((-1), h2)
    else
      (xrc h2 (some l0) 12 31).bind fun a7 =>
      xb (X12_rowAt F a7 l1 h2) fun v5 h6 =>
      (xrc h6 (some l0) 12 31).bind fun a10 =>
      xb (X12_of F a10 v5 2 h6) fun v8 h9 =>
      (xrc h9 (some l0) 12 31).bind fun a13 =>
      xb (X12_rowAt F a13 l1 h9) fun v11 h12 =>
      (xrc h12 (some l0) 12 31).bind fun a16 =>
      xb (X12_of F a16 v11 3 h12) fun v14 h15 =>
      if v8 = v14 then
        (X12_check_L7 F k) l0 (w32 (l1 + 1)) h15
      else
        some (l1, h15) := rfl
set_option maxRecDepth 100000 in
theorem SX12_check_L7 {K : Ctx} {F : Nat} {r : Int} {hf : HP}     : ∀ (k : Nat) (l0 : Nat) (l1 : Int)  (h : HP), X12_check_L7 F   k l0 l1 h = some (r, hf) → Go K MX12_check (QM K (some (vi r)) hf) hf 7 [(0, vr (some l0)), (1, vi l1)] [] h := by
  intro k
  induction k with
  | zero => intro l0 l1 h E; exact nomatch E
  | succ k hrc7 =>
    intro l0 l1 h E
    rw [X12_check_L7_s] at E
    refine go_iload_n (j := 1) (n := 8) rfl rfl dX12_check_7 rfl ?_
    refine go_bipush (z := 8) (n := 10) ⟨by decide, by decide⟩ dX12_check_8 rfl ?_
    refine go_aload_n (j := 0) (n := 11) rfl rfl dX12_check_10 rfl ?_
    replace E := Option.bind_eq_some_iff.mp E; obtain ⟨a3, ea3, E⟩ := E
    obtain ⟨fa3, ga3⟩ := xrc_some ea3
    replace E := xb_some E; obtain ⟨v1, h2, ev1, E⟩ := E
    refine go_callV (y := yX12_writings) (n := 14) (st := [vi 8, vi l1]) (as := []) (stk9 := [vi v1, vi 8, vi l1]) (OX12_writings ev1) yw_X12_writings ci_12 ga3 wml_RX12_79 wim_X12_writings wse_X12_writings (Nat.le_of_ble_eq_true rfl) rfl ⟨Nat.le_of_ble_eq_true rfl, Nat.le_of_ble_eq_true rfl⟩ (Nat.le_of_ble_eq_true rfl) dX12_check_11 rfl (by cases fa3; rfl) rfl ?_
    refine go_mmin (n := 17) wml_RX12_342 jm_min_i (Nat.le_of_ble_eq_true rfl) (Nat.le_of_ble_eq_true rfl) dX12_check_14 rfl ?_
    refine go_icmp_ge (tgt := 51) (n := 20) dX12_check_17 rfl rfl (fun c4 => ?_) (fun c4 => ?_)
    · rw [if_pos c4] at E
      refine go_iconst (z := (-1)) (n := 52) ⟨by decide, by decide⟩ dX12_check_51 rfl ?_
      cases E
      exact go_ireturn rfl dX12_check_52
    · rw [if_neg c4] at E
      refine go_aload_n (j := 0) (n := 21) rfl rfl dX12_check_20 rfl ?_
      refine go_aload_n (j := 0) (n := 22) rfl rfl dX12_check_21 rfl ?_
      refine go_iload_n (j := 1) (n := 23) rfl rfl dX12_check_22 rfl ?_
      replace E := Option.bind_eq_some_iff.mp E; obtain ⟨a7, ea7, E⟩ := E
      obtain ⟨fa7, ga7⟩ := xrc_some ea7
      replace E := xb_some E; obtain ⟨v5, h6, ev5, E⟩ := E
      refine go_callV (y := yX12_rowAt) (n := 26) (st := [vr (some l0)]) (as := [vi l1]) (stk9 := [vi v5, vr (some l0)]) (OX12_rowAt ev5) yw_X12_rowAt ci_12 ga7 wml_RX12_401 wim_X12_rowAt wse_X12_rowAt (Nat.le_of_ble_eq_true rfl) rfl ⟨Nat.le_of_ble_eq_true rfl, Nat.le_of_ble_eq_true rfl⟩ (Nat.le_of_ble_eq_true rfl) dX12_check_23 rfl (by cases fa7; rfl) rfl ?_
      refine go_iconst (z := 2) (n := 27) ⟨by decide, by decide⟩ dX12_check_26 rfl ?_
      replace E := Option.bind_eq_some_iff.mp E; obtain ⟨a10, ea10, E⟩ := E
      obtain ⟨fa10, ga10⟩ := xrc_some ea10
      replace E := xb_some E; obtain ⟨v8, h9, ev8, E⟩ := E
      refine go_callV (y := yX12_of) (n := 30) (st := []) (as := [vi v5, vi 2]) (stk9 := [vi v8]) (OX12_of ev8) yw_X12_of ci_12 ga10 wml_RX12_100 wim_X12_of wse_X12_of (Nat.le_of_ble_eq_true rfl) rfl ⟨Nat.le_of_ble_eq_true rfl, Nat.le_of_ble_eq_true rfl⟩ (Nat.le_of_ble_eq_true rfl) dX12_check_27 rfl (by cases fa10; rfl) rfl ?_
      refine go_aload_n (j := 0) (n := 31) rfl rfl dX12_check_30 rfl ?_
      refine go_aload_n (j := 0) (n := 32) rfl rfl dX12_check_31 rfl ?_
      refine go_iload_n (j := 1) (n := 33) rfl rfl dX12_check_32 rfl ?_
      replace E := Option.bind_eq_some_iff.mp E; obtain ⟨a13, ea13, E⟩ := E
      obtain ⟨fa13, ga13⟩ := xrc_some ea13
      replace E := xb_some E; obtain ⟨v11, h12, ev11, E⟩ := E
      refine go_callV (y := yX12_rowAt) (n := 36) (st := [vr (some l0), vi v8]) (as := [vi l1]) (stk9 := [vi v11, vr (some l0), vi v8]) (OX12_rowAt ev11) yw_X12_rowAt ci_12 ga13 wml_RX12_401 wim_X12_rowAt wse_X12_rowAt (Nat.le_of_ble_eq_true rfl) rfl ⟨Nat.le_of_ble_eq_true rfl, Nat.le_of_ble_eq_true rfl⟩ (Nat.le_of_ble_eq_true rfl) dX12_check_33 rfl (by cases fa13; rfl) rfl ?_
      refine go_iconst (z := 3) (n := 37) ⟨by decide, by decide⟩ dX12_check_36 rfl ?_
      replace E := Option.bind_eq_some_iff.mp E; obtain ⟨a16, ea16, E⟩ := E
      obtain ⟨fa16, ga16⟩ := xrc_some ea16
      replace E := xb_some E; obtain ⟨v14, h15, ev14, E⟩ := E
      refine go_callV (y := yX12_of) (n := 40) (st := [vi v8]) (as := [vi v11, vi 3]) (stk9 := [vi v14, vi v8]) (OX12_of ev14) yw_X12_of ci_12 ga16 wml_RX12_100 wim_X12_of wse_X12_of (Nat.le_of_ble_eq_true rfl) rfl ⟨Nat.le_of_ble_eq_true rfl, Nat.le_of_ble_eq_true rfl⟩ (Nat.le_of_ble_eq_true rfl) dX12_check_37 rfl (by cases fa16; rfl) rfl ?_
      refine go_icmp_eq (tgt := 45) (n := 43) dX12_check_40 rfl rfl (fun c17 => ?_) (fun c17 => ?_)
      · rw [if_pos c17] at E
        refine go_iinc (j := 1) (n := 48) (lv' := [(1, vi (w32 (l1 + 1))), (0, vr (some l0))]) rfl dX12_check_45 rfl (Nat.le_of_ble_eq_true rfl) rfl ?_
        refine go_goto (tgt := 7) dX12_check_48 rfl ?_
        refine go_pick (lv' := [(0, vr (some l0)), (1, vi (w32 (l1 + 1)))]) [1, 0] rfl ?_
        exact hrc7 _ _ _ E
      · rw [if_neg c17] at E
        refine go_iload_n (j := 1) (n := 44) rfl rfl dX12_check_43 rfl ?_
        cases E
        exact go_ireturn rfl dX12_check_44
noncomputable def X12_check (F : Nat)   (l0 : Nat)  (h : HP) : Option (Int × HP) :=
  (xpI h (some l0) 12 31 0 0).bind fun h1 =>
  X12_check_L7 F F l0 0 h1
set_option maxRecDepth 100000 in
theorem SX12_check {K : Ctx} {F : Nat} {r : Int} {hf : HP}     (l0 : Nat)  (h : HP) (E : X12_check F   l0 h = some (r, hf)) : Go K MX12_check (QM K (some (vi r)) hf) hf 0 [(0, vr (some l0))] [] h := by
  unfold X12_check at E
  refine go_aload_n (j := 0) (n := 1) rfl rfl dX12_check_0 rfl ?_
  refine go_iconst (z := 0) (n := 2) ⟨by decide, by decide⟩ dX12_check_1 rfl ?_
  replace E := Option.bind_eq_some_iff.mp E; obtain ⟨h1, eh1, E⟩ := E
  refine go_putI (n := 5) eh1 fl_RX12_3 rfl dX12_check_2 rfl ?_
  refine go_iconst (z := 0) (n := 6) ⟨by decide, by decide⟩ dX12_check_5 rfl ?_
  refine go_istore_n (n := 7) (lv' := [(1, vi 0), (0, vr (some l0))]) rfl dX12_check_6 rfl (Nat.le_of_ble_eq_true rfl) rfl ?_
  refine go_pick (lv' := [(0, vr (some l0)), (1, vi 0)]) [1, 0] rfl ?_
  exact SX12_check_L7     F _ _ _ E
theorem OX12_check {F : Nat} {l0 : Nat} {h hf : HP} {r : Int} (e : X12_check F l0 h = some (r, hf)) : Ok MX12_check [vr (some l0)] (some (vi r)) h hf := fun K _ _ _ => SX12_check l0 h e
theorem fl_RX12_57 : FL RX12 57 12 31 3 false := ⟨RX12, TX12, ci_12, by decide, bw_of 1756 (by decide +kernel) rfl, rfl, rfl⟩
theorem fl_RX12_18 : FL RX12 18 12 31 2 true := ⟨RX12, TX12, ci_12, by decide, bw_of 1755 (by decide +kernel) rfl, rfl, rfl⟩
abbrev MX12_image : MI := (RX12, cX12_image, 2, none, 2, none, "image")
noncomputable def X12_image_L7 (F : Nat)   (k : Nat) : Nat → Int → HP → Option (Unit × HP) :=
  Nat.rec (motive := fun _ => Nat → Int → HP → Option (Unit × HP)) (fun _ _ _ => none) (fun _ rc7 l0 l1 h =>
    (xgP h (some l0) 12 31 1).bind fun v1 =>
    (xaI h v1 100 11356).bind fun v2 =>
    if (w32 (11357 + (w32 (7 * v2)))) ≤ l1 then
      (xpZ h (some l0) 12 31 3 1).bind fun h4 =>
      some ((), h4)
    else
      (xgP h (some l0) 12 31 2).bind fun v5 =>
      (xgP h (some l0) 12 31 1).bind fun v6 =>
      (xaI h v6 100 l1).bind fun v7 =>
      (xsI h v5 l1 v7).bind fun h8 =>
      rc7 l0 (w32 (l1 + 1)) h8) k
theorem X12_image_L7_s (F : Nat)   (k : Nat) (l0 : Nat) (l1 : Int)  (h : HP) : X12_image_L7 F   (k + 1) l0 l1 h =
    (xgP h (some l0) 12 31 1).bind fun v1 =>
    (xaI h v1 100 11356).bind fun v2 =>
    if (w32 (11357 + (w32 (7 * v2)))) ≤ l1 then
      (xpZ h (some l0) 12 31 3 1).bind fun h4 =>
      some ((), h4)
    else
      (xgP h (some l0) 12 31 2).bind fun v5 =>
      (xgP h (some l0) 12 31 1).bind fun v6 =>
      (xaI h v6 100 l1).bind fun v7 =>
      (xsI h v5 l1 v7).bind fun h8 =>
      (X12_image_L7 F k) l0 (w32 (l1 + 1)) h8 := rfl
set_option maxRecDepth 100000 in
theorem SX12_image_L7 {K : Ctx} {F : Nat} {r : Unit} {hf : HP}     : ∀ (k : Nat) (l0 : Nat) (l1 : Int)  (h : HP), X12_image_L7 F   k l0 l1 h = some (r, hf) → Go K MX12_image (QM K none hf) hf 7 [(0, vr (some l0)), (1, vi l1)] [] h := by
  intro k
  induction k with
  | zero => intro l0 l1 h E; exact nomatch E
  | succ k hrc7 =>
    intro l0 l1 h E
    rw [X12_image_L7_s] at E
    refine go_iload_n (j := 1) (n := 8) rfl rfl dX12_image_7 rfl ?_
    refine go_sipush (z := 11357) (n := 11) ⟨by decide, by decide⟩ dX12_image_8 rfl ?_
    refine go_bipush (z := 7) (n := 13) ⟨by decide, by decide⟩ dX12_image_11 rfl ?_
    refine go_aload_n (j := 0) (n := 14) rfl rfl dX12_image_13 rfl ?_
    replace E := Option.bind_eq_some_iff.mp E; obtain ⟨v1, ev1, E⟩ := E
    refine go_getP (n := 17) ev1 fl_RX12_14 rfl dX12_image_14 rfl ?_
    refine go_sipush (z := 11356) (n := 20) ⟨by decide, by decide⟩ dX12_image_17 rfl ?_
    replace E := Option.bind_eq_some_iff.mp E; obtain ⟨v2, ev2, E⟩ := E
    refine go_iaload (n := 21) ev2 dX12_image_20 rfl ?_
    refine go_imul (n := 22) dX12_image_21 rfl ?_
    refine go_iadd (n := 23) dX12_image_22 rfl ?_
    refine go_icmp_ge (tgt := 44) (n := 26) dX12_image_23 rfl rfl (fun c3 => ?_) (fun c3 => ?_)
    · rw [if_pos c3] at E
      refine go_aload_n (j := 0) (n := 45) rfl rfl dX12_image_44 rfl ?_
      refine go_iconst (z := 1) (n := 46) ⟨by decide, by decide⟩ dX12_image_45 rfl ?_
      replace E := Option.bind_eq_some_iff.mp E; obtain ⟨h4, eh4, E⟩ := E
      refine go_putZ (n := 49) eh4 fl_RX12_57 rfl dX12_image_46 rfl ?_
      cases E
      exact go_return rfl dX12_image_49
    · rw [if_neg c3] at E
      refine go_aload_n (j := 0) (n := 27) rfl rfl dX12_image_26 rfl ?_
      replace E := Option.bind_eq_some_iff.mp E; obtain ⟨v5, ev5, E⟩ := E
      refine go_getP (n := 30) ev5 fl_RX12_18 rfl dX12_image_27 rfl ?_
      refine go_iload_n (j := 1) (n := 31) rfl rfl dX12_image_30 rfl ?_
      refine go_aload_n (j := 0) (n := 32) rfl rfl dX12_image_31 rfl ?_
      replace E := Option.bind_eq_some_iff.mp E; obtain ⟨v6, ev6, E⟩ := E
      refine go_getP (n := 35) ev6 fl_RX12_14 rfl dX12_image_32 rfl ?_
      refine go_iload_n (j := 1) (n := 36) rfl rfl dX12_image_35 rfl ?_
      replace E := Option.bind_eq_some_iff.mp E; obtain ⟨v7, ev7, E⟩ := E
      refine go_iaload (n := 37) ev7 dX12_image_36 rfl ?_
      replace E := Option.bind_eq_some_iff.mp E; obtain ⟨h8, eh8, E⟩ := E
      refine go_iastore (n := 38) eh8 dX12_image_37 rfl ?_
      refine go_iinc (j := 1) (n := 41) (lv' := [(1, vi (w32 (l1 + 1))), (0, vr (some l0))]) rfl dX12_image_38 rfl (Nat.le_of_ble_eq_true rfl) rfl ?_
      refine go_goto (tgt := 7) dX12_image_41 rfl ?_
      refine go_pick (lv' := [(0, vr (some l0)), (1, vi (w32 (l1 + 1)))]) [1, 0] rfl ?_
      exact hrc7 _ _ _ E
noncomputable def X12_image (F : Nat)   (l0 : Nat)  (h : HP) : Option (Unit × HP) :=
  (xpI h (some l0) 12 31 0 0).bind fun h1 =>
  X12_image_L7 F F l0 0 h1
set_option maxRecDepth 100000 in
theorem SX12_image {K : Ctx} {F : Nat} {r : Unit} {hf : HP}     (l0 : Nat)  (h : HP) (E : X12_image F   l0 h = some (r, hf)) : Go K MX12_image (QM K none hf) hf 0 [(0, vr (some l0))] [] h := by
  unfold X12_image at E
  refine go_aload_n (j := 0) (n := 1) rfl rfl dX12_image_0 rfl ?_
  refine go_iconst (z := 0) (n := 2) ⟨by decide, by decide⟩ dX12_image_1 rfl ?_
  replace E := Option.bind_eq_some_iff.mp E; obtain ⟨h1, eh1, E⟩ := E
  refine go_putI (n := 5) eh1 fl_RX12_3 rfl dX12_image_2 rfl ?_
  refine go_iconst (z := 0) (n := 6) ⟨by decide, by decide⟩ dX12_image_5 rfl ?_
  refine go_istore_n (n := 7) (lv' := [(1, vi 0), (0, vr (some l0))]) rfl dX12_image_6 rfl (Nat.le_of_ble_eq_true rfl) rfl ?_
  refine go_pick (lv' := [(0, vr (some l0)), (1, vi 0)]) [1, 0] rfl ?_
  exact SX12_image_L7     F _ _ _ E
theorem OX12_image {F : Nat} {l0 : Nat} {h hf : HP} {r : Unit} (e : X12_image F l0 h = some (r, hf)) : Ok MX12_image [vr (some l0)] none h hf := fun K _ _ _ => SX12_image l0 h e
abbrev MX12_back : MI := (RX12, cX12_back, 2, (some .boolean), 2, none, "back")
noncomputable def X12_back_L16 (F : Nat)   (k : Nat) : Nat → Int → HP → Option (Int × HP) :=
  Nat.rec (motive := fun _ => Nat → Int → HP → Option (Int × HP)) (fun _ _ _ => none) (fun _ rc16 l0 l1 h =>
    (xgP h (some l0) 12 31 2).bind fun v1 =>
    (xaI h v1 100 11356).bind fun v2 =>
    if (w32 (11357 + (w32 (7 * v2)))) ≤ l1 then
      some (1, h)
    else
      (xgP h (some l0) 12 31 1).bind fun v4 =>
      (xgP h (some l0) 12 31 2).bind fun v5 =>
      (xaI h v5 100 l1).bind fun v6 =>
      (xsI h v4 l1 v6).bind fun h7 =>
      rc16 l0 (w32 (l1 + 1)) h7) k
theorem X12_back_L16_s (F : Nat)   (k : Nat) (l0 : Nat) (l1 : Int)  (h : HP) : X12_back_L16 F   (k + 1) l0 l1 h =
    (xgP h (some l0) 12 31 2).bind fun v1 =>
    (xaI h v1 100 11356).bind fun v2 =>
    if (w32 (11357 + (w32 (7 * v2)))) ≤ l1 then
      some (1, h)
    else
      (xgP h (some l0) 12 31 1).bind fun v4 =>
      (xgP h (some l0) 12 31 2).bind fun v5 =>
      (xaI h v5 100 l1).bind fun v6 =>
      (xsI h v4 l1 v6).bind fun h7 =>
      (X12_back_L16 F k) l0 (w32 (l1 + 1)) h7 := rfl
set_option maxRecDepth 100000 in
theorem SX12_back_L16 {K : Ctx} {F : Nat} {r : Int} {hf : HP}     : ∀ (k : Nat) (l0 : Nat) (l1 : Int)  (h : HP), X12_back_L16 F   k l0 l1 h = some (r, hf) → Go K MX12_back (QM K (some (vi r)) hf) hf 16 [(0, vr (some l0)), (1, vi l1)] [] h := by
  intro k
  induction k with
  | zero => intro l0 l1 h E; exact nomatch E
  | succ k hrc16 =>
    intro l0 l1 h E
    rw [X12_back_L16_s] at E
    refine go_iload_n (j := 1) (n := 17) rfl rfl dX12_back_16 rfl ?_
    refine go_sipush (z := 11357) (n := 20) ⟨by decide, by decide⟩ dX12_back_17 rfl ?_
    refine go_bipush (z := 7) (n := 22) ⟨by decide, by decide⟩ dX12_back_20 rfl ?_
    refine go_aload_n (j := 0) (n := 23) rfl rfl dX12_back_22 rfl ?_
    replace E := Option.bind_eq_some_iff.mp E; obtain ⟨v1, ev1, E⟩ := E
    refine go_getP (n := 26) ev1 fl_RX12_18 rfl dX12_back_23 rfl ?_
    refine go_sipush (z := 11356) (n := 29) ⟨by decide, by decide⟩ dX12_back_26 rfl ?_
    replace E := Option.bind_eq_some_iff.mp E; obtain ⟨v2, ev2, E⟩ := E
    refine go_iaload (n := 30) ev2 dX12_back_29 rfl ?_
    refine go_imul (n := 31) dX12_back_30 rfl ?_
    refine go_iadd (n := 32) dX12_back_31 rfl ?_
    refine go_icmp_ge (tgt := 53) (n := 35) dX12_back_32 rfl rfl (fun c3 => ?_) (fun c3 => ?_)
    · rw [if_pos c3] at E
      refine go_iconst (z := 1) (n := 54) ⟨by decide, by decide⟩ dX12_back_53 rfl ?_
      cases E
      exact go_zreturn rfl (Or.inr rfl) dX12_back_54
    · rw [if_neg c3] at E
      refine go_aload_n (j := 0) (n := 36) rfl rfl dX12_back_35 rfl ?_
      replace E := Option.bind_eq_some_iff.mp E; obtain ⟨v4, ev4, E⟩ := E
      refine go_getP (n := 39) ev4 fl_RX12_14 rfl dX12_back_36 rfl ?_
      refine go_iload_n (j := 1) (n := 40) rfl rfl dX12_back_39 rfl ?_
      refine go_aload_n (j := 0) (n := 41) rfl rfl dX12_back_40 rfl ?_
      replace E := Option.bind_eq_some_iff.mp E; obtain ⟨v5, ev5, E⟩ := E
      refine go_getP (n := 44) ev5 fl_RX12_18 rfl dX12_back_41 rfl ?_
      refine go_iload_n (j := 1) (n := 45) rfl rfl dX12_back_44 rfl ?_
      replace E := Option.bind_eq_some_iff.mp E; obtain ⟨v6, ev6, E⟩ := E
      refine go_iaload (n := 46) ev6 dX12_back_45 rfl ?_
      replace E := Option.bind_eq_some_iff.mp E; obtain ⟨h7, eh7, E⟩ := E
      refine go_iastore (n := 47) eh7 dX12_back_46 rfl ?_
      refine go_iinc (j := 1) (n := 50) (lv' := [(1, vi (w32 (l1 + 1))), (0, vr (some l0))]) rfl dX12_back_47 rfl (Nat.le_of_ble_eq_true rfl) rfl ?_
      refine go_goto (tgt := 16) dX12_back_50 rfl ?_
      refine go_pick (lv' := [(0, vr (some l0)), (1, vi (w32 (l1 + 1)))]) [1, 0] rfl ?_
      exact hrc16 _ _ _ E
noncomputable def X12_back (F : Nat)   (l0 : Nat)  (h : HP) : Option (Int × HP) :=
  (xpI h (some l0) 12 31 0 0).bind fun h1 =>
  (xgI h1 (some l0) 12 31 3).bind fun v2 =>
  if v2 = 0 then
    some (0, h1)
  else
    X12_back_L16 F F l0 0 h1
set_option maxRecDepth 100000 in
theorem SX12_back {K : Ctx} {F : Nat} {r : Int} {hf : HP}     (l0 : Nat)  (h : HP) (E : X12_back F   l0 h = some (r, hf)) : Go K MX12_back (QM K (some (vi r)) hf) hf 0 [(0, vr (some l0))] [] h := by
  unfold X12_back at E
  refine go_aload_n (j := 0) (n := 1) rfl rfl dX12_back_0 rfl ?_
  refine go_iconst (z := 0) (n := 2) ⟨by decide, by decide⟩ dX12_back_1 rfl ?_
  replace E := Option.bind_eq_some_iff.mp E; obtain ⟨h1, eh1, E⟩ := E
  refine go_putI (n := 5) eh1 fl_RX12_3 rfl dX12_back_2 rfl ?_
  refine go_aload_n (j := 0) (n := 6) rfl rfl dX12_back_5 rfl ?_
  replace E := Option.bind_eq_some_iff.mp E; obtain ⟨v2, ev2, E⟩ := E
  refine go_getI (n := 9) ev2 fl_RX12_57 rfl dX12_back_6 rfl ?_
  refine go_if_ne (tgt := 14) (n := 12) dX12_back_9 rfl rfl (fun c3 => ?_) (fun c3 => ?_)
  · rw [if_neg c3] at E
    refine go_iconst (z := 0) (n := 15) ⟨by decide, by decide⟩ dX12_back_14 rfl ?_
    refine go_istore_n (n := 16) (lv' := [(1, vi 0), (0, vr (some l0))]) rfl dX12_back_15 rfl (Nat.le_of_ble_eq_true rfl) rfl ?_
    refine go_pick (lv' := [(0, vr (some l0)), (1, vi 0)]) [1, 0] rfl ?_
    exact SX12_back_L16     F _ _ _ E
  · rw [if_pos c3] at E
    refine go_iconst (z := 0) (n := 13) ⟨by decide, by decide⟩ dX12_back_12 rfl ?_
    cases E
    exact go_zreturn rfl (Or.inl rfl) dX12_back_13
theorem OX12_back {F : Nat} {l0 : Nat} {h hf : HP} {r : Int} (e : X12_back F l0 h = some (r, hf)) : Ok MX12_back [vr (some l0)] (some (vi r)) h hf := fun K _ _ _ => SX12_back l0 h e
abbrev MX12_sumOf : MI := (RX12, cX12_sumOf, 4, (some .int), 4, none, "sumOf")
noncomputable def X12_sumOf_L4 (F : Nat)   (k : Nat) : Nat → Int → Int → Int → HP → Option (Int × HP) :=
  Nat.rec (motive := fun _ => Nat → Int → Int → Int → HP → Option (Int × HP)) (fun _ _ _ _ _ => none) (fun _ rc4 l0 l1 l2 l3 h =>
    (xgP h (some l0) 12 31 1).bind fun v1 =>
    (xaI h v1 100 8).bind fun v2 =>
    if v2 ≤ l3 then
      some (l2, h)
    else
      (xrc h (some l0) 12 31).bind fun a6 =>
      xb (X12_its F a6 l3 l1 h) fun v4 h5 =>
      rc4 l0 l1 (w32 (l2 + v4)) (w32 (l3 + 1)) h5) k
theorem X12_sumOf_L4_s (F : Nat)   (k : Nat) (l0 : Nat) (l1 : Int) (l2 : Int) (l3 : Int)  (h : HP) : X12_sumOf_L4 F   (k + 1) l0 l1 l2 l3 h =
    (xgP h (some l0) 12 31 1).bind fun v1 =>
    (xaI h v1 100 8).bind fun v2 =>
    if v2 ≤ l3 then
      some (l2, h)
    else
      (xrc h (some l0) 12 31).bind fun a6 =>
      xb (X12_its F a6 l3 l1 h) fun v4 h5 =>
      (X12_sumOf_L4 F k) l0 l1 (w32 (l2 + v4)) (w32 (l3 + 1)) h5 := rfl
set_option maxRecDepth 100000 in
theorem SX12_sumOf_L4 {K : Ctx} {F : Nat} {r : Int} {hf : HP}     : ∀ (k : Nat) (l0 : Nat) (l1 : Int) (l2 : Int) (l3 : Int)  (h : HP), X12_sumOf_L4 F   k l0 l1 l2 l3 h = some (r, hf) → Go K MX12_sumOf (QM K (some (vi r)) hf) hf 4 [(0, vr (some l0)), (1, vi l1), (2, vi l2), (3, vi l3)] [] h := by
  intro k
  induction k with
  | zero => intro l0 l1 l2 l3 h E; exact nomatch E
  | succ k hrc4 =>
    intro l0 l1 l2 l3 h E
    rw [X12_sumOf_L4_s] at E
    refine go_iload_n (j := 3) (n := 5) rfl rfl dX12_sumOf_4 rfl ?_
    refine go_aload_n (j := 0) (n := 6) rfl rfl dX12_sumOf_5 rfl ?_
    replace E := Option.bind_eq_some_iff.mp E; obtain ⟨v1, ev1, E⟩ := E
    refine go_getP (n := 9) ev1 fl_RX12_14 rfl dX12_sumOf_6 rfl ?_
    refine go_bipush (z := 8) (n := 11) ⟨by decide, by decide⟩ dX12_sumOf_9 rfl ?_
    replace E := Option.bind_eq_some_iff.mp E; obtain ⟨v2, ev2, E⟩ := E
    refine go_iaload (n := 12) ev2 dX12_sumOf_11 rfl ?_
    refine go_icmp_ge (tgt := 30) (n := 15) dX12_sumOf_12 rfl rfl (fun c3 => ?_) (fun c3 => ?_)
    · rw [if_pos c3] at E
      refine go_iload_n (j := 2) (n := 31) rfl rfl dX12_sumOf_30 rfl ?_
      cases E
      exact go_ireturn rfl dX12_sumOf_31
    · rw [if_neg c3] at E
      refine go_iload_n (j := 2) (n := 16) rfl rfl dX12_sumOf_15 rfl ?_
      refine go_aload_n (j := 0) (n := 17) rfl rfl dX12_sumOf_16 rfl ?_
      refine go_iload_n (j := 3) (n := 18) rfl rfl dX12_sumOf_17 rfl ?_
      refine go_iload_n (j := 1) (n := 19) rfl rfl dX12_sumOf_18 rfl ?_
      replace E := Option.bind_eq_some_iff.mp E; obtain ⟨a6, ea6, E⟩ := E
      obtain ⟨fa6, ga6⟩ := xrc_some ea6
      replace E := xb_some E; obtain ⟨v4, h5, ev4, E⟩ := E
      refine go_callV (y := yX12_its) (n := 22) (st := [vi l2]) (as := [vi l3, vi l1]) (stk9 := [vi v4, vi l2]) (OX12_its ev4) yw_X12_its ci_12 ga6 wml_RX12_250 wim_X12_its wse_X12_its (Nat.le_of_ble_eq_true rfl) rfl ⟨Nat.le_of_ble_eq_true rfl, Nat.le_of_ble_eq_true rfl⟩ (Nat.le_of_ble_eq_true rfl) dX12_sumOf_19 rfl (by cases fa6; rfl) rfl ?_
      refine go_iadd (n := 23) dX12_sumOf_22 rfl ?_
      refine go_istore_n (n := 24) (lv' := [(2, vi (w32 (l2 + v4))), (0, vr (some l0)), (1, vi l1), (3, vi l3)]) rfl dX12_sumOf_23 rfl (Nat.le_of_ble_eq_true rfl) rfl ?_
      refine go_iinc (j := 3) (n := 27) (lv' := [(3, vi (w32 (l3 + 1))), (2, vi (w32 (l2 + v4))), (0, vr (some l0)), (1, vi l1)]) rfl dX12_sumOf_24 rfl (Nat.le_of_ble_eq_true rfl) rfl ?_
      refine go_goto (tgt := 4) dX12_sumOf_27 rfl ?_
      refine go_pick (lv' := [(0, vr (some l0)), (1, vi l1), (2, vi (w32 (l2 + v4))), (3, vi (w32 (l3 + 1)))]) [2, 3, 1, 0] rfl ?_
      exact hrc4 _ _ _ _ _ E
noncomputable def X12_sumOf (F : Nat)   (l0 : Nat) (l1 : Int)  (h : HP) : Option (Int × HP) :=
  X12_sumOf_L4 F F l0 l1 0 0 h
set_option maxRecDepth 100000 in
theorem SX12_sumOf {K : Ctx} {F : Nat} {r : Int} {hf : HP}     (l0 : Nat) (l1 : Int)  (h : HP) (E : X12_sumOf F   l0 l1 h = some (r, hf)) : Go K MX12_sumOf (QM K (some (vi r)) hf) hf 0 [(0, vr (some l0)), (1, vi l1)] [] h := by
  unfold X12_sumOf at E
  refine go_iconst (z := 0) (n := 1) ⟨by decide, by decide⟩ dX12_sumOf_0 rfl ?_
  refine go_istore_n (n := 2) (lv' := [(2, vi 0), (0, vr (some l0)), (1, vi l1)]) rfl dX12_sumOf_1 rfl (Nat.le_of_ble_eq_true rfl) rfl ?_
  refine go_iconst (z := 0) (n := 3) ⟨by decide, by decide⟩ dX12_sumOf_2 rfl ?_
  refine go_istore_n (n := 4) (lv' := [(3, vi 0), (2, vi 0), (0, vr (some l0)), (1, vi l1)]) rfl dX12_sumOf_3 rfl (Nat.le_of_ble_eq_true rfl) rfl ?_
  refine go_pick (lv' := [(0, vr (some l0)), (1, vi l1), (2, vi 0), (3, vi 0)]) [2, 3, 1, 0] rfl ?_
  exact SX12_sumOf_L4     F _ _ _ _ _ E
theorem OX12_sumOf {F : Nat} {l0 : Nat} {l1 : Int} {h hf : HP} {r : Int} (e : X12_sumOf F l0 l1 h = some (r, hf)) : Ok MX12_sumOf [vr (some l0), vi l1] (some (vi r)) h hf := fun K _ _ _ => SX12_sumOf l0 l1 h e
theorem yw_X12_sumOf : YW yX12_sumOf cX12_sumOf 4 (some .int) 1 := ⟨bw_of 2326 (by decide +kernel) rfl, bw_of 129 (by decide +kernel) rfl, ⟨by decide +kernel, by decide +kernel, by decide +kernel⟩, by decide +kernel⟩
theorem wml_RX12_404 : Cond.methodLink RX12 404 yX12_sumOf ∈ BW := bw_of 2323 (by decide +kernel) rfl
theorem wim_X12_sumOf : Cond.instanceMethod yX12_sumOf ∈ BW := bw_of 2325 (by decide +kernel) rfl
theorem wse_X12_sumOf : Cond.selects RX12 yX12_sumOf yX12_sumOf ∈ BW := bw_of 115 (by decide +kernel) rfl
abbrev MX12_count : MI := (RX12, cX12_count, 4, (some .int), 5, none, "count")
noncomputable def X12_count_L137 (F : Nat)  (rc110 : Nat → Int → Int → HP → Option (Int × HP)) (l0 : Nat) (l3 : Int) (s0 : Int) (s1 : Int) (h : HP) : Option (Int × HP) :=
  rc110 l0 (w32 (s1 + s0)) (w32 (l3 + 1)) h
set_option maxRecDepth 100000 in
theorem SX12_count_L137 {K : Ctx} {F : Nat} {r : Int} {hf : HP}   (rc110 : Nat → Int → Int → HP → Option (Int × HP)) (hrc110 : ∀ l0 l2 l3 h, rc110 l0 l2 l3 h = some (r, hf) → Go K MX12_count (QM K (some (vi r)) hf) hf 110 [(0, vr (some l0)), (2, vi l2), (3, vi l3)] [] h) (l0 : Nat) (l3 : Int) (s0 : Int) (s1 : Int) (h : HP) (E : X12_count_L137 F  rc110 l0 l3 s0 s1 h = some (r, hf)) : Go K MX12_count (QM K (some (vi r)) hf) hf 137 [(0, vr (some l0)), (3, vi l3)] [vi s0, vi s1] h := by
  unfold X12_count_L137 at E
  refine go_iadd (n := 138) dX12_count_137 rfl ?_
  refine go_istore_n (n := 139) (lv' := [(2, vi (w32 (s1 + s0))), (0, vr (some l0)), (3, vi l3)]) rfl dX12_count_138 rfl (Nat.le_of_ble_eq_true rfl) rfl ?_
  refine go_iinc (j := 2) (n := 142) (lv' := [(3, vi (w32 (l3 + 1))), (2, vi (w32 (s1 + s0))), (0, vr (some l0))]) rfl dX12_count_139 rfl (Nat.le_of_ble_eq_true rfl) rfl ?_
  refine go_goto (tgt := 110) dX12_count_142 rfl ?_
  refine go_pick (lv' := [(0, vr (some l0)), (2, vi (w32 (s1 + s0))), (3, vi (w32 (l3 + 1)))]) [2, 1, 0] rfl ?_
  exact hrc110 _ _ _ _ E
noncomputable def X12_count_L110 (F : Nat)   (k : Nat) : Nat → Int → Int → HP → Option (Int × HP) :=
  Nat.rec (motive := fun _ => Nat → Int → Int → HP → Option (Int × HP)) (fun _ _ _ _ => none) (fun _ rc110 l0 l2 l3 h =>
    (xgP h (some l0) 12 31 1).bind fun v1 =>
    (xaI h v1 100 8).bind fun v2 =>
    if v2 ≤ l3 then
      some (l2, h)
    else
      (xrc h (some l0) 12 31).bind fun a6 =>
      xb (X12_its F a6 l3 8 h) fun v4 h5 =>
      X12_count_L137 F rc110 l0 l3 (if v4 = 0 then 1 else 0) l2 h5) k
theorem X12_count_L110_s (F : Nat)   (k : Nat) (l0 : Nat) (l2 : Int) (l3 : Int)  (h : HP) : X12_count_L110 F   (k + 1) l0 l2 l3 h =
    (xgP h (some l0) 12 31 1).bind fun v1 =>
    (xaI h v1 100 8).bind fun v2 =>
    if v2 ≤ l3 then
      some (l2, h)
    else
      (xrc h (some l0) 12 31).bind fun a6 =>
      xb (X12_its F a6 l3 8 h) fun v4 h5 =>
      X12_count_L137 F (X12_count_L110 F k) l0 l3 (if v4 = 0 then 1 else 0) l2 h5 := rfl
set_option maxRecDepth 100000 in
theorem SX12_count_L110 {K : Ctx} {F : Nat} {r : Int} {hf : HP}     : ∀ (k : Nat) (l0 : Nat) (l2 : Int) (l3 : Int)  (h : HP), X12_count_L110 F   k l0 l2 l3 h = some (r, hf) → Go K MX12_count (QM K (some (vi r)) hf) hf 110 [(0, vr (some l0)), (2, vi l2), (3, vi l3)] [] h := by
  intro k
  induction k with
  | zero => intro l0 l2 l3 h E; exact nomatch E
  | succ k hrc110 =>
    intro l0 l2 l3 h E
    rw [X12_count_L110_s] at E
    refine go_iload_n (j := 2) (n := 111) rfl rfl dX12_count_110 rfl ?_
    refine go_aload_n (j := 0) (n := 112) rfl rfl dX12_count_111 rfl ?_
    replace E := Option.bind_eq_some_iff.mp E; obtain ⟨v1, ev1, E⟩ := E
    refine go_getP (n := 115) ev1 fl_RX12_14 rfl dX12_count_112 rfl ?_
    refine go_bipush (z := 8) (n := 117) ⟨by decide, by decide⟩ dX12_count_115 rfl ?_
    replace E := Option.bind_eq_some_iff.mp E; obtain ⟨v2, ev2, E⟩ := E
    refine go_iaload (n := 118) ev2 dX12_count_117 rfl ?_
    refine go_icmp_ge (tgt := 145) (n := 121) dX12_count_118 rfl rfl (fun c3 => ?_) (fun c3 => ?_)
    · rw [if_pos c3] at E
      refine go_iload_n (j := 1) (n := 146) rfl rfl dX12_count_145 rfl ?_
      cases E
      exact go_ireturn rfl dX12_count_146
    · rw [if_neg c3] at E
      refine go_iload_n (j := 1) (n := 122) rfl rfl dX12_count_121 rfl ?_
      refine go_aload_n (j := 0) (n := 123) rfl rfl dX12_count_122 rfl ?_
      refine go_iload_n (j := 2) (n := 124) rfl rfl dX12_count_123 rfl ?_
      refine go_bipush (z := 8) (n := 126) ⟨by decide, by decide⟩ dX12_count_124 rfl ?_
      replace E := Option.bind_eq_some_iff.mp E; obtain ⟨a6, ea6, E⟩ := E
      obtain ⟨fa6, ga6⟩ := xrc_some ea6
      replace E := xb_some E; obtain ⟨v4, h5, ev4, E⟩ := E
      refine go_callV (y := yX12_its) (n := 129) (st := [vi l2]) (as := [vi l3, vi 8]) (stk9 := [vi v4, vi l2]) (OX12_its ev4) yw_X12_its ci_12 ga6 wml_RX12_250 wim_X12_its wse_X12_its (Nat.le_of_ble_eq_true rfl) rfl ⟨Nat.le_of_ble_eq_true rfl, Nat.le_of_ble_eq_true rfl⟩ (Nat.le_of_ble_eq_true rfl) dX12_count_126 rfl (by cases fa6; rfl) rfl ?_
      refine go_if_ne (tgt := 136) (n := 132) dX12_count_129 rfl rfl (fun c7 => ?_) (fun c7 => ?_)
      · simp only [if_neg c7] at E
        refine go_iconst (z := 0) (n := 137) ⟨by decide, by decide⟩ dX12_count_136 rfl ?_
        refine go_pick (lv' := [(0, vr (some l0)), (3, vi l3)]) [0, 2] rfl ?_
        exact SX12_count_L137   _ hrc110 _ _ _ _ _ E
      · simp only [if_pos c7] at E
        refine go_iconst (z := 1) (n := 133) ⟨by decide, by decide⟩ dX12_count_132 rfl ?_
        refine go_goto (tgt := 137) dX12_count_133 rfl ?_
        refine go_pick (lv' := [(0, vr (some l0)), (3, vi l3)]) [0, 2] rfl ?_
        exact SX12_count_L137   _ hrc110 _ _ _ _ _ E
noncomputable def X12_count (F : Nat)   (l0 : Nat) (l1 : Int)  (h : HP) : Option (Int × HP) :=
  (xpI h (some l0) 12 31 0 0).bind fun h1 =>
  if l1 = 0 then
    (xrc h1 (some l0) 12 31).bind fun a4 =>
    xb (X12_now F a4 h1) fun v2 h3 =>
    some (v2, h3)
  else
    if l1 = 1 then
      (xgP h1 (some l0) 12 31 1).bind fun v5 =>
      (xaI h1 v5 100 8).bind fun v6 =>
      some (v6, h1)
    else
      if l1 = 2 then
        (xrc h1 (some l0) 12 31).bind fun a9 =>
        xb (X12_writings F a9 h1) fun v7 h8 =>
        some (v7, h8)
      else
        if l1 = 3 then
          (xgP h1 (some l0) 12 31 1).bind fun v10 =>
          (xaI h1 v10 100 3).bind fun v11 =>
          some (v11, h1)
        else
          if l1 = 4 then
            (xgP h1 (some l0) 12 31 1).bind fun v12 =>
            (xaI h1 v12 100 4).bind fun v13 =>
            some (v13, h1)
          else
            if l1 = 5 then
              X12_count_L110 F F l0 0 0 h1
            else
              if l1 = 6 then
                (xgP h1 (some l0) 12 31 1).bind fun v14 =>
                (xaI h1 v14 100 5).bind fun v15 =>
                some (v15, h1)
              else
                if l1 = 7 then
                  (xrc h1 (some l0) 12 31).bind fun a18 =>
                  xb (X12_sumOf F a18 15 h1) fun v16 h17 =>
                  some (v16, h17)
                else
                  if l1 = 8 then
                    (xrc h1 (some l0) 12 31).bind fun a21 =>
                    xb (X12_sumOf F a21 14 h1) fun v19 h20 =>
                    some (v19, h20)
                  else
                    if l1 = 9 then
                      (xgP h1 (some l0) 12 31 1).bind fun v22 =>
                      (xaI h1 v22 100 11275).bind fun v23 =>
                      some (v23, h1)
                    else
                      if l1 = 10 then
                        (xgP h1 (some l0) 12 31 1).bind fun v24 =>
                        (xaI h1 v24 100 6).bind fun v25 =>
                        some (v25, h1)
                      else
                        if l1 = 11 then
                          (xgP h1 (some l0) 12 31 1).bind fun v26 =>
                          (xaI h1 v26 100 10753).bind fun v27 =>
                          some (v27, h1)
                        else
                          if l1 = 12 then
                            (xgP h1 (some l0) 12 31 1).bind fun v28 =>
                            (xaI h1 v28 100 7).bind fun v29 =>
                            some (v29, h1)
                          else
                            some ((-1), h1)
set_option maxRecDepth 100000 in
theorem SX12_count {K : Ctx} {F : Nat} {r : Int} {hf : HP}     (l0 : Nat) (l1 : Int)  (h : HP) (E : X12_count F   l0 l1 h = some (r, hf)) : Go K MX12_count (QM K (some (vi r)) hf) hf 0 [(0, vr (some l0)), (1, vi l1)] [] h := by
  unfold X12_count at E
  refine go_aload_n (j := 0) (n := 1) rfl rfl dX12_count_0 rfl ?_
  refine go_iconst (z := 0) (n := 2) ⟨by decide, by decide⟩ dX12_count_1 rfl ?_
  replace E := Option.bind_eq_some_iff.mp E; obtain ⟨h1, eh1, E⟩ := E
  refine go_putI (n := 5) eh1 fl_RX12_3 rfl dX12_count_2 rfl ?_
  refine go_iconst (z := 0) (n := 6) ⟨by decide, by decide⟩ dX12_count_5 rfl ?_
  refine go_istore_n (n := 7) (lv' := [(2, vi 0), (0, vr (some l0)), (1, vi l1)]) rfl dX12_count_6 rfl (Nat.le_of_ble_eq_true rfl) rfl ?_
  refine go_iload_n (j := 2) (n := 8) rfl rfl dX12_count_7 rfl ?_
  by_cases c30 : l1 = 0
  · rw [if_pos c30] at E
    refine go_tableIn (tgt := 76) dX12_count_8 (by omega) (by omega) (by rw [c30]; rfl) rfl ?_
    refine go_aload_n (j := 1) (n := 77) rfl rfl dX12_count_76 rfl ?_
    replace E := Option.bind_eq_some_iff.mp E; obtain ⟨a4, ea4, E⟩ := E
    obtain ⟨fa4, ga4⟩ := xrc_some ea4
    replace E := xb_some E; obtain ⟨v2, h3, ev2, E⟩ := E
    refine go_callV (y := yX12_now) (n := 80) (st := []) (as := []) (stk9 := [vi v2]) (OX12_now ev2) yw_X12_now ci_12 ga4 wml_RX12_83 wim_X12_now wse_X12_now (Nat.le_of_ble_eq_true rfl) rfl ⟨Nat.le_of_ble_eq_true rfl, Nat.le_of_ble_eq_true rfl⟩ (Nat.le_of_ble_eq_true rfl) dX12_count_77 rfl (by cases fa4; rfl) rfl ?_
    cases E
    exact go_ireturn rfl dX12_count_80
  rw [if_neg c30] at E
  by_cases c31 : l1 = 1
  · rw [if_pos c31] at E
    refine go_tableIn (tgt := 81) dX12_count_8 (by omega) (by omega) (by rw [c31]; rfl) rfl ?_
    refine go_aload_n (j := 1) (n := 82) rfl rfl dX12_count_81 rfl ?_
    replace E := Option.bind_eq_some_iff.mp E; obtain ⟨v5, ev5, E⟩ := E
    refine go_getP (n := 85) ev5 fl_RX12_14 rfl dX12_count_82 rfl ?_
    refine go_bipush (z := 8) (n := 87) ⟨by decide, by decide⟩ dX12_count_85 rfl ?_
    replace E := Option.bind_eq_some_iff.mp E; obtain ⟨v6, ev6, E⟩ := E
    refine go_iaload (n := 88) ev6 dX12_count_87 rfl ?_
    cases E
    exact go_ireturn rfl dX12_count_88
  rw [if_neg c31] at E
  by_cases c32 : l1 = 2
  · rw [if_pos c32] at E
    refine go_tableIn (tgt := 89) dX12_count_8 (by omega) (by omega) (by rw [c32]; rfl) rfl ?_
    refine go_aload_n (j := 1) (n := 90) rfl rfl dX12_count_89 rfl ?_
    replace E := Option.bind_eq_some_iff.mp E; obtain ⟨a9, ea9, E⟩ := E
    obtain ⟨fa9, ga9⟩ := xrc_some ea9
    replace E := xb_some E; obtain ⟨v7, h8, ev7, E⟩ := E
    refine go_callV (y := yX12_writings) (n := 93) (st := []) (as := []) (stk9 := [vi v7]) (OX12_writings ev7) yw_X12_writings ci_12 ga9 wml_RX12_79 wim_X12_writings wse_X12_writings (Nat.le_of_ble_eq_true rfl) rfl ⟨Nat.le_of_ble_eq_true rfl, Nat.le_of_ble_eq_true rfl⟩ (Nat.le_of_ble_eq_true rfl) dX12_count_90 rfl (by cases fa9; rfl) rfl ?_
    cases E
    exact go_ireturn rfl dX12_count_93
  rw [if_neg c32] at E
  by_cases c33 : l1 = 3
  · rw [if_pos c33] at E
    refine go_tableIn (tgt := 94) dX12_count_8 (by omega) (by omega) (by rw [c33]; rfl) rfl ?_
    refine go_aload_n (j := 1) (n := 95) rfl rfl dX12_count_94 rfl ?_
    replace E := Option.bind_eq_some_iff.mp E; obtain ⟨v10, ev10, E⟩ := E
    refine go_getP (n := 98) ev10 fl_RX12_14 rfl dX12_count_95 rfl ?_
    refine go_iconst (z := 3) (n := 99) ⟨by decide, by decide⟩ dX12_count_98 rfl ?_
    replace E := Option.bind_eq_some_iff.mp E; obtain ⟨v11, ev11, E⟩ := E
    refine go_iaload (n := 100) ev11 dX12_count_99 rfl ?_
    cases E
    exact go_ireturn rfl dX12_count_100
  rw [if_neg c33] at E
  by_cases c34 : l1 = 4
  · rw [if_pos c34] at E
    refine go_tableIn (tgt := 101) dX12_count_8 (by omega) (by omega) (by rw [c34]; rfl) rfl ?_
    refine go_aload_n (j := 1) (n := 102) rfl rfl dX12_count_101 rfl ?_
    replace E := Option.bind_eq_some_iff.mp E; obtain ⟨v12, ev12, E⟩ := E
    refine go_getP (n := 105) ev12 fl_RX12_14 rfl dX12_count_102 rfl ?_
    refine go_iconst (z := 4) (n := 106) ⟨by decide, by decide⟩ dX12_count_105 rfl ?_
    replace E := Option.bind_eq_some_iff.mp E; obtain ⟨v13, ev13, E⟩ := E
    refine go_iaload (n := 107) ev13 dX12_count_106 rfl ?_
    cases E
    exact go_ireturn rfl dX12_count_107
  rw [if_neg c34] at E
  by_cases c35 : l1 = 5
  · rw [if_pos c35] at E
    refine go_tableIn (tgt := 108) dX12_count_8 (by omega) (by omega) (by rw [c35]; rfl) rfl ?_
    refine go_iconst (z := 0) (n := 109) ⟨by decide, by decide⟩ dX12_count_108 rfl ?_
    refine go_istore_n (n := 110) (lv' := [(3, vi 0), (2, vi 0), (0, vr (some l0)), (1, vi l1)]) rfl dX12_count_109 rfl (Nat.le_of_ble_eq_true rfl) rfl ?_
    refine go_pick (lv' := [(0, vr (some l0)), (2, vi 0), (3, vi 0)]) [2, 1, 0] rfl ?_
    exact SX12_count_L110     F _ _ _ _ E
  rw [if_neg c35] at E
  by_cases c36 : l1 = 6
  · rw [if_pos c36] at E
    refine go_tableIn (tgt := 147) dX12_count_8 (by omega) (by omega) (by rw [c36]; rfl) rfl ?_
    refine go_aload_n (j := 1) (n := 148) rfl rfl dX12_count_147 rfl ?_
    replace E := Option.bind_eq_some_iff.mp E; obtain ⟨v14, ev14, E⟩ := E
    refine go_getP (n := 151) ev14 fl_RX12_14 rfl dX12_count_148 rfl ?_
    refine go_iconst (z := 5) (n := 152) ⟨by decide, by decide⟩ dX12_count_151 rfl ?_
    replace E := Option.bind_eq_some_iff.mp E; obtain ⟨v15, ev15, E⟩ := E
    refine go_iaload (n := 153) ev15 dX12_count_152 rfl ?_
    cases E
    exact go_ireturn rfl dX12_count_153
  rw [if_neg c36] at E
  by_cases c37 : l1 = 7
  · rw [if_pos c37] at E
    refine go_tableIn (tgt := 154) dX12_count_8 (by omega) (by omega) (by rw [c37]; rfl) rfl ?_
    refine go_aload_n (j := 1) (n := 155) rfl rfl dX12_count_154 rfl ?_
    refine go_bipush (z := 15) (n := 157) ⟨by decide, by decide⟩ dX12_count_155 rfl ?_
    replace E := Option.bind_eq_some_iff.mp E; obtain ⟨a18, ea18, E⟩ := E
    obtain ⟨fa18, ga18⟩ := xrc_some ea18
    replace E := xb_some E; obtain ⟨v16, h17, ev16, E⟩ := E
    refine go_callV (y := yX12_sumOf) (n := 160) (st := []) (as := [vi 15]) (stk9 := [vi v16]) (OX12_sumOf ev16) yw_X12_sumOf ci_12 ga18 wml_RX12_404 wim_X12_sumOf wse_X12_sumOf (Nat.le_of_ble_eq_true rfl) rfl ⟨Nat.le_of_ble_eq_true rfl, Nat.le_of_ble_eq_true rfl⟩ (Nat.le_of_ble_eq_true rfl) dX12_count_157 rfl (by cases fa18; rfl) rfl ?_
    cases E
    exact go_ireturn rfl dX12_count_160
  rw [if_neg c37] at E
  by_cases c38 : l1 = 8
  · rw [if_pos c38] at E
    refine go_tableIn (tgt := 161) dX12_count_8 (by omega) (by omega) (by rw [c38]; rfl) rfl ?_
    refine go_aload_n (j := 1) (n := 162) rfl rfl dX12_count_161 rfl ?_
    refine go_bipush (z := 14) (n := 164) ⟨by decide, by decide⟩ dX12_count_162 rfl ?_
    replace E := Option.bind_eq_some_iff.mp E; obtain ⟨a21, ea21, E⟩ := E
    obtain ⟨fa21, ga21⟩ := xrc_some ea21
    replace E := xb_some E; obtain ⟨v19, h20, ev19, E⟩ := E
    refine go_callV (y := yX12_sumOf) (n := 167) (st := []) (as := [vi 14]) (stk9 := [vi v19]) (OX12_sumOf ev19) yw_X12_sumOf ci_12 ga21 wml_RX12_404 wim_X12_sumOf wse_X12_sumOf (Nat.le_of_ble_eq_true rfl) rfl ⟨Nat.le_of_ble_eq_true rfl, Nat.le_of_ble_eq_true rfl⟩ (Nat.le_of_ble_eq_true rfl) dX12_count_164 rfl (by cases fa21; rfl) rfl ?_
    cases E
    exact go_ireturn rfl dX12_count_167
  rw [if_neg c38] at E
  by_cases c39 : l1 = 9
  · rw [if_pos c39] at E
    refine go_tableIn (tgt := 168) dX12_count_8 (by omega) (by omega) (by rw [c39]; rfl) rfl ?_
    refine go_aload_n (j := 1) (n := 169) rfl rfl dX12_count_168 rfl ?_
    replace E := Option.bind_eq_some_iff.mp E; obtain ⟨v22, ev22, E⟩ := E
    refine go_getP (n := 172) ev22 fl_RX12_14 rfl dX12_count_169 rfl ?_
    refine go_sipush (z := 11275) (n := 175) ⟨by decide, by decide⟩ dX12_count_172 rfl ?_
    replace E := Option.bind_eq_some_iff.mp E; obtain ⟨v23, ev23, E⟩ := E
    refine go_iaload (n := 176) ev23 dX12_count_175 rfl ?_
    cases E
    exact go_ireturn rfl dX12_count_176
  rw [if_neg c39] at E
  by_cases c40 : l1 = 10
  · rw [if_pos c40] at E
    refine go_tableIn (tgt := 177) dX12_count_8 (by omega) (by omega) (by rw [c40]; rfl) rfl ?_
    refine go_aload_n (j := 1) (n := 178) rfl rfl dX12_count_177 rfl ?_
    replace E := Option.bind_eq_some_iff.mp E; obtain ⟨v24, ev24, E⟩ := E
    refine go_getP (n := 181) ev24 fl_RX12_14 rfl dX12_count_178 rfl ?_
    refine go_bipush (z := 6) (n := 183) ⟨by decide, by decide⟩ dX12_count_181 rfl ?_
    replace E := Option.bind_eq_some_iff.mp E; obtain ⟨v25, ev25, E⟩ := E
    refine go_iaload (n := 184) ev25 dX12_count_183 rfl ?_
    cases E
    exact go_ireturn rfl dX12_count_184
  rw [if_neg c40] at E
  by_cases c41 : l1 = 11
  · rw [if_pos c41] at E
    refine go_tableIn (tgt := 185) dX12_count_8 (by omega) (by omega) (by rw [c41]; rfl) rfl ?_
    refine go_aload_n (j := 1) (n := 186) rfl rfl dX12_count_185 rfl ?_
    replace E := Option.bind_eq_some_iff.mp E; obtain ⟨v26, ev26, E⟩ := E
    refine go_getP (n := 189) ev26 fl_RX12_14 rfl dX12_count_186 rfl ?_
    refine go_sipush (z := 10753) (n := 192) ⟨by decide, by decide⟩ dX12_count_189 rfl ?_
    replace E := Option.bind_eq_some_iff.mp E; obtain ⟨v27, ev27, E⟩ := E
    refine go_iaload (n := 193) ev27 dX12_count_192 rfl ?_
    cases E
    exact go_ireturn rfl dX12_count_193
  rw [if_neg c41] at E
  by_cases c42 : l1 = 12
  · rw [if_pos c42] at E
    refine go_tableIn (tgt := 194) dX12_count_8 (by omega) (by omega) (by rw [c42]; rfl) rfl ?_
    refine go_aload_n (j := 1) (n := 195) rfl rfl dX12_count_194 rfl ?_
    replace E := Option.bind_eq_some_iff.mp E; obtain ⟨v28, ev28, E⟩ := E
    refine go_getP (n := 198) ev28 fl_RX12_14 rfl dX12_count_195 rfl ?_
    refine go_bipush (z := 7) (n := 200) ⟨by decide, by decide⟩ dX12_count_198 rfl ?_
    replace E := Option.bind_eq_some_iff.mp E; obtain ⟨v29, ev29, E⟩ := E
    refine go_iaload (n := 201) ev29 dX12_count_200 rfl ?_
    cases E
    exact go_ireturn rfl dX12_count_201
  rw [if_neg c42] at E
  refine go_tableOut (tgt := 202) dX12_count_8 (by omega) rfl ?_
  refine go_iconst (z := (-1)) (n := 203) ⟨by decide, by decide⟩ dX12_count_202 rfl ?_
  cases E
  exact go_ireturn rfl dX12_count_203
theorem OX12_count {F : Nat} {l0 : Nat} {l1 : Int} {h hf : HP} {r : Int} (e : X12_count F l0 l1 h = some (r, hf)) : Ok MX12_count [vr (some l0), vi l1] (some (vi r)) h hf := fun K _ _ _ => SX12_count l0 l1 h e
