/-! the methods, decompiled: written by dec.py -/
theorem wk_RX12_350 : Cond.constant RX12 350 (Int32.ofInt 100000000) ∈ BW := bw_of 2225 (by decide +kernel) rfl
theorem wk_RX12_351 : Cond.constant RX12 351 (Int32.ofInt 1000000) ∈ BW := bw_of 2226 (by decide +kernel) rfl
abbrev MX12_fleet : MI := (RX12, cX12_fleet, 6, none, 3, none, "fleet")
noncomputable def X12_fleet_L68 (F : Nat)   (l0 : Nat) (l1 : Int) (l2 : Int) (l3 : Int) (l4 : Int) (l5 : Int) (s0 : Int) (s1 : Option Nat) (h : HP) : Option (Unit × HP) :=
  (xrc h s1 12 31).bind fun a3 =>
  xb (X12_throwsIf F a3 s0 1 h) fun v1 h2 =>
  if v1 = 0 then
    (xgP h2 (some l0) 12 31 1).bind fun v5 =>
    (xsI h2 v5 11270 l1).bind fun h6 =>
    (xgP h6 (some l0) 12 31 1).bind fun v7 =>
    (xsI h6 v7 11271 l2).bind fun h8 =>
    (xgP h8 (some l0) 12 31 1).bind fun v9 =>
    (xsI h8 v9 11272 l3).bind fun h10 =>
    (xgP h10 (some l0) 12 31 1).bind fun v11 =>
    (xsI h10 v11 11273 l4).bind fun h12 =>
    (xgP h12 (some l0) 12 31 1).bind fun v13 =>
    (xsI h12 v13 11274 l5).bind fun h14 =>
    some ((), h14)
  else
    some ((), h2)
set_option maxRecDepth 100000 in
theorem SX12_fleet_L68 {K : Ctx} {F : Nat} {r : Unit} {hf : HP}     (l0 : Nat) (l1 : Int) (l2 : Int) (l3 : Int) (l4 : Int) (l5 : Int) (s0 : Int) (s1 : Option Nat) (h : HP) (E : X12_fleet_L68 F   l0 l1 l2 l3 l4 l5 s0 s1 h = some (r, hf)) : Go K MX12_fleet (QM K none hf) hf 68 [(0, vr (some l0)), (1, vi l1), (2, vi l2), (3, vi l3), (4, vi l4), (5, vi l5)] [vi s0, vr s1] h := by
  unfold X12_fleet_L68 at E
  refine go_iconst (z := 1) (n := 69) ⟨by decide, by decide⟩ dX12_fleet_68 rfl ?_
  replace E := Option.bind_eq_some_iff.mp E; obtain ⟨a3, ea3, E⟩ := E
  obtain ⟨fa3, ga3⟩ := xrc_some ea3
  replace E := xb_some E; obtain ⟨v1, h2, ev1, E⟩ := E
  refine go_callV (y := yX12_throwsIf) (n := 72) (st := []) (as := [vi s0, vi 1]) (stk9 := [vi v1]) (OX12_throwsIf ev1) yw_X12_throwsIf ci_12 ga3 wml_RX12_65 wim_X12_throwsIf wse_X12_throwsIf (Nat.le_of_ble_eq_true rfl) rfl ⟨Nat.le_of_ble_eq_true rfl, Nat.le_of_ble_eq_true rfl⟩ (Nat.le_of_ble_eq_true rfl) dX12_fleet_69 rfl (by cases fa3; rfl) rfl ?_
  refine go_if_eq (tgt := 76) (n := 75) dX12_fleet_72 rfl rfl (fun c4 => ?_) (fun c4 => ?_)
  · rw [if_pos c4] at E
    refine go_aload_n (j := 0) (n := 77) rfl rfl dX12_fleet_76 rfl ?_
    replace E := Option.bind_eq_some_iff.mp E; obtain ⟨v5, ev5, E⟩ := E
    refine go_getP (n := 80) ev5 fl_RX12_14 rfl dX12_fleet_77 rfl ?_
    refine go_sipush (z := 11270) (n := 83) ⟨by decide, by decide⟩ dX12_fleet_80 rfl ?_
    refine go_iload_n (j := 1) (n := 84) rfl rfl dX12_fleet_83 rfl ?_
    replace E := Option.bind_eq_some_iff.mp E; obtain ⟨h6, eh6, E⟩ := E
    refine go_iastore (n := 85) eh6 dX12_fleet_84 rfl ?_
    refine go_aload_n (j := 0) (n := 86) rfl rfl dX12_fleet_85 rfl ?_
    replace E := Option.bind_eq_some_iff.mp E; obtain ⟨v7, ev7, E⟩ := E
    refine go_getP (n := 89) ev7 fl_RX12_14 rfl dX12_fleet_86 rfl ?_
    refine go_sipush (z := 11271) (n := 92) ⟨by decide, by decide⟩ dX12_fleet_89 rfl ?_
    refine go_iload_n (j := 2) (n := 93) rfl rfl dX12_fleet_92 rfl ?_
    replace E := Option.bind_eq_some_iff.mp E; obtain ⟨h8, eh8, E⟩ := E
    refine go_iastore (n := 94) eh8 dX12_fleet_93 rfl ?_
    refine go_aload_n (j := 0) (n := 95) rfl rfl dX12_fleet_94 rfl ?_
    replace E := Option.bind_eq_some_iff.mp E; obtain ⟨v9, ev9, E⟩ := E
    refine go_getP (n := 98) ev9 fl_RX12_14 rfl dX12_fleet_95 rfl ?_
    refine go_sipush (z := 11272) (n := 101) ⟨by decide, by decide⟩ dX12_fleet_98 rfl ?_
    refine go_iload_n (j := 3) (n := 102) rfl rfl dX12_fleet_101 rfl ?_
    replace E := Option.bind_eq_some_iff.mp E; obtain ⟨h10, eh10, E⟩ := E
    refine go_iastore (n := 103) eh10 dX12_fleet_102 rfl ?_
    refine go_aload_n (j := 0) (n := 104) rfl rfl dX12_fleet_103 rfl ?_
    replace E := Option.bind_eq_some_iff.mp E; obtain ⟨v11, ev11, E⟩ := E
    refine go_getP (n := 107) ev11 fl_RX12_14 rfl dX12_fleet_104 rfl ?_
    refine go_sipush (z := 11273) (n := 110) ⟨by decide, by decide⟩ dX12_fleet_107 rfl ?_
    refine go_iload (j := 4) (n := 112) rfl dX12_fleet_110 rfl ?_
    replace E := Option.bind_eq_some_iff.mp E; obtain ⟨h12, eh12, E⟩ := E
    refine go_iastore (n := 113) eh12 dX12_fleet_112 rfl ?_
    refine go_aload_n (j := 0) (n := 114) rfl rfl dX12_fleet_113 rfl ?_
    replace E := Option.bind_eq_some_iff.mp E; obtain ⟨v13, ev13, E⟩ := E
    refine go_getP (n := 117) ev13 fl_RX12_14 rfl dX12_fleet_114 rfl ?_
    refine go_sipush (z := 11274) (n := 120) ⟨by decide, by decide⟩ dX12_fleet_117 rfl ?_
    refine go_iload (j := 5) (n := 122) rfl dX12_fleet_120 rfl ?_
    replace E := Option.bind_eq_some_iff.mp E; obtain ⟨h14, eh14, E⟩ := E
    refine go_iastore (n := 123) eh14 dX12_fleet_122 rfl ?_
    cases E
    exact go_return rfl dX12_fleet_123
  · rw [if_neg c4] at E
    cases E
    exact go_return rfl dX12_fleet_75
noncomputable def X12_fleet_L63 (F : Nat)   (l0 : Nat) (l1 : Int) (l2 : Int) (l3 : Int) (l4 : Int) (l5 : Int) (s0 : Option Nat) (h : HP) : Option (Unit × HP) :=
  X12_fleet_L68 F l0 l1 l2 l3 l4 l5 1 s0 h
set_option maxRecDepth 100000 in
theorem SX12_fleet_L63 {K : Ctx} {F : Nat} {r : Unit} {hf : HP}     (l0 : Nat) (l1 : Int) (l2 : Int) (l3 : Int) (l4 : Int) (l5 : Int) (s0 : Option Nat) (h : HP) (E : X12_fleet_L63 F   l0 l1 l2 l3 l4 l5 s0 h = some (r, hf)) : Go K MX12_fleet (QM K none hf) hf 63 [(0, vr (some l0)), (1, vi l1), (2, vi l2), (3, vi l3), (4, vi l4), (5, vi l5)] [vr s0] h := by
  unfold X12_fleet_L63 at E
  refine go_iconst (z := 1) (n := 64) ⟨by decide, by decide⟩ dX12_fleet_63 rfl ?_
  refine go_goto (tgt := 68) dX12_fleet_64 rfl ?_
  exact SX12_fleet_L68     _ _ _ _ _ _ _ _ _ E
noncomputable def X12_fleet (F : Nat)   (l0 : Nat) (l1 : Int) (l2 : Int) (l3 : Int) (l4 : Int) (l5 : Int)  (h : HP) : Option (Unit × HP) :=
  (xpI h (some l0) 12 31 0 0).bind fun h1 =>
  xb (X12_in F l1 0 100000000 h1) fun v2 h3 =>
  if v2 = 0 then
    X12_fleet_L63 F l0 l1 l2 l3 l4 l5 (some l0) h3
  else
    xb (X12_in F l2 0 100000000 h3) fun v5 h6 =>
    if v5 = 0 then
      X12_fleet_L63 F l0 l1 l2 l3 l4 l5 (some l0) h6
    else
      xb (X12_in F l3 0 100000000 h6) fun v8 h9 =>
      if v8 = 0 then
        X12_fleet_L63 F l0 l1 l2 l3 l4 l5 (some l0) h9
      else
        xb (X12_in F l4 0 1000000 h9) fun v11 h12 =>
        if v11 = 0 then
          X12_fleet_L63 F l0 l1 l2 l3 l4 l5 (some l0) h12
        else
          xb (X12_in F l5 0 1000000 h12) fun v14 h15 =>
          if v14 = 0 then
            X12_fleet_L63 F l0 l1 l2 l3 l4 l5 (some l0) h15
          else
            X12_fleet_L68 F l0 l1 l2 l3 l4 l5 0 (some l0) h15
set_option maxRecDepth 100000 in
theorem SX12_fleet {K : Ctx} {F : Nat} {r : Unit} {hf : HP}     (l0 : Nat) (l1 : Int) (l2 : Int) (l3 : Int) (l4 : Int) (l5 : Int)  (h : HP) (E : X12_fleet F   l0 l1 l2 l3 l4 l5 h = some (r, hf)) : Go K MX12_fleet (QM K none hf) hf 0 [(0, vr (some l0)), (1, vi l1), (2, vi l2), (3, vi l3), (4, vi l4), (5, vi l5)] [] h := by
  unfold X12_fleet at E
  refine go_aload_n (j := 0) (n := 1) rfl rfl dX12_fleet_0 rfl ?_
  refine go_iconst (z := 0) (n := 2) ⟨by decide, by decide⟩ dX12_fleet_1 rfl ?_
  replace E := Option.bind_eq_some_iff.mp E; obtain ⟨h1, eh1, E⟩ := E
  refine go_putI (n := 5) eh1 fl_RX12_3 rfl dX12_fleet_2 rfl ?_
  refine go_aload_n (j := 0) (n := 6) rfl rfl dX12_fleet_5 rfl ?_
  refine go_iload_n (j := 1) (n := 7) rfl rfl dX12_fleet_6 rfl ?_
  refine go_iconst (z := 0) (n := 8) ⟨by decide, by decide⟩ dX12_fleet_7 rfl ?_
  refine go_ldcw (z := 100000000) (n := 11) ⟨by decide, by decide⟩ wk_RX12_350 dX12_fleet_8 rfl ?_
  replace E := xb_some E; obtain ⟨v2, h3, ev2, E⟩ := E
  refine go_callS (y := yX12_in) (n := 14) (st := [vr (some l0)]) (as := [vi l1, vi 0, vi 100000000]) (stk9 := [vi v2, vr (some l0)]) (OX12_in ev2) yw_X12_in wml_RX12_61 wst_X12_in (Nat.le_of_ble_eq_true rfl) rfl ⟨Nat.le_of_ble_eq_true rfl, Nat.le_of_ble_eq_true rfl⟩ (Nat.le_of_ble_eq_true rfl) dX12_fleet_11 rfl rfl rfl ?_
  refine go_if_eq (tgt := 63) (n := 17) dX12_fleet_14 rfl rfl (fun c4 => ?_) (fun c4 => ?_)
  · rw [if_pos c4] at E
    exact SX12_fleet_L63     _ _ _ _ _ _ _ _ E
  · rw [if_neg c4] at E
    refine go_iload_n (j := 2) (n := 18) rfl rfl dX12_fleet_17 rfl ?_
    refine go_iconst (z := 0) (n := 19) ⟨by decide, by decide⟩ dX12_fleet_18 rfl ?_
    refine go_ldcw (z := 100000000) (n := 22) ⟨by decide, by decide⟩ wk_RX12_350 dX12_fleet_19 rfl ?_
    replace E := xb_some E; obtain ⟨v5, h6, ev5, E⟩ := E
    refine go_callS (y := yX12_in) (n := 25) (st := [vr (some l0)]) (as := [vi l2, vi 0, vi 100000000]) (stk9 := [vi v5, vr (some l0)]) (OX12_in ev5) yw_X12_in wml_RX12_61 wst_X12_in (Nat.le_of_ble_eq_true rfl) rfl ⟨Nat.le_of_ble_eq_true rfl, Nat.le_of_ble_eq_true rfl⟩ (Nat.le_of_ble_eq_true rfl) dX12_fleet_22 rfl rfl rfl ?_
    refine go_if_eq (tgt := 63) (n := 28) dX12_fleet_25 rfl rfl (fun c7 => ?_) (fun c7 => ?_)
    · rw [if_pos c7] at E
      exact SX12_fleet_L63     _ _ _ _ _ _ _ _ E
    · rw [if_neg c7] at E
      refine go_iload_n (j := 3) (n := 29) rfl rfl dX12_fleet_28 rfl ?_
      refine go_iconst (z := 0) (n := 30) ⟨by decide, by decide⟩ dX12_fleet_29 rfl ?_
      refine go_ldcw (z := 100000000) (n := 33) ⟨by decide, by decide⟩ wk_RX12_350 dX12_fleet_30 rfl ?_
      replace E := xb_some E; obtain ⟨v8, h9, ev8, E⟩ := E
      refine go_callS (y := yX12_in) (n := 36) (st := [vr (some l0)]) (as := [vi l3, vi 0, vi 100000000]) (stk9 := [vi v8, vr (some l0)]) (OX12_in ev8) yw_X12_in wml_RX12_61 wst_X12_in (Nat.le_of_ble_eq_true rfl) rfl ⟨Nat.le_of_ble_eq_true rfl, Nat.le_of_ble_eq_true rfl⟩ (Nat.le_of_ble_eq_true rfl) dX12_fleet_33 rfl rfl rfl ?_
      refine go_if_eq (tgt := 63) (n := 39) dX12_fleet_36 rfl rfl (fun c10 => ?_) (fun c10 => ?_)
      · rw [if_pos c10] at E
        exact SX12_fleet_L63     _ _ _ _ _ _ _ _ E
      · rw [if_neg c10] at E
        refine go_iload (j := 4) (n := 41) rfl dX12_fleet_39 rfl ?_
        refine go_iconst (z := 0) (n := 42) ⟨by decide, by decide⟩ dX12_fleet_41 rfl ?_
        refine go_ldcw (z := 1000000) (n := 45) ⟨by decide, by decide⟩ wk_RX12_351 dX12_fleet_42 rfl ?_
        replace E := xb_some E; obtain ⟨v11, h12, ev11, E⟩ := E
        refine go_callS (y := yX12_in) (n := 48) (st := [vr (some l0)]) (as := [vi l4, vi 0, vi 1000000]) (stk9 := [vi v11, vr (some l0)]) (OX12_in ev11) yw_X12_in wml_RX12_61 wst_X12_in (Nat.le_of_ble_eq_true rfl) rfl ⟨Nat.le_of_ble_eq_true rfl, Nat.le_of_ble_eq_true rfl⟩ (Nat.le_of_ble_eq_true rfl) dX12_fleet_45 rfl rfl rfl ?_
        refine go_if_eq (tgt := 63) (n := 51) dX12_fleet_48 rfl rfl (fun c13 => ?_) (fun c13 => ?_)
        · rw [if_pos c13] at E
          exact SX12_fleet_L63     _ _ _ _ _ _ _ _ E
        · rw [if_neg c13] at E
          refine go_iload (j := 5) (n := 53) rfl dX12_fleet_51 rfl ?_
          refine go_iconst (z := 0) (n := 54) ⟨by decide, by decide⟩ dX12_fleet_53 rfl ?_
          refine go_ldcw (z := 1000000) (n := 57) ⟨by decide, by decide⟩ wk_RX12_351 dX12_fleet_54 rfl ?_
          replace E := xb_some E; obtain ⟨v14, h15, ev14, E⟩ := E
          refine go_callS (y := yX12_in) (n := 60) (st := [vr (some l0)]) (as := [vi l5, vi 0, vi 1000000]) (stk9 := [vi v14, vr (some l0)]) (OX12_in ev14) yw_X12_in wml_RX12_61 wst_X12_in (Nat.le_of_ble_eq_true rfl) rfl ⟨Nat.le_of_ble_eq_true rfl, Nat.le_of_ble_eq_true rfl⟩ (Nat.le_of_ble_eq_true rfl) dX12_fleet_57 rfl rfl rfl ?_
          refine go_if_ne (tgt := 67) (n := 63) dX12_fleet_60 rfl rfl (fun c16 => ?_) (fun c16 => ?_)
          · rw [if_neg c16] at E
            refine go_iconst (z := 0) (n := 68) ⟨by decide, by decide⟩ dX12_fleet_67 rfl ?_
            exact SX12_fleet_L68     _ _ _ _ _ _ _ _ _ E
          · rw [if_pos c16] at E
            exact SX12_fleet_L63     _ _ _ _ _ _ _ _ E
theorem OX12_fleet {F : Nat} {l0 : Nat} {l1 : Int} {l2 : Int} {l3 : Int} {l4 : Int} {l5 : Int} {h hf : HP} {r : Unit} (e : X12_fleet F l0 l1 l2 l3 l4 l5 h = some (r, hf)) : Ok MX12_fleet [vr (some l0), vi l1, vi l2, vi l3, vi l4, vi l5] none h hf := fun K _ _ _ => SX12_fleet l0 l1 l2 l3 l4 l5 h e
abbrev MX12_wants : MI := (RX12, cX12_wants, 3, (some .long), 2, none, "wants")
noncomputable def X12_wants (F : Nat)   (l0 : Nat) (l1 : Int) (l2 : Int)  (h : HP) : Option (Int × HP) :=
  (xgP h (some l0) 12 31 1).bind fun v1 =>
  (xaI h v1 100 (w32 ((w32 (9 + (w32 (4 * l1)))) + l2))).bind fun v2 =>
  some ((max 0 v2), h)
set_option maxRecDepth 100000 in
theorem SX12_wants {K : Ctx} {F : Nat} {r : Int} {hf : HP}     (l0 : Nat) (l1 : Int) (l2 : Int)  (h : HP) (E : X12_wants F   l0 l1 l2 h = some (r, hf)) : Go K MX12_wants (QM K (some (vl r)) hf) hf 0 [(0, vr (some l0)), (1, vi l1), (2, vi l2)] [] h := by
  unfold X12_wants at E
  refine go_iconst (z := 0) (n := 1) ⟨by decide, by decide⟩ dX12_wants_0 rfl ?_
  refine go_aload_n (j := 0) (n := 2) rfl rfl dX12_wants_1 rfl ?_
  replace E := Option.bind_eq_some_iff.mp E; obtain ⟨v1, ev1, E⟩ := E
  refine go_getP (n := 5) ev1 fl_RX12_14 rfl dX12_wants_2 rfl ?_
  refine go_bipush (z := 9) (n := 7) ⟨by decide, by decide⟩ dX12_wants_5 rfl ?_
  refine go_iconst (z := 4) (n := 8) ⟨by decide, by decide⟩ dX12_wants_7 rfl ?_
  refine go_iload_n (j := 1) (n := 9) rfl rfl dX12_wants_8 rfl ?_
  refine go_imul (n := 10) dX12_wants_9 rfl ?_
  refine go_iadd (n := 11) dX12_wants_10 rfl ?_
  refine go_iload_n (j := 2) (n := 12) rfl rfl dX12_wants_11 rfl ?_
  refine go_iadd (n := 13) dX12_wants_12 rfl ?_
  replace E := Option.bind_eq_some_iff.mp E; obtain ⟨v2, ev2, E⟩ := E
  refine go_iaload (n := 14) ev2 dX12_wants_13 rfl ?_
  refine go_mmax (n := 17) wml_RX12_345 jm_max_i (Nat.le_of_ble_eq_true rfl) (Nat.le_of_ble_eq_true rfl) dX12_wants_14 rfl ?_
  refine go_i2l (n := 18) dX12_wants_17 rfl ?_
  cases E
  exact go_lreturn rfl dX12_wants_18
theorem OX12_wants {F : Nat} {l0 : Nat} {l1 : Int} {l2 : Int} {h hf : HP} {r : Int} (e : X12_wants F l0 l1 l2 h = some (r, hf)) : Ok MX12_wants [vr (some l0), vi l1, vi l2] (some (vl r)) h hf := fun K _ _ _ => SX12_wants l0 l1 l2 h e
theorem yw_X12_wants : YW yX12_wants cX12_wants 3 (some .long) 2 := ⟨bw_of 2239 (by decide +kernel) rfl, bw_of 129 (by decide +kernel) rfl, ⟨by decide +kernel, by decide +kernel, by decide +kernel⟩, by decide +kernel⟩
theorem wml_RX12_352 : Cond.methodLink RX12 352 yX12_wants ∈ BW := bw_of 2236 (by decide +kernel) rfl
theorem wim_X12_wants : Cond.instanceMethod yX12_wants ∈ BW := bw_of 2238 (by decide +kernel) rfl
theorem wse_X12_wants : Cond.selects RX12 yX12_wants yX12_wants ∈ BW := bw_of 106 (by decide +kernel) rfl
abbrev MX12_loadOf : MI := (RX12, cX12_loadOf, 5, (some .long), 3, none, "loadOf")
noncomputable def X12_loadOf_L5 (F : Nat)   (k : Nat) : Nat → Int → Int → Int → HP → Option (Int × HP) :=
  Nat.rec (motive := fun _ => Nat → Int → Int → Int → HP → Option (Int × HP)) (fun _ _ _ _ _ => none) (fun _ rc5 l0 l1 l2 l4 h =>
    if 4 ≤ l4 then
      some (l2, h)
    else
      (xrc h (some l0) 12 31).bind fun a4 =>
      xb (X12_wants F a4 l1 l4 h) fun v2 h3 =>
      (xgP h3 (some l0) 12 31 1).bind fun v5 =>
      (xaI h3 v5 100 (w32 ((w32 (11254 + (w32 (4 * l4)))) + 2))).bind fun v6 =>
      rc5 l0 l1 (w64 (l2 + (w64 (v2 * v6)))) (w32 (l4 + 1)) h3) k
theorem X12_loadOf_L5_s (F : Nat)   (k : Nat) (l0 : Nat) (l1 : Int) (l2 : Int) (l4 : Int)  (h : HP) : X12_loadOf_L5 F   (k + 1) l0 l1 l2 l4 h =
    if 4 ≤ l4 then
      some (l2, h)
    else
      (xrc h (some l0) 12 31).bind fun a4 =>
      xb (X12_wants F a4 l1 l4 h) fun v2 h3 =>
      (xgP h3 (some l0) 12 31 1).bind fun v5 =>
      (xaI h3 v5 100 (w32 ((w32 (11254 + (w32 (4 * l4)))) + 2))).bind fun v6 =>
      (X12_loadOf_L5 F k) l0 l1 (w64 (l2 + (w64 (v2 * v6)))) (w32 (l4 + 1)) h3 := rfl
set_option maxRecDepth 100000 in
theorem SX12_loadOf_L5 {K : Ctx} {F : Nat} {r : Int} {hf : HP}     : ∀ (k : Nat) (l0 : Nat) (l1 : Int) (l2 : Int) (l4 : Int)  (h : HP), X12_loadOf_L5 F   k l0 l1 l2 l4 h = some (r, hf) → Go K MX12_loadOf (QM K (some (vl r)) hf) hf 5 [(0, vr (some l0)), (1, vi l1), (2, vl l2), (4, vi l4)] [] h := by
  intro k
  induction k with
  | zero => intro l0 l1 l2 l4 h E; exact nomatch E
  | succ k hrc5 =>
    intro l0 l1 l2 l4 h E
    rw [X12_loadOf_L5_s] at E
    refine go_iload (j := 3) (n := 7) rfl dX12_loadOf_5 rfl ?_
    refine go_iconst (z := 4) (n := 8) ⟨by decide, by decide⟩ dX12_loadOf_7 rfl ?_
    refine go_icmp_ge (tgt := 44) (n := 11) dX12_loadOf_8 rfl rfl (fun c1 => ?_) (fun c1 => ?_)
    · rw [if_pos c1] at E
      refine go_lload_n (j := 2) (n := 45) rfl rfl dX12_loadOf_44 rfl ?_
      cases E
      exact go_lreturn rfl dX12_loadOf_45
    · rw [if_neg c1] at E
      refine go_lload_n (j := 2) (n := 12) rfl rfl dX12_loadOf_11 rfl ?_
      refine go_aload_n (j := 0) (n := 13) rfl rfl dX12_loadOf_12 rfl ?_
      refine go_iload_n (j := 1) (n := 14) rfl rfl dX12_loadOf_13 rfl ?_
      refine go_iload (j := 3) (n := 16) rfl dX12_loadOf_14 rfl ?_
      replace E := Option.bind_eq_some_iff.mp E; obtain ⟨a4, ea4, E⟩ := E
      obtain ⟨fa4, ga4⟩ := xrc_some ea4
      replace E := xb_some E; obtain ⟨v2, h3, ev2, E⟩ := E
      refine go_callV (y := yX12_wants) (n := 19) (st := [vl l2]) (as := [vi l1, vi l4]) (stk9 := [vl v2, vl l2]) (OX12_wants ev2) yw_X12_wants ci_12 ga4 wml_RX12_352 wim_X12_wants wse_X12_wants (Nat.le_of_ble_eq_true rfl) rfl ⟨Nat.le_of_ble_eq_true rfl, Nat.le_of_ble_eq_true rfl⟩ (Nat.le_of_ble_eq_true rfl) dX12_loadOf_16 rfl (by cases fa4; rfl) rfl ?_
      refine go_aload_n (j := 0) (n := 20) rfl rfl dX12_loadOf_19 rfl ?_
      replace E := Option.bind_eq_some_iff.mp E; obtain ⟨v5, ev5, E⟩ := E
      refine go_getP (n := 23) ev5 fl_RX12_14 rfl dX12_loadOf_20 rfl ?_
      refine go_sipush (z := 11254) (n := 26) ⟨by decide, by decide⟩ dX12_loadOf_23 rfl ?_
      refine go_iconst (z := 4) (n := 27) ⟨by decide, by decide⟩ dX12_loadOf_26 rfl ?_
      refine go_iload (j := 3) (n := 29) rfl dX12_loadOf_27 rfl ?_
      refine go_imul (n := 30) dX12_loadOf_29 rfl ?_
      refine go_iadd (n := 31) dX12_loadOf_30 rfl ?_
      refine go_iconst (z := 2) (n := 32) ⟨by decide, by decide⟩ dX12_loadOf_31 rfl ?_
      refine go_iadd (n := 33) dX12_loadOf_32 rfl ?_
      replace E := Option.bind_eq_some_iff.mp E; obtain ⟨v6, ev6, E⟩ := E
      refine go_iaload (n := 34) ev6 dX12_loadOf_33 rfl ?_
      refine go_i2l (n := 35) dX12_loadOf_34 rfl ?_
      refine go_lmul (n := 36) dX12_loadOf_35 rfl ?_
      refine go_ladd (n := 37) dX12_loadOf_36 rfl ?_
      refine go_lstore_n (n := 38) (lv' := [(2, vl (w64 (l2 + (w64 (v2 * v6))))), (0, vr (some l0)), (1, vi l1), (4, vi l4)]) rfl dX12_loadOf_37 rfl (Nat.le_of_ble_eq_true rfl) rfl ?_
      refine go_iinc (j := 3) (n := 41) (lv' := [(4, vi (w32 (l4 + 1))), (2, vl (w64 (l2 + (w64 (v2 * v6))))), (0, vr (some l0)), (1, vi l1)]) rfl dX12_loadOf_38 rfl (Nat.le_of_ble_eq_true rfl) rfl ?_
      refine go_goto (tgt := 5) dX12_loadOf_41 rfl ?_
      refine go_pick (lv' := [(0, vr (some l0)), (1, vi l1), (2, vl (w64 (l2 + (w64 (v2 * v6))))), (4, vi (w32 (l4 + 1)))]) [2, 3, 1, 0] rfl ?_
      exact hrc5 _ _ _ _ _ E
noncomputable def X12_loadOf (F : Nat)   (l0 : Nat) (l1 : Int)  (h : HP) : Option (Int × HP) :=
  X12_loadOf_L5 F F l0 l1 0 0 h
set_option maxRecDepth 100000 in
theorem SX12_loadOf {K : Ctx} {F : Nat} {r : Int} {hf : HP}     (l0 : Nat) (l1 : Int)  (h : HP) (E : X12_loadOf F   l0 l1 h = some (r, hf)) : Go K MX12_loadOf (QM K (some (vl r)) hf) hf 0 [(0, vr (some l0)), (1, vi l1)] [] h := by
  unfold X12_loadOf at E
  refine go_lconst (w := 0) (n := 1) rfl dX12_loadOf_0 rfl ?_
  refine go_lstore_n (n := 2) (lv' := [(2, vl 0), (0, vr (some l0)), (1, vi l1)]) rfl dX12_loadOf_1 rfl (Nat.le_of_ble_eq_true rfl) rfl ?_
  refine go_iconst (z := 0) (n := 3) ⟨by decide, by decide⟩ dX12_loadOf_2 rfl ?_
  refine go_istore (n := 5) (lv' := [(4, vi 0), (2, vl 0), (0, vr (some l0)), (1, vi l1)]) dX12_loadOf_3 rfl (Nat.le_of_ble_eq_true rfl) rfl ?_
  refine go_pick (lv' := [(0, vr (some l0)), (1, vi l1), (2, vl 0), (4, vi 0)]) [2, 3, 1, 0] rfl ?_
  exact SX12_loadOf_L5     F _ _ _ _ _ E
theorem OX12_loadOf {F : Nat} {l0 : Nat} {l1 : Int} {h hf : HP} {r : Int} (e : X12_loadOf F l0 l1 h = some (r, hf)) : Ok MX12_loadOf [vr (some l0), vi l1] (some (vl r)) h hf := fun K _ _ _ => SX12_loadOf l0 l1 h e
abbrev MX12_numberOf : MI := (RX12, cX12_numberOf, 5, (some .long), 3, none, "numberOf")
noncomputable def X12_numberOf_L5 (F : Nat)   (k : Nat) : Nat → Int → Int → Int → HP → Option (Int × HP) :=
  Nat.rec (motive := fun _ => Nat → Int → Int → Int → HP → Option (Int × HP)) (fun _ _ _ _ _ => none) (fun _ rc5 l0 l1 l2 l4 h =>
    if 4 ≤ l4 then
      some (l2, h)
    else
      (xrc h (some l0) 12 31).bind fun a4 =>
      xb (X12_wants F a4 l4 l1 h) fun v2 h3 =>
      rc5 l0 l1 (w64 (l2 + v2)) (w32 (l4 + 1)) h3) k
theorem X12_numberOf_L5_s (F : Nat)   (k : Nat) (l0 : Nat) (l1 : Int) (l2 : Int) (l4 : Int)  (h : HP) : X12_numberOf_L5 F   (k + 1) l0 l1 l2 l4 h =
    if 4 ≤ l4 then
      some (l2, h)
    else
      (xrc h (some l0) 12 31).bind fun a4 =>
      xb (X12_wants F a4 l4 l1 h) fun v2 h3 =>
      (X12_numberOf_L5 F k) l0 l1 (w64 (l2 + v2)) (w32 (l4 + 1)) h3 := rfl
set_option maxRecDepth 100000 in
theorem SX12_numberOf_L5 {K : Ctx} {F : Nat} {r : Int} {hf : HP}     : ∀ (k : Nat) (l0 : Nat) (l1 : Int) (l2 : Int) (l4 : Int)  (h : HP), X12_numberOf_L5 F   k l0 l1 l2 l4 h = some (r, hf) → Go K MX12_numberOf (QM K (some (vl r)) hf) hf 5 [(0, vr (some l0)), (1, vi l1), (2, vl l2), (4, vi l4)] [] h := by
  intro k
  induction k with
  | zero => intro l0 l1 l2 l4 h E; exact nomatch E
  | succ k hrc5 =>
    intro l0 l1 l2 l4 h E
    rw [X12_numberOf_L5_s] at E
    refine go_iload (j := 3) (n := 7) rfl dX12_numberOf_5 rfl ?_
    refine go_iconst (z := 4) (n := 8) ⟨by decide, by decide⟩ dX12_numberOf_7 rfl ?_
    refine go_icmp_ge (tgt := 27) (n := 11) dX12_numberOf_8 rfl rfl (fun c1 => ?_) (fun c1 => ?_)
    · rw [if_pos c1] at E
      refine go_lload_n (j := 2) (n := 28) rfl rfl dX12_numberOf_27 rfl ?_
      cases E
      exact go_lreturn rfl dX12_numberOf_28
    · rw [if_neg c1] at E
      refine go_lload_n (j := 2) (n := 12) rfl rfl dX12_numberOf_11 rfl ?_
      refine go_aload_n (j := 0) (n := 13) rfl rfl dX12_numberOf_12 rfl ?_
      refine go_iload (j := 3) (n := 15) rfl dX12_numberOf_13 rfl ?_
      refine go_iload_n (j := 1) (n := 16) rfl rfl dX12_numberOf_15 rfl ?_
      replace E := Option.bind_eq_some_iff.mp E; obtain ⟨a4, ea4, E⟩ := E
      obtain ⟨fa4, ga4⟩ := xrc_some ea4
      replace E := xb_some E; obtain ⟨v2, h3, ev2, E⟩ := E
      refine go_callV (y := yX12_wants) (n := 19) (st := [vl l2]) (as := [vi l4, vi l1]) (stk9 := [vl v2, vl l2]) (OX12_wants ev2) yw_X12_wants ci_12 ga4 wml_RX12_352 wim_X12_wants wse_X12_wants (Nat.le_of_ble_eq_true rfl) rfl ⟨Nat.le_of_ble_eq_true rfl, Nat.le_of_ble_eq_true rfl⟩ (Nat.le_of_ble_eq_true rfl) dX12_numberOf_16 rfl (by cases fa4; rfl) rfl ?_
      refine go_ladd (n := 20) dX12_numberOf_19 rfl ?_
      refine go_lstore_n (n := 21) (lv' := [(2, vl (w64 (l2 + v2))), (0, vr (some l0)), (1, vi l1), (4, vi l4)]) rfl dX12_numberOf_20 rfl (Nat.le_of_ble_eq_true rfl) rfl ?_
      refine go_iinc (j := 3) (n := 24) (lv' := [(4, vi (w32 (l4 + 1))), (2, vl (w64 (l2 + v2))), (0, vr (some l0)), (1, vi l1)]) rfl dX12_numberOf_21 rfl (Nat.le_of_ble_eq_true rfl) rfl ?_
      refine go_goto (tgt := 5) dX12_numberOf_24 rfl ?_
      refine go_pick (lv' := [(0, vr (some l0)), (1, vi l1), (2, vl (w64 (l2 + v2))), (4, vi (w32 (l4 + 1)))]) [2, 3, 1, 0] rfl ?_
      exact hrc5 _ _ _ _ _ E
noncomputable def X12_numberOf (F : Nat)   (l0 : Nat) (l1 : Int)  (h : HP) : Option (Int × HP) :=
  X12_numberOf_L5 F F l0 l1 0 0 h
set_option maxRecDepth 100000 in
theorem SX12_numberOf {K : Ctx} {F : Nat} {r : Int} {hf : HP}     (l0 : Nat) (l1 : Int)  (h : HP) (E : X12_numberOf F   l0 l1 h = some (r, hf)) : Go K MX12_numberOf (QM K (some (vl r)) hf) hf 0 [(0, vr (some l0)), (1, vi l1)] [] h := by
  unfold X12_numberOf at E
  refine go_lconst (w := 0) (n := 1) rfl dX12_numberOf_0 rfl ?_
  refine go_lstore_n (n := 2) (lv' := [(2, vl 0), (0, vr (some l0)), (1, vi l1)]) rfl dX12_numberOf_1 rfl (Nat.le_of_ble_eq_true rfl) rfl ?_
  refine go_iconst (z := 0) (n := 3) ⟨by decide, by decide⟩ dX12_numberOf_2 rfl ?_
  refine go_istore (n := 5) (lv' := [(4, vi 0), (2, vl 0), (0, vr (some l0)), (1, vi l1)]) dX12_numberOf_3 rfl (Nat.le_of_ble_eq_true rfl) rfl ?_
  refine go_pick (lv' := [(0, vr (some l0)), (1, vi l1), (2, vl 0), (4, vi 0)]) [2, 3, 1, 0] rfl ?_
  exact SX12_numberOf_L5     F _ _ _ _ _ E
theorem OX12_numberOf {F : Nat} {l0 : Nat} {l1 : Int} {h hf : HP} {r : Int} (e : X12_numberOf F l0 l1 h = some (r, hf)) : Ok MX12_numberOf [vr (some l0), vi l1] (some (vl r)) h hf := fun K _ _ _ => SX12_numberOf l0 l1 h e
theorem yw_X12_numberOf : YW yX12_numberOf cX12_numberOf 5 (some .long) 1 := ⟨bw_of 2247 (by decide +kernel) rfl, bw_of 129 (by decide +kernel) rfl, ⟨by decide +kernel, by decide +kernel, by decide +kernel⟩, by decide +kernel⟩
theorem wml_RX12_355 : Cond.methodLink RX12 355 yX12_numberOf ∈ BW := bw_of 2244 (by decide +kernel) rfl
theorem wim_X12_numberOf : Cond.instanceMethod yX12_numberOf ∈ BW := bw_of 2246 (by decide +kernel) rfl
theorem wse_X12_numberOf : Cond.selects RX12 yX12_numberOf yX12_numberOf ∈ BW := bw_of 108 (by decide +kernel) rfl
abbrev MX12_minutesOf : MI := (RX12, cX12_minutesOf, 4, (some .long), 4, none, "minutesOf")
noncomputable def X12_minutesOf (F : Nat)   (l0 : Nat) (l1 : Int)  (h : HP) : Option (Int × HP) :=
  (xgP h (some l0) 12 31 1).bind fun v1 =>
  (xaI h v1 100 (w32 (11254 + (w32 (4 * l1))))).bind fun v2 =>
  (xrc h (some l0) 12 31).bind fun a5 =>
  xb (X12_numberOf F a5 l1 h) fun v3 h4 =>
  (xd v2).bind fun u6 =>
  (xgP h4 (some l0) 12 31 1).bind fun v7 =>
  (xaI h4 v7 100 (w32 ((w32 (11254 + (w32 (4 * l1)))) + 1))).bind fun v8 =>
  some (w64 ((w64 ((w64 ((w64 (v3 + v2)) - 1)).tdiv v2)) * v8), h4)
set_option maxRecDepth 100000 in
theorem SX12_minutesOf {K : Ctx} {F : Nat} {r : Int} {hf : HP}     (l0 : Nat) (l1 : Int)  (h : HP) (E : X12_minutesOf F   l0 l1 h = some (r, hf)) : Go K MX12_minutesOf (QM K (some (vl r)) hf) hf 0 [(0, vr (some l0)), (1, vi l1)] [] h := by
  unfold X12_minutesOf at E
  refine go_aload_n (j := 0) (n := 1) rfl rfl dX12_minutesOf_0 rfl ?_
  replace E := Option.bind_eq_some_iff.mp E; obtain ⟨v1, ev1, E⟩ := E
  refine go_getP (n := 4) ev1 fl_RX12_14 rfl dX12_minutesOf_1 rfl ?_
  refine go_sipush (z := 11254) (n := 7) ⟨by decide, by decide⟩ dX12_minutesOf_4 rfl ?_
  refine go_iconst (z := 4) (n := 8) ⟨by decide, by decide⟩ dX12_minutesOf_7 rfl ?_
  refine go_iload_n (j := 1) (n := 9) rfl rfl dX12_minutesOf_8 rfl ?_
  refine go_imul (n := 10) dX12_minutesOf_9 rfl ?_
  refine go_iadd (n := 11) dX12_minutesOf_10 rfl ?_
  replace E := Option.bind_eq_some_iff.mp E; obtain ⟨v2, ev2, E⟩ := E
  refine go_iaload (n := 12) ev2 dX12_minutesOf_11 rfl ?_
  refine go_i2l (n := 13) dX12_minutesOf_12 rfl ?_
  refine go_lstore_n (n := 14) (lv' := [(2, vl v2), (0, vr (some l0)), (1, vi l1)]) rfl dX12_minutesOf_13 rfl (Nat.le_of_ble_eq_true rfl) rfl ?_
  refine go_aload_n (j := 1) (n := 15) rfl rfl dX12_minutesOf_14 rfl ?_
  refine go_iload_n (j := 2) (n := 16) rfl rfl dX12_minutesOf_15 rfl ?_
  replace E := Option.bind_eq_some_iff.mp E; obtain ⟨a5, ea5, E⟩ := E
  obtain ⟨fa5, ga5⟩ := xrc_some ea5
  replace E := xb_some E; obtain ⟨v3, h4, ev3, E⟩ := E
  refine go_callV (y := yX12_numberOf) (n := 19) (st := []) (as := [vi l1]) (stk9 := [vl v3]) (OX12_numberOf ev3) yw_X12_numberOf ci_12 ga5 wml_RX12_355 wim_X12_numberOf wse_X12_numberOf (Nat.le_of_ble_eq_true rfl) rfl ⟨Nat.le_of_ble_eq_true rfl, Nat.le_of_ble_eq_true rfl⟩ (Nat.le_of_ble_eq_true rfl) dX12_minutesOf_16 rfl (by cases fa5; rfl) rfl ?_
  refine go_lload_n (j := 0) (n := 20) rfl rfl dX12_minutesOf_19 rfl ?_
  refine go_ladd (n := 21) dX12_minutesOf_20 rfl ?_
  refine go_lconst (w := 1) (n := 22) rfl dX12_minutesOf_21 rfl ?_
  refine go_lsub (n := 23) dX12_minutesOf_22 rfl ?_
  refine go_lload_n (j := 0) (n := 24) rfl rfl dX12_minutesOf_23 rfl ?_
  replace E := Option.bind_eq_some_iff.mp E; obtain ⟨u6, eu6, E⟩ := E
  refine go_ldiv (n := 25) (xd_some eu6) dX12_minutesOf_24 rfl ?_
  refine go_aload_n (j := 1) (n := 26) rfl rfl dX12_minutesOf_25 rfl ?_
  replace E := Option.bind_eq_some_iff.mp E; obtain ⟨v7, ev7, E⟩ := E
  refine go_getP (n := 29) ev7 fl_RX12_14 rfl dX12_minutesOf_26 rfl ?_
  refine go_sipush (z := 11254) (n := 32) ⟨by decide, by decide⟩ dX12_minutesOf_29 rfl ?_
  refine go_iconst (z := 4) (n := 33) ⟨by decide, by decide⟩ dX12_minutesOf_32 rfl ?_
  refine go_iload_n (j := 2) (n := 34) rfl rfl dX12_minutesOf_33 rfl ?_
  refine go_imul (n := 35) dX12_minutesOf_34 rfl ?_
  refine go_iadd (n := 36) dX12_minutesOf_35 rfl ?_
  refine go_iconst (z := 1) (n := 37) ⟨by decide, by decide⟩ dX12_minutesOf_36 rfl ?_
  refine go_iadd (n := 38) dX12_minutesOf_37 rfl ?_
  replace E := Option.bind_eq_some_iff.mp E; obtain ⟨v8, ev8, E⟩ := E
  refine go_iaload (n := 39) ev8 dX12_minutesOf_38 rfl ?_
  refine go_i2l (n := 40) dX12_minutesOf_39 rfl ?_
  refine go_lmul (n := 41) dX12_minutesOf_40 rfl ?_
  cases E
  exact go_lreturn rfl dX12_minutesOf_41
theorem OX12_minutesOf {F : Nat} {l0 : Nat} {l1 : Int} {h hf : HP} {r : Int} (e : X12_minutesOf F l0 l1 h = some (r, hf)) : Ok MX12_minutesOf [vr (some l0), vi l1] (some (vl r)) h hf := fun K _ _ _ => SX12_minutesOf l0 l1 h e
theorem wl_RX12_359 : Cond.constantLong RX12 359 (Int64.ofInt (-1)) ∈ BW := bw_of 2231 (by decide +kernel) rfl
theorem fl_RX12_45 : FL RX12 45 12 31 24 true := ⟨RX12, TX12, ci_12, by decide, bw_of 1777 (by decide +kernel) rfl, rfl, rfl⟩
theorem wml_RX12_367 : Cond.methodLink RX12 367 Lib.MathLoose.min_long.x ∈ BW := bw_of 2248 (by decide +kernel) rfl
theorem yw_X12_minutesOf : YW yX12_minutesOf cX12_minutesOf 4 (some .long) 1 := ⟨bw_of 2243 (by decide +kernel) rfl, bw_of 129 (by decide +kernel) rfl, ⟨by decide +kernel, by decide +kernel, by decide +kernel⟩, by decide +kernel⟩
theorem wml_RX12_364 : Cond.methodLink RX12 364 yX12_minutesOf ∈ BW := bw_of 2240 (by decide +kernel) rfl
theorem wim_X12_minutesOf : Cond.instanceMethod yX12_minutesOf ∈ BW := bw_of 2242 (by decide +kernel) rfl
theorem wse_X12_minutesOf : Cond.selects RX12 yX12_minutesOf yX12_minutesOf ∈ BW := bw_of 107 (by decide +kernel) rfl
theorem yw_X12_loadOf : YW yX12_loadOf cX12_loadOf 5 (some .long) 1 := ⟨bw_of 2235 (by decide +kernel) rfl, bw_of 129 (by decide +kernel) rfl, ⟨by decide +kernel, by decide +kernel, by decide +kernel⟩, by decide +kernel⟩
theorem wml_RX12_361 : Cond.methodLink RX12 361 yX12_loadOf ∈ BW := bw_of 2232 (by decide +kernel) rfl
theorem wim_X12_loadOf : Cond.instanceMethod yX12_loadOf ∈ BW := bw_of 2234 (by decide +kernel) rfl
theorem wse_X12_loadOf : Cond.selects RX12 yX12_loadOf yX12_loadOf ∈ BW := bw_of 105 (by decide +kernel) rfl
abbrev MX12_fill : MI := (RX12, cX12_fill, 8, (some .long), 5, none, "fill")
noncomputable def X12_fill_L165 (F : Nat)  (rc12 : Nat → Int → Int → Int → HP → Option (Int × HP)) (l0 : Nat) (l1 : Int) (l4 : Int) (s0 : Int) (h : HP) : Option (Int × HP) :=
  rc12 l0 l1 s0 (w32 (l4 + 1)) h
set_option maxRecDepth 100000 in
theorem SX12_fill_L165 {K : Ctx} {F : Nat} {r : Int} {hf : HP}   (rc12 : Nat → Int → Int → Int → HP → Option (Int × HP)) (hrc12 : ∀ l0 l1 l2 l4 h, rc12 l0 l1 l2 l4 h = some (r, hf) → Go K MX12_fill (QM K (some (vl r)) hf) hf 12 [(0, vr (some l0)), (1, vi l1), (2, vl l2), (4, vi l4)] [] h) (l0 : Nat) (l1 : Int) (l4 : Int) (s0 : Int) (h : HP) (E : X12_fill_L165 F  rc12 l0 l1 l4 s0 h = some (r, hf)) : Go K MX12_fill (QM K (some (vl r)) hf) hf 165 [(0, vr (some l0)), (1, vi l1), (4, vi l4)] [vl s0] h := by
  unfold X12_fill_L165 at E
  refine go_lstore_n (n := 166) (lv' := [(2, vl s0), (0, vr (some l0)), (1, vi l1), (4, vi l4)]) rfl dX12_fill_165 rfl (Nat.le_of_ble_eq_true rfl) rfl ?_
  refine go_iinc (j := 3) (n := 169) (lv' := [(4, vi (w32 (l4 + 1))), (2, vl s0), (0, vr (some l0)), (1, vi l1)]) rfl dX12_fill_166 rfl (Nat.le_of_ble_eq_true rfl) rfl ?_
  refine go_goto (tgt := 12) dX12_fill_169 rfl ?_
  refine go_pick (lv' := [(0, vr (some l0)), (1, vi l1), (2, vl s0), (4, vi (w32 (l4 + 1)))]) [2, 3, 1, 0] rfl ?_
  exact hrc12 _ _ _ _ _ E
noncomputable def X12_fill_L104 (F : Nat)  (rc12 : Nat → Int → Int → Int → HP → Option (Int × HP)) (rc69 : Nat → Int → Int → Int → Int → Int → HP → Option (Int × HP)) (l0 : Nat) (l1 : Int) (l2 : Int) (l4 : Int) (l5 : Int) (l6 : Int) (s0 : Int) (s1 : Int) (s2 : Int) (s3 : Option Nat) (h : HP) : Option (Int × HP) :=
  (xsJ h s3 s2 (w64 (s1 + s0))).bind fun h1 =>
  rc69 l0 l1 l2 l4 (w32 (l5.tdiv 3)) (w32 (l6 + 1)) h1
set_option maxRecDepth 100000 in
theorem SX12_fill_L104 {K : Ctx} {F : Nat} {r : Int} {hf : HP}   (rc12 : Nat → Int → Int → Int → HP → Option (Int × HP)) (rc69 : Nat → Int → Int → Int → Int → Int → HP → Option (Int × HP)) (hrc12 : ∀ l0 l1 l2 l4 h, rc12 l0 l1 l2 l4 h = some (r, hf) → Go K MX12_fill (QM K (some (vl r)) hf) hf 12 [(0, vr (some l0)), (1, vi l1), (2, vl l2), (4, vi l4)] [] h) (hrc69 : ∀ l0 l1 l2 l4 l5 l6 h, rc69 l0 l1 l2 l4 l5 l6 h = some (r, hf) → Go K MX12_fill (QM K (some (vl r)) hf) hf 69 [(0, vr (some l0)), (1, vi l1), (2, vl l2), (4, vi l4), (5, vi l5), (6, vi l6)] [] h) (l0 : Nat) (l1 : Int) (l2 : Int) (l4 : Int) (l5 : Int) (l6 : Int) (s0 : Int) (s1 : Int) (s2 : Int) (s3 : Option Nat) (h : HP) (E : X12_fill_L104 F  rc12 rc69 l0 l1 l2 l4 l5 l6 s0 s1 s2 s3 h = some (r, hf)) : Go K MX12_fill (QM K (some (vl r)) hf) hf 104 [(0, vr (some l0)), (1, vi l1), (2, vl l2), (4, vi l4), (5, vi l5), (6, vi l6)] [vl s0, vl s1, vi s2, vr s3] h := by
  unfold X12_fill_L104 at E
  refine go_ladd (n := 105) dX12_fill_104 rfl ?_
  replace E := Option.bind_eq_some_iff.mp E; obtain ⟨h1, eh1, E⟩ := E
  refine go_lastore (n := 106) eh1 dX12_fill_105 rfl ?_
  refine go_iload (j := 4) (n := 108) rfl dX12_fill_106 rfl ?_
  refine go_iconst (z := 3) (n := 109) ⟨by decide, by decide⟩ dX12_fill_108 rfl ?_
  refine go_idiv (n := 110) (by decide) dX12_fill_109 rfl ?_
  refine go_istore (n := 112) (lv' := [(5, vi (w32 (l5.tdiv 3))), (0, vr (some l0)), (1, vi l1), (2, vl l2), (4, vi l4), (6, vi l6)]) dX12_fill_110 rfl (Nat.le_of_ble_eq_true rfl) rfl ?_
  refine go_iinc (j := 5) (n := 115) (lv' := [(6, vi (w32 (l6 + 1))), (5, vi (w32 (l5.tdiv 3))), (0, vr (some l0)), (1, vi l1), (2, vl l2), (4, vi l4)]) rfl dX12_fill_112 rfl (Nat.le_of_ble_eq_true rfl) rfl ?_
  refine go_goto (tgt := 69) dX12_fill_115 rfl ?_
  refine go_pick (lv' := [(0, vr (some l0)), (1, vi l1), (2, vl l2), (4, vi l4), (5, vi (w32 (l5.tdiv 3))), (6, vi (w32 (l6 + 1)))]) [2, 3, 4, 5, 1, 0] rfl ?_
  exact hrc69 _ _ _ _ _ _ _ E
noncomputable def X12_fill_L69 (F : Nat)  (rc12 : Nat → Int → Int → Int → HP → Option (Int × HP)) (k : Nat) : Nat → Int → Int → Int → Int → Int → HP → Option (Int × HP) :=
  Nat.rec (motive := fun _ => Nat → Int → Int → Int → Int → Int → HP → Option (Int × HP)) (fun _ _ _ _ _ _ _ => none) (fun _ rc69 l0 l1 l2 l4 l5 l6 h =>
    if 4 ≤ l6 then
      (xgP h (some l0) 12 31 24).bind fun v2 =>
      (xaJ h v2 0).bind fun v3 =>
      (xgP h (some l0) 12 31 24).bind fun v4 =>
      (xaJ h v4 1).bind fun v5 =>
      (xgP h (some l0) 12 31 24).bind fun v6 =>
      (xaJ h v6 2).bind fun v7 =>
      X12_fill_L165 F rc12 l0 l1 l4 (if 0 ≤ (xcmp l2 0) then min l2 (max 0 (max v3 (max v5 v7))) else max 0 (max v3 (max v5 v7))) h
    else
      (xgP h (some l0) 12 31 24).bind fun v9 =>
      (xaJ h v9 (l5.tmod 3)).bind fun v10 =>
      if l1 = 0 then
        (xrc h (some l0) 12 31).bind fun a14 =>
        xb (X12_minutesOf F a14 l6 h) fun v12 h13 =>
        X12_fill_L104 F rc12 rc69 l0 l1 l2 l4 l5 l6 v12 v10 (l5.tmod 3) v9 h13
      else
        (xrc h (some l0) 12 31).bind fun a17 =>
        xb (X12_loadOf F a17 l6 h) fun v15 h16 =>
        X12_fill_L104 F rc12 rc69 l0 l1 l2 l4 l5 l6 v15 v10 (l5.tmod 3) v9 h16) k
theorem X12_fill_L69_s (F : Nat)  (rc12 : Nat → Int → Int → Int → HP → Option (Int × HP)) (k : Nat) (l0 : Nat) (l1 : Int) (l2 : Int) (l4 : Int) (l5 : Int) (l6 : Int)  (h : HP) : X12_fill_L69 F  rc12 (k + 1) l0 l1 l2 l4 l5 l6 h =
    if 4 ≤ l6 then
      (xgP h (some l0) 12 31 24).bind fun v2 =>
      (xaJ h v2 0).bind fun v3 =>
      (xgP h (some l0) 12 31 24).bind fun v4 =>
      (xaJ h v4 1).bind fun v5 =>
      (xgP h (some l0) 12 31 24).bind fun v6 =>
      (xaJ h v6 2).bind fun v7 =>
      X12_fill_L165 F rc12 l0 l1 l4 (if 0 ≤ (xcmp l2 0) then min l2 (max 0 (max v3 (max v5 v7))) else max 0 (max v3 (max v5 v7))) h
    else
      (xgP h (some l0) 12 31 24).bind fun v9 =>
      (xaJ h v9 (l5.tmod 3)).bind fun v10 =>
      if l1 = 0 then
        (xrc h (some l0) 12 31).bind fun a14 =>
        xb (X12_minutesOf F a14 l6 h) fun v12 h13 =>
        X12_fill_L104 F rc12 (X12_fill_L69 F rc12 k) l0 l1 l2 l4 l5 l6 v12 v10 (l5.tmod 3) v9 h13
      else
        (xrc h (some l0) 12 31).bind fun a17 =>
        xb (X12_loadOf F a17 l6 h) fun v15 h16 =>
        X12_fill_L104 F rc12 (X12_fill_L69 F rc12 k) l0 l1 l2 l4 l5 l6 v15 v10 (l5.tmod 3) v9 h16 := rfl
set_option maxRecDepth 100000 in
theorem SX12_fill_L69 {K : Ctx} {F : Nat} {r : Int} {hf : HP}   (rc12 : Nat → Int → Int → Int → HP → Option (Int × HP)) (hrc12 : ∀ l0 l1 l2 l4 h, rc12 l0 l1 l2 l4 h = some (r, hf) → Go K MX12_fill (QM K (some (vl r)) hf) hf 12 [(0, vr (some l0)), (1, vi l1), (2, vl l2), (4, vi l4)] [] h) : ∀ (k : Nat) (l0 : Nat) (l1 : Int) (l2 : Int) (l4 : Int) (l5 : Int) (l6 : Int)  (h : HP), X12_fill_L69 F  rc12 k l0 l1 l2 l4 l5 l6 h = some (r, hf) → Go K MX12_fill (QM K (some (vl r)) hf) hf 69 [(0, vr (some l0)), (1, vi l1), (2, vl l2), (4, vi l4), (5, vi l5), (6, vi l6)] [] h := by
  intro k
  induction k with
  | zero => intro l0 l1 l2 l4 l5 l6 h E; exact nomatch E
  | succ k hrc69 =>
    intro l0 l1 l2 l4 l5 l6 h E
    rw [X12_fill_L69_s] at E
    refine go_iload (j := 5) (n := 71) rfl dX12_fill_69 rfl ?_
    refine go_iconst (z := 4) (n := 72) ⟨by decide, by decide⟩ dX12_fill_71 rfl ?_
    refine go_icmp_ge (tgt := 118) (n := 75) dX12_fill_72 rfl rfl (fun c1 => ?_) (fun c1 => ?_)
    · rw [if_pos c1] at E
      refine go_lconst (w := 0) (n := 119) rfl dX12_fill_118 rfl ?_
      refine go_aload_n (j := 0) (n := 120) rfl rfl dX12_fill_119 rfl ?_
      replace E := Option.bind_eq_some_iff.mp E; obtain ⟨v2, ev2, E⟩ := E
      refine go_getP (n := 123) ev2 fl_RX12_45 rfl dX12_fill_120 rfl ?_
      refine go_iconst (z := 0) (n := 124) ⟨by decide, by decide⟩ dX12_fill_123 rfl ?_
      replace E := Option.bind_eq_some_iff.mp E; obtain ⟨v3, ev3, E⟩ := E
      refine go_laload (n := 125) ev3 dX12_fill_124 rfl ?_
      refine go_aload_n (j := 0) (n := 126) rfl rfl dX12_fill_125 rfl ?_
      replace E := Option.bind_eq_some_iff.mp E; obtain ⟨v4, ev4, E⟩ := E
      refine go_getP (n := 129) ev4 fl_RX12_45 rfl dX12_fill_126 rfl ?_
      refine go_iconst (z := 1) (n := 130) ⟨by decide, by decide⟩ dX12_fill_129 rfl ?_
      replace E := Option.bind_eq_some_iff.mp E; obtain ⟨v5, ev5, E⟩ := E
      refine go_laload (n := 131) ev5 dX12_fill_130 rfl ?_
      refine go_aload_n (j := 0) (n := 132) rfl rfl dX12_fill_131 rfl ?_
      replace E := Option.bind_eq_some_iff.mp E; obtain ⟨v6, ev6, E⟩ := E
      refine go_getP (n := 135) ev6 fl_RX12_45 rfl dX12_fill_132 rfl ?_
      refine go_iconst (z := 2) (n := 136) ⟨by decide, by decide⟩ dX12_fill_135 rfl ?_
      replace E := Option.bind_eq_some_iff.mp E; obtain ⟨v7, ev7, E⟩ := E
      refine go_laload (n := 137) ev7 dX12_fill_136 rfl ?_
      refine go_lmax (n := 140) wml_RX12_266 jm_max_l (Nat.le_of_ble_eq_true rfl) (Nat.le_of_ble_eq_true rfl) dX12_fill_137 rfl ?_
      refine go_lmax (n := 143) wml_RX12_266 jm_max_l (Nat.le_of_ble_eq_true rfl) (Nat.le_of_ble_eq_true rfl) dX12_fill_140 rfl ?_
      refine go_lmax (n := 146) wml_RX12_266 jm_max_l (Nat.le_of_ble_eq_true rfl) (Nat.le_of_ble_eq_true rfl) dX12_fill_143 rfl ?_
      refine go_lstore (n := 148) (lv' := [(6, vl (max 0 (max v3 (max v5 v7)))), (0, vr (some l0)), (1, vi l1), (2, vl l2), (4, vi l4), (5, vi l5)]) dX12_fill_146 rfl (Nat.le_of_ble_eq_true rfl) rfl ?_
      refine go_lload_n (j := 3) (n := 149) rfl rfl dX12_fill_148 rfl ?_
      refine go_lconst (w := 0) (n := 150) rfl dX12_fill_149 rfl ?_
      refine go_lcmp (n := 151) dX12_fill_150 rfl ?_
      refine go_if_ge (tgt := 159) (n := 154) dX12_fill_151 rfl rfl (fun c8 => ?_) (fun c8 => ?_)
      · simp only [if_pos c8] at E
        refine go_lload_n (j := 3) (n := 160) rfl rfl dX12_fill_159 rfl ?_
        refine go_lload (j := 0) (n := 162) rfl dX12_fill_160 rfl ?_
        refine go_lmin (n := 165) wml_RX12_367 jm_min_l (Nat.le_of_ble_eq_true rfl) (Nat.le_of_ble_eq_true rfl) dX12_fill_162 rfl ?_
        refine go_pick (lv' := [(0, vr (some l0)), (1, vi l1), (4, vi l4)]) [1, 2, 4] rfl ?_
        exact SX12_fill_L165   _ hrc12 _ _ _ _ _ E
      · simp only [if_neg c8] at E
        refine go_lload (j := 0) (n := 156) rfl dX12_fill_154 rfl ?_
        refine go_goto (tgt := 165) dX12_fill_156 rfl ?_
        refine go_pick (lv' := [(0, vr (some l0)), (1, vi l1), (4, vi l4)]) [1, 2, 4] rfl ?_
        exact SX12_fill_L165   _ hrc12 _ _ _ _ _ E
    · rw [if_neg c1] at E
      refine go_aload_n (j := 0) (n := 76) rfl rfl dX12_fill_75 rfl ?_
      replace E := Option.bind_eq_some_iff.mp E; obtain ⟨v9, ev9, E⟩ := E
      refine go_getP (n := 79) ev9 fl_RX12_45 rfl dX12_fill_76 rfl ?_
      refine go_iload (j := 4) (n := 81) rfl dX12_fill_79 rfl ?_
      refine go_iconst (z := 3) (n := 82) ⟨by decide, by decide⟩ dX12_fill_81 rfl ?_
      refine go_irem (n := 83) (by decide) dX12_fill_82 rfl ?_
      refine go_dup2 (n := 84) rfl rfl dX12_fill_83 rfl ?_
      replace E := Option.bind_eq_some_iff.mp E; obtain ⟨v10, ev10, E⟩ := E
      refine go_laload (n := 85) ev10 dX12_fill_84 rfl ?_
      refine go_iload_n (j := 1) (n := 86) rfl rfl dX12_fill_85 rfl ?_
      refine go_if_eq (tgt := 98) (n := 89) dX12_fill_86 rfl rfl (fun c11 => ?_) (fun c11 => ?_)
      · rw [if_pos c11] at E
        refine go_aload_n (j := 0) (n := 99) rfl rfl dX12_fill_98 rfl ?_
        refine go_iload (j := 5) (n := 101) rfl dX12_fill_99 rfl ?_
        replace E := Option.bind_eq_some_iff.mp E; obtain ⟨a14, ea14, E⟩ := E
        obtain ⟨fa14, ga14⟩ := xrc_some ea14
        replace E := xb_some E; obtain ⟨v12, h13, ev12, E⟩ := E
        refine go_callV (y := yX12_minutesOf) (n := 104) (st := [vl v10, vi (l5.tmod 3), vr v9]) (as := [vi l6]) (stk9 := [vl v12, vl v10, vi (l5.tmod 3), vr v9]) (OX12_minutesOf ev12) yw_X12_minutesOf ci_12 ga14 wml_RX12_364 wim_X12_minutesOf wse_X12_minutesOf (Nat.le_of_ble_eq_true rfl) rfl ⟨Nat.le_of_ble_eq_true rfl, Nat.le_of_ble_eq_true rfl⟩ (Nat.le_of_ble_eq_true rfl) dX12_fill_101 rfl (by cases fa14; rfl) rfl ?_
        exact SX12_fill_L104   _ _ hrc12 hrc69 _ _ _ _ _ _ _ _ _ _ _ E
      · rw [if_neg c11] at E
        refine go_aload_n (j := 0) (n := 90) rfl rfl dX12_fill_89 rfl ?_
        refine go_iload (j := 5) (n := 92) rfl dX12_fill_90 rfl ?_
        replace E := Option.bind_eq_some_iff.mp E; obtain ⟨a17, ea17, E⟩ := E
        obtain ⟨fa17, ga17⟩ := xrc_some ea17
        replace E := xb_some E; obtain ⟨v15, h16, ev15, E⟩ := E
        refine go_callV (y := yX12_loadOf) (n := 95) (st := [vl v10, vi (l5.tmod 3), vr v9]) (as := [vi l6]) (stk9 := [vl v15, vl v10, vi (l5.tmod 3), vr v9]) (OX12_loadOf ev15) yw_X12_loadOf ci_12 ga17 wml_RX12_361 wim_X12_loadOf wse_X12_loadOf (Nat.le_of_ble_eq_true rfl) rfl ⟨Nat.le_of_ble_eq_true rfl, Nat.le_of_ble_eq_true rfl⟩ (Nat.le_of_ble_eq_true rfl) dX12_fill_92 rfl (by cases fa17; rfl) rfl ?_
        refine go_goto (tgt := 104) dX12_fill_95 rfl ?_
        exact SX12_fill_L104   _ _ hrc12 hrc69 _ _ _ _ _ _ _ _ _ _ _ E
noncomputable def X12_fill_L55 (F : Nat)  (rc12 : Nat → Int → Int → Int → HP → Option (Int × HP)) (rc22 : Nat → Int → Int → Int → Int → HP → Option (Int × HP)) (l0 : Nat) (l1 : Int) (l2 : Int) (l4 : Int) (l5 : Int) (s0 : Int) (s1 : Int) (s2 : Option Nat) (h : HP) : Option (Int × HP) :=
  (xsJ h s2 s1 s0).bind fun h1 =>
  rc22 l0 l1 l2 l4 (w32 (l5 + 1)) h1
set_option maxRecDepth 100000 in
theorem SX12_fill_L55 {K : Ctx} {F : Nat} {r : Int} {hf : HP}   (rc12 : Nat → Int → Int → Int → HP → Option (Int × HP)) (rc22 : Nat → Int → Int → Int → Int → HP → Option (Int × HP)) (hrc12 : ∀ l0 l1 l2 l4 h, rc12 l0 l1 l2 l4 h = some (r, hf) → Go K MX12_fill (QM K (some (vl r)) hf) hf 12 [(0, vr (some l0)), (1, vi l1), (2, vl l2), (4, vi l4)] [] h) (hrc22 : ∀ l0 l1 l2 l4 l5 h, rc22 l0 l1 l2 l4 l5 h = some (r, hf) → Go K MX12_fill (QM K (some (vl r)) hf) hf 22 [(0, vr (some l0)), (1, vi l1), (2, vl l2), (4, vi l4), (5, vi l5)] [] h) (l0 : Nat) (l1 : Int) (l2 : Int) (l4 : Int) (l5 : Int) (s0 : Int) (s1 : Int) (s2 : Option Nat) (h : HP) (E : X12_fill_L55 F  rc12 rc22 l0 l1 l2 l4 l5 s0 s1 s2 h = some (r, hf)) : Go K MX12_fill (QM K (some (vl r)) hf) hf 55 [(0, vr (some l0)), (1, vi l1), (2, vl l2), (4, vi l4), (5, vi l5)] [vl s0, vi s1, vr s2] h := by
  unfold X12_fill_L55 at E
  replace E := Option.bind_eq_some_iff.mp E; obtain ⟨h1, eh1, E⟩ := E
  refine go_lastore (n := 56) eh1 dX12_fill_55 rfl ?_
  refine go_iinc (j := 4) (n := 59) (lv' := [(5, vi (w32 (l5 + 1))), (0, vr (some l0)), (1, vi l1), (2, vl l2), (4, vi l4)]) rfl dX12_fill_56 rfl (Nat.le_of_ble_eq_true rfl) rfl ?_
  refine go_goto (tgt := 22) dX12_fill_59 rfl ?_
  refine go_pick (lv' := [(0, vr (some l0)), (1, vi l1), (2, vl l2), (4, vi l4), (5, vi (w32 (l5 + 1)))]) [1, 2, 3, 4, 0] rfl ?_
  exact hrc22 _ _ _ _ _ _ E
noncomputable def X12_fill_L22 (F : Nat)  (rc12 : Nat → Int → Int → Int → HP → Option (Int × HP)) (k : Nat) : Nat → Int → Int → Int → Int → HP → Option (Int × HP) :=
  Nat.rec (motive := fun _ => Nat → Int → Int → Int → Int → HP → Option (Int × HP)) (fun _ _ _ _ _ _ => none) (fun _ rc22 l0 l1 l2 l4 l5 h =>
    if 3 ≤ l5 then
      X12_fill_L69 F rc12 F l0 l1 l2 l4 l4 0 h
    else
      (xgP h (some l0) 12 31 24).bind fun v2 =>
      if l1 = 0 then
        X12_fill_L55 F rc12 rc22 l0 l1 l2 l4 l5 0 l5 v2 h
      else
        (xgP h (some l0) 12 31 1).bind fun v4 =>
        (xaI h v4 100 (w32 (11270 + l5))).bind fun v5 =>
        X12_fill_L55 F rc12 rc22 l0 l1 l2 l4 l5 (w32 (-v5)) l5 v2 h) k
theorem X12_fill_L22_s (F : Nat)  (rc12 : Nat → Int → Int → Int → HP → Option (Int × HP)) (k : Nat) (l0 : Nat) (l1 : Int) (l2 : Int) (l4 : Int) (l5 : Int)  (h : HP) : X12_fill_L22 F  rc12 (k + 1) l0 l1 l2 l4 l5 h =
    if 3 ≤ l5 then
      X12_fill_L69 F rc12 F l0 l1 l2 l4 l4 0 h
    else
      (xgP h (some l0) 12 31 24).bind fun v2 =>
      if l1 = 0 then
        X12_fill_L55 F rc12 (X12_fill_L22 F rc12 k) l0 l1 l2 l4 l5 0 l5 v2 h
      else
        (xgP h (some l0) 12 31 1).bind fun v4 =>
        (xaI h v4 100 (w32 (11270 + l5))).bind fun v5 =>
        X12_fill_L55 F rc12 (X12_fill_L22 F rc12 k) l0 l1 l2 l4 l5 (w32 (-v5)) l5 v2 h := rfl
set_option maxRecDepth 100000 in
theorem SX12_fill_L22 {K : Ctx} {F : Nat} {r : Int} {hf : HP}   (rc12 : Nat → Int → Int → Int → HP → Option (Int × HP)) (hrc12 : ∀ l0 l1 l2 l4 h, rc12 l0 l1 l2 l4 h = some (r, hf) → Go K MX12_fill (QM K (some (vl r)) hf) hf 12 [(0, vr (some l0)), (1, vi l1), (2, vl l2), (4, vi l4)] [] h) : ∀ (k : Nat) (l0 : Nat) (l1 : Int) (l2 : Int) (l4 : Int) (l5 : Int)  (h : HP), X12_fill_L22 F  rc12 k l0 l1 l2 l4 l5 h = some (r, hf) → Go K MX12_fill (QM K (some (vl r)) hf) hf 22 [(0, vr (some l0)), (1, vi l1), (2, vl l2), (4, vi l4), (5, vi l5)] [] h := by
  intro k
  induction k with
  | zero => intro l0 l1 l2 l4 l5 h E; exact nomatch E
  | succ k hrc22 =>
    intro l0 l1 l2 l4 l5 h E
    rw [X12_fill_L22_s] at E
    refine go_iload (j := 4) (n := 24) rfl dX12_fill_22 rfl ?_
    refine go_iconst (z := 3) (n := 25) ⟨by decide, by decide⟩ dX12_fill_24 rfl ?_
    refine go_icmp_ge (tgt := 62) (n := 28) dX12_fill_25 rfl rfl (fun c1 => ?_) (fun c1 => ?_)
    · rw [if_pos c1] at E
      refine go_iload (j := 3) (n := 64) rfl dX12_fill_62 rfl ?_
      refine go_istore (n := 66) (lv' := [(5, vi l4), (0, vr (some l0)), (1, vi l1), (2, vl l2), (4, vi l4)]) dX12_fill_64 rfl (Nat.le_of_ble_eq_true rfl) rfl ?_
      refine go_iconst (z := 0) (n := 67) ⟨by decide, by decide⟩ dX12_fill_66 rfl ?_
      refine go_istore (n := 69) (lv' := [(6, vi 0), (5, vi l4), (0, vr (some l0)), (1, vi l1), (2, vl l2), (4, vi l4)]) dX12_fill_67 rfl (Nat.le_of_ble_eq_true rfl) rfl ?_
      refine go_pick (lv' := [(0, vr (some l0)), (1, vi l1), (2, vl l2), (4, vi l4), (5, vi l4), (6, vi 0)]) [2, 3, 4, 5, 1, 0] rfl ?_
      exact SX12_fill_L69   _ hrc12 F _ _ _ _ _ _ _ E
    · rw [if_neg c1] at E
      refine go_aload_n (j := 0) (n := 29) rfl rfl dX12_fill_28 rfl ?_
      replace E := Option.bind_eq_some_iff.mp E; obtain ⟨v2, ev2, E⟩ := E
      refine go_getP (n := 32) ev2 fl_RX12_45 rfl dX12_fill_29 rfl ?_
      refine go_iload (j := 4) (n := 34) rfl dX12_fill_32 rfl ?_
      refine go_iload_n (j := 1) (n := 35) rfl rfl dX12_fill_34 rfl ?_
      refine go_if_eq (tgt := 54) (n := 38) dX12_fill_35 rfl rfl (fun c3 => ?_) (fun c3 => ?_)
      · rw [if_pos c3] at E
        refine go_lconst (w := 0) (n := 55) rfl dX12_fill_54 rfl ?_
        exact SX12_fill_L55   _ _ hrc12 hrc22 _ _ _ _ _ _ _ _ _ E
      · rw [if_neg c3] at E
        refine go_aload_n (j := 0) (n := 39) rfl rfl dX12_fill_38 rfl ?_
        replace E := Option.bind_eq_some_iff.mp E; obtain ⟨v4, ev4, E⟩ := E
        refine go_getP (n := 42) ev4 fl_RX12_14 rfl dX12_fill_39 rfl ?_
        refine go_sipush (z := 11270) (n := 45) ⟨by decide, by decide⟩ dX12_fill_42 rfl ?_
        refine go_iload (j := 4) (n := 47) rfl dX12_fill_45 rfl ?_
        refine go_iadd (n := 48) dX12_fill_47 rfl ?_
        replace E := Option.bind_eq_some_iff.mp E; obtain ⟨v5, ev5, E⟩ := E
        refine go_iaload (n := 49) ev5 dX12_fill_48 rfl ?_
        refine go_ineg (n := 50) dX12_fill_49 rfl ?_
        refine go_i2l (n := 51) dX12_fill_50 rfl ?_
        refine go_goto (tgt := 55) dX12_fill_51 rfl ?_
        exact SX12_fill_L55   _ _ hrc12 hrc22 _ _ _ _ _ _ _ _ _ E
noncomputable def X12_fill_L12 (F : Nat)   (k : Nat) : Nat → Int → Int → Int → HP → Option (Int × HP) :=
  Nat.rec (motive := fun _ => Nat → Int → Int → Int → HP → Option (Int × HP)) (fun _ _ _ _ _ => none) (fun _ rc12 l0 l1 l2 l4 h =>
    if 81 ≤ l4 then
      some (l2, h)
    else
      X12_fill_L22 F rc12 F l0 l1 l2 l4 0 h) k
theorem X12_fill_L12_s (F : Nat)   (k : Nat) (l0 : Nat) (l1 : Int) (l2 : Int) (l4 : Int)  (h : HP) : X12_fill_L12 F   (k + 1) l0 l1 l2 l4 h =
    if 81 ≤ l4 then
      some (l2, h)
    else
      X12_fill_L22 F (X12_fill_L12 F k) F l0 l1 l2 l4 0 h := rfl
set_option maxRecDepth 100000 in
theorem SX12_fill_L12 {K : Ctx} {F : Nat} {r : Int} {hf : HP}     : ∀ (k : Nat) (l0 : Nat) (l1 : Int) (l2 : Int) (l4 : Int)  (h : HP), X12_fill_L12 F   k l0 l1 l2 l4 h = some (r, hf) → Go K MX12_fill (QM K (some (vl r)) hf) hf 12 [(0, vr (some l0)), (1, vi l1), (2, vl l2), (4, vi l4)] [] h := by
  intro k
  induction k with
  | zero => intro l0 l1 l2 l4 h E; exact nomatch E
  | succ k hrc12 =>
    intro l0 l1 l2 l4 h E
    rw [X12_fill_L12_s] at E
    refine go_iload (j := 3) (n := 14) rfl dX12_fill_12 rfl ?_
    refine go_bipush (z := 81) (n := 16) ⟨by decide, by decide⟩ dX12_fill_14 rfl ?_
    refine go_icmp_ge (tgt := 172) (n := 19) dX12_fill_16 rfl rfl (fun c1 => ?_) (fun c1 => ?_)
    · rw [if_pos c1] at E
      refine go_lload_n (j := 2) (n := 173) rfl rfl dX12_fill_172 rfl ?_
      cases E
      exact go_lreturn rfl dX12_fill_173
    · rw [if_neg c1] at E
      refine go_iconst (z := 0) (n := 20) ⟨by decide, by decide⟩ dX12_fill_19 rfl ?_
      refine go_istore (n := 22) (lv' := [(5, vi 0), (0, vr (some l0)), (1, vi l1), (2, vl l2), (4, vi l4)]) dX12_fill_20 rfl (Nat.le_of_ble_eq_true rfl) rfl ?_
      refine go_pick (lv' := [(0, vr (some l0)), (1, vi l1), (2, vl l2), (4, vi l4), (5, vi 0)]) [1, 2, 3, 4, 0] rfl ?_
      exact SX12_fill_L22   _ hrc12 F _ _ _ _ _ _ E
noncomputable def X12_fill (F : Nat)   (l0 : Nat) (l1 : Int)  (h : HP) : Option (Int × HP) :=
  (xpI h (some l0) 12 31 0 0).bind fun h1 =>
  X12_fill_L12 F F l0 l1 (-1) 0 h1
set_option maxRecDepth 100000 in
theorem SX12_fill {K : Ctx} {F : Nat} {r : Int} {hf : HP}     (l0 : Nat) (l1 : Int)  (h : HP) (E : X12_fill F   l0 l1 h = some (r, hf)) : Go K MX12_fill (QM K (some (vl r)) hf) hf 0 [(0, vr (some l0)), (1, vi l1)] [] h := by
  unfold X12_fill at E
  refine go_aload_n (j := 0) (n := 1) rfl rfl dX12_fill_0 rfl ?_
  refine go_iconst (z := 0) (n := 2) ⟨by decide, by decide⟩ dX12_fill_1 rfl ?_
  replace E := Option.bind_eq_some_iff.mp E; obtain ⟨h1, eh1, E⟩ := E
  refine go_putI (n := 5) eh1 fl_RX12_3 rfl dX12_fill_2 rfl ?_
  refine go_ldc2 (z := (-1)) (n := 8) ⟨by decide, by decide⟩ wl_RX12_359 dX12_fill_5 rfl ?_
  refine go_lstore_n (n := 9) (lv' := [(2, vl (-1)), (0, vr (some l0)), (1, vi l1)]) rfl dX12_fill_8 rfl (Nat.le_of_ble_eq_true rfl) rfl ?_
  refine go_iconst (z := 0) (n := 10) ⟨by decide, by decide⟩ dX12_fill_9 rfl ?_
  refine go_istore (n := 12) (lv' := [(4, vi 0), (2, vl (-1)), (0, vr (some l0)), (1, vi l1)]) dX12_fill_10 rfl (Nat.le_of_ble_eq_true rfl) rfl ?_
  refine go_pick (lv' := [(0, vr (some l0)), (1, vi l1), (2, vl (-1)), (4, vi 0)]) [2, 3, 1, 0] rfl ?_
  exact SX12_fill_L12     F _ _ _ _ _ E
theorem OX12_fill {F : Nat} {l0 : Nat} {l1 : Int} {h hf : HP} {r : Int} (e : X12_fill F l0 l1 h = some (r, hf)) : Ok MX12_fill [vr (some l0), vi l1] (some (vl r)) h hf := fun K _ _ _ => SX12_fill l0 l1 h e
abbrev MX12_weightOf : MI := (RX12, cX12_weightOf, 2, (some .long), 4, none, "weightOf")
noncomputable def X12_weightOf (F : Nat)   (l0 : Nat) (l1 : Int)  (h : HP) : Option (Int × HP) :=
  (xrc h (some l0) 12 31).bind fun a3 =>
  xb (X12_numberOf F a3 l1 h) fun v1 h2 =>
  (xgP h2 (some l0) 12 31 1).bind fun v4 =>
  (xaI h2 v4 100 (w32 ((w32 (11254 + (w32 (4 * l1)))) + 2))).bind fun v5 =>
  some (w64 (v1 * v5), h2)
set_option maxRecDepth 100000 in
theorem SX12_weightOf {K : Ctx} {F : Nat} {r : Int} {hf : HP}     (l0 : Nat) (l1 : Int)  (h : HP) (E : X12_weightOf F   l0 l1 h = some (r, hf)) : Go K MX12_weightOf (QM K (some (vl r)) hf) hf 0 [(0, vr (some l0)), (1, vi l1)] [] h := by
  unfold X12_weightOf at E
  refine go_aload_n (j := 0) (n := 1) rfl rfl dX12_weightOf_0 rfl ?_
  refine go_iload_n (j := 1) (n := 2) rfl rfl dX12_weightOf_1 rfl ?_
  replace E := Option.bind_eq_some_iff.mp E; obtain ⟨a3, ea3, E⟩ := E
  obtain ⟨fa3, ga3⟩ := xrc_some ea3
  replace E := xb_some E; obtain ⟨v1, h2, ev1, E⟩ := E
  refine go_callV (y := yX12_numberOf) (n := 5) (st := []) (as := [vi l1]) (stk9 := [vl v1]) (OX12_numberOf ev1) yw_X12_numberOf ci_12 ga3 wml_RX12_355 wim_X12_numberOf wse_X12_numberOf (Nat.le_of_ble_eq_true rfl) rfl ⟨Nat.le_of_ble_eq_true rfl, Nat.le_of_ble_eq_true rfl⟩ (Nat.le_of_ble_eq_true rfl) dX12_weightOf_2 rfl (by cases fa3; rfl) rfl ?_
  refine go_aload_n (j := 0) (n := 6) rfl rfl dX12_weightOf_5 rfl ?_
  replace E := Option.bind_eq_some_iff.mp E; obtain ⟨v4, ev4, E⟩ := E
  refine go_getP (n := 9) ev4 fl_RX12_14 rfl dX12_weightOf_6 rfl ?_
  refine go_sipush (z := 11254) (n := 12) ⟨by decide, by decide⟩ dX12_weightOf_9 rfl ?_
  refine go_iconst (z := 4) (n := 13) ⟨by decide, by decide⟩ dX12_weightOf_12 rfl ?_
  refine go_iload_n (j := 1) (n := 14) rfl rfl dX12_weightOf_13 rfl ?_
  refine go_imul (n := 15) dX12_weightOf_14 rfl ?_
  refine go_iadd (n := 16) dX12_weightOf_15 rfl ?_
  refine go_iconst (z := 2) (n := 17) ⟨by decide, by decide⟩ dX12_weightOf_16 rfl ?_
  refine go_iadd (n := 18) dX12_weightOf_17 rfl ?_
  replace E := Option.bind_eq_some_iff.mp E; obtain ⟨v5, ev5, E⟩ := E
  refine go_iaload (n := 19) ev5 dX12_weightOf_18 rfl ?_
  refine go_i2l (n := 20) dX12_weightOf_19 rfl ?_
  refine go_lmul (n := 21) dX12_weightOf_20 rfl ?_
  cases E
  exact go_lreturn rfl dX12_weightOf_21
theorem OX12_weightOf {F : Nat} {l0 : Nat} {l1 : Int} {h hf : HP} {r : Int} (e : X12_weightOf F l0 l1 h = some (r, hf)) : Ok MX12_weightOf [vr (some l0), vi l1] (some (vl r)) h hf := fun K _ _ _ => SX12_weightOf l0 l1 h e
theorem yw_X12_weightOf : YW yX12_weightOf cX12_weightOf 2 (some .long) 1 := ⟨bw_of 2260 (by decide +kernel) rfl, bw_of 129 (by decide +kernel) rfl, ⟨by decide +kernel, by decide +kernel, by decide +kernel⟩, by decide +kernel⟩
theorem wml_RX12_369 : Cond.methodLink RX12 369 yX12_weightOf ∈ BW := bw_of 2257 (by decide +kernel) rfl
theorem wim_X12_weightOf : Cond.instanceMethod yX12_weightOf ∈ BW := bw_of 2259 (by decide +kernel) rfl
theorem wse_X12_weightOf : Cond.selects RX12 yX12_weightOf yX12_weightOf ∈ BW := bw_of 110 (by decide +kernel) rfl
abbrev MX12_partOf : MI := (RX12, cX12_partOf, 15, (some .long), 5, none, "partOf")
noncomputable def X12_partOf_L159 (F : Nat)    (s0 : Int) (s1 : Int) (h : HP) : Option (Int × HP) :=
  some (w64 (s1 + s0), h)
set_option maxRecDepth 100000 in
theorem SX12_partOf_L159 {K : Ctx} {F : Nat} {r : Int} {hf : HP}      (s0 : Int) (s1 : Int) (h : HP) (E : X12_partOf_L159 F   s0 s1 h = some (r, hf)) : Go K MX12_partOf (QM K (some (vl r)) hf) hf 159 [] [vl s0, vl s1] h := by
  unfold X12_partOf_L159 at E
  refine go_ladd (n := 160) dX12_partOf_159 rfl ?_
  cases E
  exact go_lreturn rfl dX12_partOf_160
noncomputable def X12_partOf_L134 (F : Nat)  (rc55 : Nat → Int → Int → Int → Int → Int → Int → Int → Int → HP → Option (Int × HP)) (l0 : Nat) (l1 : Int) (l2 : Int) (l4 : Int) (l5 : Int) (l7 : Int) (l9 : Int) (l12 : Int) (s0 : Int) (s1 : Int) (h : HP) : Option (Int × HP) :=
  rc55 l0 l1 l2 l4 l5 l7 l9 (w32 (s1 + s0)) (w32 (l12 + 1)) h
set_option maxRecDepth 100000 in
theorem SX12_partOf_L134 {K : Ctx} {F : Nat} {r : Int} {hf : HP}   (rc55 : Nat → Int → Int → Int → Int → Int → Int → Int → Int → HP → Option (Int × HP)) (hrc55 : ∀ l0 l1 l2 l4 l5 l7 l9 l11 l12 h, rc55 l0 l1 l2 l4 l5 l7 l9 l11 l12 h = some (r, hf) → Go K MX12_partOf (QM K (some (vl r)) hf) hf 55 [(0, vr (some l0)), (1, vi l1), (2, vl l2), (4, vi l4), (5, vl l5), (7, vl l7), (9, vl l9), (11, vi l11), (12, vi l12)] [] h) (l0 : Nat) (l1 : Int) (l2 : Int) (l4 : Int) (l5 : Int) (l7 : Int) (l9 : Int) (l12 : Int) (s0 : Int) (s1 : Int) (h : HP) (E : X12_partOf_L134 F  rc55 l0 l1 l2 l4 l5 l7 l9 l12 s0 s1 h = some (r, hf)) : Go K MX12_partOf (QM K (some (vl r)) hf) hf 134 [(0, vr (some l0)), (1, vi l1), (2, vl l2), (4, vi l4), (5, vl l5), (7, vl l7), (9, vl l9), (12, vi l12)] [vi s0, vi s1] h := by
  unfold X12_partOf_L134 at E
  refine go_iadd (n := 135) dX12_partOf_134 rfl ?_
  refine go_istore (n := 137) (lv' := [(11, vi (w32 (s1 + s0))), (0, vr (some l0)), (1, vi l1), (2, vl l2), (4, vi l4), (5, vl l5), (7, vl l7), (9, vl l9), (12, vi l12)]) dX12_partOf_135 rfl (Nat.le_of_ble_eq_true rfl) rfl ?_
  refine go_iinc (j := 8) (n := 140) (lv' := [(12, vi (w32 (l12 + 1))), (11, vi (w32 (s1 + s0))), (0, vr (some l0)), (1, vi l1), (2, vl l2), (4, vi l4), (5, vl l5), (7, vl l7), (9, vl l9)]) rfl dX12_partOf_137 rfl (Nat.le_of_ble_eq_true rfl) rfl ?_
  refine go_goto (tgt := 55) dX12_partOf_140 rfl ?_
  refine go_pick (lv' := [(0, vr (some l0)), (1, vi l1), (2, vl l2), (4, vi l4), (5, vl l5), (7, vl l7), (9, vl l9), (11, vi (w32 (s1 + s0))), (12, vi (w32 (l12 + 1)))]) [2, 3, 4, 5, 6, 7, 8, 1, 0] rfl ?_
  exact hrc55 _ _ _ _ _ _ _ _ _ _ E
noncomputable def X12_partOf_L133 (F : Nat)  (rc55 : Nat → Int → Int → Int → Int → Int → Int → Int → Int → HP → Option (Int × HP)) (l0 : Nat) (l1 : Int) (l2 : Int) (l4 : Int) (l5 : Int) (l7 : Int) (l9 : Int) (l12 : Int) (s0 : Int) (h : HP) : Option (Int × HP) :=
  X12_partOf_L134 F rc55 l0 l1 l2 l4 l5 l7 l9 l12 0 s0 h
set_option maxRecDepth 100000 in
theorem SX12_partOf_L133 {K : Ctx} {F : Nat} {r : Int} {hf : HP}   (rc55 : Nat → Int → Int → Int → Int → Int → Int → Int → Int → HP → Option (Int × HP)) (hrc55 : ∀ l0 l1 l2 l4 l5 l7 l9 l11 l12 h, rc55 l0 l1 l2 l4 l5 l7 l9 l11 l12 h = some (r, hf) → Go K MX12_partOf (QM K (some (vl r)) hf) hf 55 [(0, vr (some l0)), (1, vi l1), (2, vl l2), (4, vi l4), (5, vl l5), (7, vl l7), (9, vl l9), (11, vi l11), (12, vi l12)] [] h) (l0 : Nat) (l1 : Int) (l2 : Int) (l4 : Int) (l5 : Int) (l7 : Int) (l9 : Int) (l12 : Int) (s0 : Int) (h : HP) (E : X12_partOf_L133 F  rc55 l0 l1 l2 l4 l5 l7 l9 l12 s0 h = some (r, hf)) : Go K MX12_partOf (QM K (some (vl r)) hf) hf 133 [(0, vr (some l0)), (1, vi l1), (2, vl l2), (4, vi l4), (5, vl l5), (7, vl l7), (9, vl l9), (12, vi l12)] [vi s0] h := by
  unfold X12_partOf_L133 at E
  refine go_iconst (z := 0) (n := 134) ⟨by decide, by decide⟩ dX12_partOf_133 rfl ?_
  exact SX12_partOf_L134   _ hrc55 _ _ _ _ _ _ _ _ _ _ _ E
noncomputable def X12_partOf_L108 (F : Nat)  (rc55 : Nat → Int → Int → Int → Int → Int → Int → Int → Int → HP → Option (Int × HP)) (l0 : Nat) (l1 : Int) (l2 : Int) (l4 : Int) (l5 : Int) (l7 : Int) (l11 : Int) (l12 : Int) (s0 : Int) (h : HP) : Option (Int × HP) :=
  if l1 ≤ l12 then
    X12_partOf_L133 F rc55 l0 l1 l2 l4 l5 l7 s0 l12 l11 h
  else
    (xrc h (some l0) 12 31).bind fun a4 =>
    xb (X12_numberOf F a4 l12 h) fun v2 h3 =>
    if (xcmp v2 0) ≤ 0 then
      X12_partOf_L133 F rc55 l0 l1 l2 l4 l5 l7 s0 l12 l11 h3
    else
      X12_partOf_L134 F rc55 l0 l1 l2 l4 l5 l7 s0 l12 1 l11 h3
set_option maxRecDepth 100000 in
theorem SX12_partOf_L108 {K : Ctx} {F : Nat} {r : Int} {hf : HP}   (rc55 : Nat → Int → Int → Int → Int → Int → Int → Int → Int → HP → Option (Int × HP)) (hrc55 : ∀ l0 l1 l2 l4 l5 l7 l9 l11 l12 h, rc55 l0 l1 l2 l4 l5 l7 l9 l11 l12 h = some (r, hf) → Go K MX12_partOf (QM K (some (vl r)) hf) hf 55 [(0, vr (some l0)), (1, vi l1), (2, vl l2), (4, vi l4), (5, vl l5), (7, vl l7), (9, vl l9), (11, vi l11), (12, vi l12)] [] h) (l0 : Nat) (l1 : Int) (l2 : Int) (l4 : Int) (l5 : Int) (l7 : Int) (l11 : Int) (l12 : Int) (s0 : Int) (h : HP) (E : X12_partOf_L108 F  rc55 l0 l1 l2 l4 l5 l7 l11 l12 s0 h = some (r, hf)) : Go K MX12_partOf (QM K (some (vl r)) hf) hf 108 [(0, vr (some l0)), (1, vi l1), (2, vl l2), (4, vi l4), (5, vl l5), (7, vl l7), (11, vi l11), (12, vi l12)] [vl s0] h := by
  unfold X12_partOf_L108 at E
  refine go_lstore (n := 110) (lv' := [(9, vl s0), (0, vr (some l0)), (1, vi l1), (2, vl l2), (4, vi l4), (5, vl l5), (7, vl l7), (11, vi l11), (12, vi l12)]) dX12_partOf_108 rfl (Nat.le_of_ble_eq_true rfl) rfl ?_
  refine go_iload (j := 7) (n := 112) rfl dX12_partOf_110 rfl ?_
  refine go_iload (j := 8) (n := 114) rfl dX12_partOf_112 rfl ?_
  refine go_iload_n (j := 2) (n := 115) rfl rfl dX12_partOf_114 rfl ?_
  refine go_icmp_ge (tgt := 133) (n := 118) dX12_partOf_115 rfl rfl (fun c1 => ?_) (fun c1 => ?_)
  · rw [if_pos c1] at E
    refine go_pick (lv' := [(0, vr (some l0)), (1, vi l1), (2, vl l2), (4, vi l4), (5, vl l5), (7, vl l7), (9, vl s0), (12, vi l12)]) [1, 2, 3, 4, 5, 6, 0, 8] rfl ?_
    exact SX12_partOf_L133   _ hrc55 _ _ _ _ _ _ _ _ _ _ E
  · rw [if_neg c1] at E
    refine go_aload_n (j := 1) (n := 119) rfl rfl dX12_partOf_118 rfl ?_
    refine go_iload (j := 8) (n := 121) rfl dX12_partOf_119 rfl ?_
    replace E := Option.bind_eq_some_iff.mp E; obtain ⟨a4, ea4, E⟩ := E
    obtain ⟨fa4, ga4⟩ := xrc_some ea4
    replace E := xb_some E; obtain ⟨v2, h3, ev2, E⟩ := E
    refine go_callV (y := yX12_numberOf) (n := 124) (st := [vi l11]) (as := [vi l12]) (stk9 := [vl v2, vi l11]) (OX12_numberOf ev2) yw_X12_numberOf ci_12 ga4 wml_RX12_355 wim_X12_numberOf wse_X12_numberOf (Nat.le_of_ble_eq_true rfl) rfl ⟨Nat.le_of_ble_eq_true rfl, Nat.le_of_ble_eq_true rfl⟩ (Nat.le_of_ble_eq_true rfl) dX12_partOf_121 rfl (by cases fa4; rfl) rfl ?_
    refine go_lconst (w := 0) (n := 125) rfl dX12_partOf_124 rfl ?_
    refine go_lcmp (n := 126) dX12_partOf_125 rfl ?_
    refine go_if_le (tgt := 133) (n := 129) dX12_partOf_126 rfl rfl (fun c5 => ?_) (fun c5 => ?_)
    · rw [if_pos c5] at E
      refine go_pick (lv' := [(0, vr (some l0)), (1, vi l1), (2, vl l2), (4, vi l4), (5, vl l5), (7, vl l7), (9, vl s0), (12, vi l12)]) [1, 2, 3, 4, 5, 6, 0, 8] rfl ?_
      exact SX12_partOf_L133   _ hrc55 _ _ _ _ _ _ _ _ _ _ E
    · rw [if_neg c5] at E
      refine go_iconst (z := 1) (n := 130) ⟨by decide, by decide⟩ dX12_partOf_129 rfl ?_
      refine go_goto (tgt := 134) dX12_partOf_130 rfl ?_
      refine go_pick (lv' := [(0, vr (some l0)), (1, vi l1), (2, vl l2), (4, vi l4), (5, vl l5), (7, vl l7), (9, vl s0), (12, vi l12)]) [1, 2, 3, 4, 5, 6, 0, 8] rfl ?_
      exact SX12_partOf_L134   _ hrc55 _ _ _ _ _ _ _ _ _ _ _ E
noncomputable def X12_partOf_L82 (F : Nat)  (rc55 : Nat → Int → Int → Int → Int → Int → Int → Int → Int → HP → Option (Int × HP)) (l0 : Nat) (l1 : Int) (l2 : Int) (l4 : Int) (l5 : Int) (l7 : Int) (l9 : Int) (l11 : Int) (l12 : Int) (s0 : Int) (s1 : Int) (h : HP) : Option (Int × HP) :=
  (xd l5).bind fun u1 =>
  X12_partOf_L108 F rc55 l0 l1 l2 l4 l5 (w64 (l7 - (w64 ((w64 (s1 * s0)).tdiv l5)))) l11 l12 (if l12 = l1 then w64 ((w64 (s1 * s0)).tdiv l5) else l9) h
set_option maxRecDepth 100000 in
theorem SX12_partOf_L82 {K : Ctx} {F : Nat} {r : Int} {hf : HP}   (rc55 : Nat → Int → Int → Int → Int → Int → Int → Int → Int → HP → Option (Int × HP)) (hrc55 : ∀ l0 l1 l2 l4 l5 l7 l9 l11 l12 h, rc55 l0 l1 l2 l4 l5 l7 l9 l11 l12 h = some (r, hf) → Go K MX12_partOf (QM K (some (vl r)) hf) hf 55 [(0, vr (some l0)), (1, vi l1), (2, vl l2), (4, vi l4), (5, vl l5), (7, vl l7), (9, vl l9), (11, vi l11), (12, vi l12)] [] h) (l0 : Nat) (l1 : Int) (l2 : Int) (l4 : Int) (l5 : Int) (l7 : Int) (l9 : Int) (l11 : Int) (l12 : Int) (s0 : Int) (s1 : Int) (h : HP) (E : X12_partOf_L82 F  rc55 l0 l1 l2 l4 l5 l7 l9 l11 l12 s0 s1 h = some (r, hf)) : Go K MX12_partOf (QM K (some (vl r)) hf) hf 82 [(0, vr (some l0)), (1, vi l1), (2, vl l2), (4, vi l4), (5, vl l5), (7, vl l7), (9, vl l9), (11, vi l11), (12, vi l12)] [vl s0, vl s1] h := by
  unfold X12_partOf_L82 at E
  refine go_lmul (n := 83) dX12_partOf_82 rfl ?_
  refine go_lload (j := 4) (n := 85) rfl dX12_partOf_83 rfl ?_
  replace E := Option.bind_eq_some_iff.mp E; obtain ⟨u1, eu1, E⟩ := E
  refine go_ldiv (n := 86) (xd_some eu1) dX12_partOf_85 rfl ?_
  refine go_lstore (n := 88) (lv' := [(13, vl (w64 ((w64 (s1 * s0)).tdiv l5))), (0, vr (some l0)), (1, vi l1), (2, vl l2), (4, vi l4), (5, vl l5), (7, vl l7), (9, vl l9), (11, vi l11), (12, vi l12)]) dX12_partOf_86 rfl (Nat.le_of_ble_eq_true rfl) rfl ?_
  refine go_lload (j := 6) (n := 90) rfl dX12_partOf_88 rfl ?_
  refine go_lload (j := 0) (n := 92) rfl dX12_partOf_90 rfl ?_
  refine go_lsub (n := 93) dX12_partOf_92 rfl ?_
  refine go_lstore (n := 95) (lv' := [(7, vl (w64 (l7 - (w64 ((w64 (s1 * s0)).tdiv l5))))), (13, vl (w64 ((w64 (s1 * s0)).tdiv l5))), (0, vr (some l0)), (1, vi l1), (2, vl l2), (4, vi l4), (5, vl l5), (9, vl l9), (11, vi l11), (12, vi l12)]) dX12_partOf_93 rfl (Nat.le_of_ble_eq_true rfl) rfl ?_
  refine go_iload (j := 9) (n := 97) rfl dX12_partOf_95 rfl ?_
  refine go_iload_n (j := 3) (n := 98) rfl rfl dX12_partOf_97 rfl ?_
  refine go_icmp_ne (tgt := 106) (n := 101) dX12_partOf_98 rfl rfl (fun c2 => ?_) (fun c2 => ?_)
  · simp only [if_neg c2] at E
    refine go_lload (j := 7) (n := 108) rfl dX12_partOf_106 rfl ?_
    refine go_pick (lv' := [(0, vr (some l0)), (1, vi l1), (2, vl l2), (4, vi l4), (5, vl l5), (7, vl (w64 (l7 - (w64 ((w64 (s1 * s0)).tdiv l5))))), (11, vi l11), (12, vi l12)]) [2, 3, 4, 5, 6, 0, 8, 9] rfl ?_
    exact SX12_partOf_L108   _ hrc55 _ _ _ _ _ _ _ _ _ _ E
  · simp only [if_pos c2] at E
    refine go_lload (j := 1) (n := 103) rfl dX12_partOf_101 rfl ?_
    refine go_goto (tgt := 108) dX12_partOf_103 rfl ?_
    refine go_pick (lv' := [(0, vr (some l0)), (1, vi l1), (2, vl l2), (4, vi l4), (5, vl l5), (7, vl (w64 (l7 - (w64 ((w64 (s1 * s0)).tdiv l5))))), (11, vi l11), (12, vi l12)]) [2, 3, 4, 5, 6, 0, 8, 9] rfl ?_
    exact SX12_partOf_L108   _ hrc55 _ _ _ _ _ _ _ _ _ _ E
noncomputable def X12_partOf_L55 (F : Nat)   (k : Nat) : Nat → Int → Int → Int → Int → Int → Int → Int → Int → HP → Option (Int × HP) :=
  Nat.rec (motive := fun _ => Nat → Int → Int → Int → Int → Int → Int → Int → Int → HP → Option (Int × HP)) (fun _ _ _ _ _ _ _ _ _ _ => none) (fun _ rc55 l0 l1 l2 l4 l5 l7 l9 l11 l12 h =>
    if 4 ≤ l12 then
      X12_partOf_L159 F (if 0 ≤ (xcmp l11 l7) then 0 else 1) l9 h
    else
      if l4 = 0 then
        (xrc h (some l0) 12 31).bind fun a6 =>
        xb (X12_minutesOf F a6 l12 h) fun v4 h5 =>
        X12_partOf_L82 F rc55 l0 l1 l2 l4 l5 l7 l9 l11 l12 v4 l2 h5
      else
        (xrc h (some l0) 12 31).bind fun a9 =>
        xb (X12_weightOf F a9 l12 h) fun v7 h8 =>
        X12_partOf_L82 F rc55 l0 l1 l2 l4 l5 l7 l9 l11 l12 v7 l2 h8) k
theorem X12_partOf_L55_s (F : Nat)   (k : Nat) (l0 : Nat) (l1 : Int) (l2 : Int) (l4 : Int) (l5 : Int) (l7 : Int) (l9 : Int) (l11 : Int) (l12 : Int)  (h : HP) : X12_partOf_L55 F   (k + 1) l0 l1 l2 l4 l5 l7 l9 l11 l12 h =
    if 4 ≤ l12 then
      X12_partOf_L159 F (if 0 ≤ (xcmp l11 l7) then 0 else 1) l9 h
    else
      if l4 = 0 then
        (xrc h (some l0) 12 31).bind fun a6 =>
        xb (X12_minutesOf F a6 l12 h) fun v4 h5 =>
        X12_partOf_L82 F (X12_partOf_L55 F k) l0 l1 l2 l4 l5 l7 l9 l11 l12 v4 l2 h5
      else
        (xrc h (some l0) 12 31).bind fun a9 =>
        xb (X12_weightOf F a9 l12 h) fun v7 h8 =>
        X12_partOf_L82 F (X12_partOf_L55 F k) l0 l1 l2 l4 l5 l7 l9 l11 l12 v7 l2 h8 := rfl
set_option maxRecDepth 100000 in
theorem SX12_partOf_L55 {K : Ctx} {F : Nat} {r : Int} {hf : HP}     : ∀ (k : Nat) (l0 : Nat) (l1 : Int) (l2 : Int) (l4 : Int) (l5 : Int) (l7 : Int) (l9 : Int) (l11 : Int) (l12 : Int)  (h : HP), X12_partOf_L55 F   k l0 l1 l2 l4 l5 l7 l9 l11 l12 h = some (r, hf) → Go K MX12_partOf (QM K (some (vl r)) hf) hf 55 [(0, vr (some l0)), (1, vi l1), (2, vl l2), (4, vi l4), (5, vl l5), (7, vl l7), (9, vl l9), (11, vi l11), (12, vi l12)] [] h := by
  intro k
  induction k with
  | zero => intro l0 l1 l2 l4 l5 l7 l9 l11 l12 h E; exact nomatch E
  | succ k hrc55 =>
    intro l0 l1 l2 l4 l5 l7 l9 l11 l12 h E
    rw [X12_partOf_L55_s] at E
    refine go_iload (j := 8) (n := 57) rfl dX12_partOf_55 rfl ?_
    refine go_iconst (z := 4) (n := 58) ⟨by decide, by decide⟩ dX12_partOf_57 rfl ?_
    refine go_icmp_ge (tgt := 143) (n := 61) dX12_partOf_58 rfl rfl (fun c1 => ?_) (fun c1 => ?_)
    · rw [if_pos c1] at E
      refine go_lload (j := 6) (n := 145) rfl dX12_partOf_143 rfl ?_
      refine go_iload (j := 7) (n := 147) rfl dX12_partOf_145 rfl ?_
      refine go_i2l (n := 148) dX12_partOf_147 rfl ?_
      refine go_lload (j := 5) (n := 150) rfl dX12_partOf_148 rfl ?_
      refine go_lcmp (n := 151) dX12_partOf_150 rfl ?_
      refine go_if_ge (tgt := 158) (n := 154) dX12_partOf_151 rfl rfl (fun c2 => ?_) (fun c2 => ?_)
      · simp only [if_pos c2] at E
        refine go_lconst (w := 0) (n := 159) rfl dX12_partOf_158 rfl ?_
        refine go_pick (lv' := []) [] rfl ?_
        exact SX12_partOf_L159      _ _ _ E
      · simp only [if_neg c2] at E
        refine go_lconst (w := 1) (n := 155) rfl dX12_partOf_154 rfl ?_
        refine go_goto (tgt := 159) dX12_partOf_155 rfl ?_
        refine go_pick (lv' := []) [] rfl ?_
        exact SX12_partOf_L159      _ _ _ E
    · rw [if_neg c1] at E
      refine go_lload_n (j := 2) (n := 62) rfl rfl dX12_partOf_61 rfl ?_
      refine go_iload (j := 3) (n := 64) rfl dX12_partOf_62 rfl ?_
      refine go_if_eq (tgt := 76) (n := 67) dX12_partOf_64 rfl rfl (fun c3 => ?_) (fun c3 => ?_)
      · rw [if_pos c3] at E
        refine go_aload_n (j := 0) (n := 77) rfl rfl dX12_partOf_76 rfl ?_
        refine go_iload (j := 8) (n := 79) rfl dX12_partOf_77 rfl ?_
        replace E := Option.bind_eq_some_iff.mp E; obtain ⟨a6, ea6, E⟩ := E
        obtain ⟨fa6, ga6⟩ := xrc_some ea6
        replace E := xb_some E; obtain ⟨v4, h5, ev4, E⟩ := E
        refine go_callV (y := yX12_minutesOf) (n := 82) (st := [vl l2]) (as := [vi l12]) (stk9 := [vl v4, vl l2]) (OX12_minutesOf ev4) yw_X12_minutesOf ci_12 ga6 wml_RX12_364 wim_X12_minutesOf wse_X12_minutesOf (Nat.le_of_ble_eq_true rfl) rfl ⟨Nat.le_of_ble_eq_true rfl, Nat.le_of_ble_eq_true rfl⟩ (Nat.le_of_ble_eq_true rfl) dX12_partOf_79 rfl (by cases fa6; rfl) rfl ?_
        exact SX12_partOf_L82   _ hrc55 _ _ _ _ _ _ _ _ _ _ _ _ E
      · rw [if_neg c3] at E
        refine go_aload_n (j := 0) (n := 68) rfl rfl dX12_partOf_67 rfl ?_
        refine go_iload (j := 8) (n := 70) rfl dX12_partOf_68 rfl ?_
        replace E := Option.bind_eq_some_iff.mp E; obtain ⟨a9, ea9, E⟩ := E
        obtain ⟨fa9, ga9⟩ := xrc_some ea9
        replace E := xb_some E; obtain ⟨v7, h8, ev7, E⟩ := E
        refine go_callV (y := yX12_weightOf) (n := 73) (st := [vl l2]) (as := [vi l12]) (stk9 := [vl v7, vl l2]) (OX12_weightOf ev7) yw_X12_weightOf ci_12 ga9 wml_RX12_369 wim_X12_weightOf wse_X12_weightOf (Nat.le_of_ble_eq_true rfl) rfl ⟨Nat.le_of_ble_eq_true rfl, Nat.le_of_ble_eq_true rfl⟩ (Nat.le_of_ble_eq_true rfl) dX12_partOf_70 rfl (by cases fa9; rfl) rfl ?_
        refine go_goto (tgt := 82) dX12_partOf_73 rfl ?_
        exact SX12_partOf_L82   _ hrc55 _ _ _ _ _ _ _ _ _ _ _ _ E
noncomputable def X12_partOf_L34 (F : Nat)  (rc6 : Nat → Int → Int → Int → Int → Int → HP → Option (Int × HP)) (l0 : Nat) (l1 : Int) (l2 : Int) (l4 : Int) (l7 : Int) (s0 : Int) (s1 : Int) (h : HP) : Option (Int × HP) :=
  rc6 l0 l1 l2 l4 (w64 (s1 + s0)) (w32 (l7 + 1)) h
set_option maxRecDepth 100000 in
theorem SX12_partOf_L34 {K : Ctx} {F : Nat} {r : Int} {hf : HP}   (rc6 : Nat → Int → Int → Int → Int → Int → HP → Option (Int × HP)) (hrc6 : ∀ l0 l1 l2 l4 l5 l7 h, rc6 l0 l1 l2 l4 l5 l7 h = some (r, hf) → Go K MX12_partOf (QM K (some (vl r)) hf) hf 6 [(0, vr (some l0)), (1, vi l1), (2, vl l2), (4, vi l4), (5, vl l5), (7, vi l7)] [] h) (l0 : Nat) (l1 : Int) (l2 : Int) (l4 : Int) (l7 : Int) (s0 : Int) (s1 : Int) (h : HP) (E : X12_partOf_L34 F  rc6 l0 l1 l2 l4 l7 s0 s1 h = some (r, hf)) : Go K MX12_partOf (QM K (some (vl r)) hf) hf 34 [(0, vr (some l0)), (1, vi l1), (2, vl l2), (4, vi l4), (7, vi l7)] [vl s0, vl s1] h := by
  unfold X12_partOf_L34 at E
  refine go_ladd (n := 35) dX12_partOf_34 rfl ?_
  refine go_lstore (n := 37) (lv' := [(5, vl (w64 (s1 + s0))), (0, vr (some l0)), (1, vi l1), (2, vl l2), (4, vi l4), (7, vi l7)]) dX12_partOf_35 rfl (Nat.le_of_ble_eq_true rfl) rfl ?_
  refine go_iinc (j := 5) (n := 40) (lv' := [(7, vi (w32 (l7 + 1))), (5, vl (w64 (s1 + s0))), (0, vr (some l0)), (1, vi l1), (2, vl l2), (4, vi l4)]) rfl dX12_partOf_37 rfl (Nat.le_of_ble_eq_true rfl) rfl ?_
  refine go_goto (tgt := 6) dX12_partOf_40 rfl ?_
  refine go_pick (lv' := [(0, vr (some l0)), (1, vi l1), (2, vl l2), (4, vi l4), (5, vl (w64 (s1 + s0))), (7, vi (w32 (l7 + 1)))]) [2, 3, 4, 5, 1, 0] rfl ?_
  exact hrc6 _ _ _ _ _ _ _ E
noncomputable def X12_partOf_L6 (F : Nat)   (k : Nat) : Nat → Int → Int → Int → Int → Int → HP → Option (Int × HP) :=
  Nat.rec (motive := fun _ => Nat → Int → Int → Int → Int → Int → HP → Option (Int × HP)) (fun _ _ _ _ _ _ _ => none) (fun _ rc6 l0 l1 l2 l4 l5 l7 h =>
    if 4 ≤ l7 then
      X12_partOf_L55 F F l0 l1 l2 l4 l5 l2 0 0 0 h
    else
      if l4 = 0 then
        (xrc h (some l0) 12 31).bind fun a5 =>
        xb (X12_minutesOf F a5 l7 h) fun v3 h4 =>
        X12_partOf_L34 F rc6 l0 l1 l2 l4 l7 v3 l5 h4
      else
        (xrc h (some l0) 12 31).bind fun a8 =>
        xb (X12_weightOf F a8 l7 h) fun v6 h7 =>
        X12_partOf_L34 F rc6 l0 l1 l2 l4 l7 v6 l5 h7) k
theorem X12_partOf_L6_s (F : Nat)   (k : Nat) (l0 : Nat) (l1 : Int) (l2 : Int) (l4 : Int) (l5 : Int) (l7 : Int)  (h : HP) : X12_partOf_L6 F   (k + 1) l0 l1 l2 l4 l5 l7 h =
    if 4 ≤ l7 then
      X12_partOf_L55 F F l0 l1 l2 l4 l5 l2 0 0 0 h
    else
      if l4 = 0 then
        (xrc h (some l0) 12 31).bind fun a5 =>
        xb (X12_minutesOf F a5 l7 h) fun v3 h4 =>
        X12_partOf_L34 F (X12_partOf_L6 F k) l0 l1 l2 l4 l7 v3 l5 h4
      else
        (xrc h (some l0) 12 31).bind fun a8 =>
        xb (X12_weightOf F a8 l7 h) fun v6 h7 =>
        X12_partOf_L34 F (X12_partOf_L6 F k) l0 l1 l2 l4 l7 v6 l5 h7 := rfl
set_option maxRecDepth 100000 in
theorem SX12_partOf_L6 {K : Ctx} {F : Nat} {r : Int} {hf : HP}     : ∀ (k : Nat) (l0 : Nat) (l1 : Int) (l2 : Int) (l4 : Int) (l5 : Int) (l7 : Int)  (h : HP), X12_partOf_L6 F   k l0 l1 l2 l4 l5 l7 h = some (r, hf) → Go K MX12_partOf (QM K (some (vl r)) hf) hf 6 [(0, vr (some l0)), (1, vi l1), (2, vl l2), (4, vi l4), (5, vl l5), (7, vi l7)] [] h := by
  intro k
  induction k with
  | zero => intro l0 l1 l2 l4 l5 l7 h E; exact nomatch E
  | succ k hrc6 =>
    intro l0 l1 l2 l4 l5 l7 h E
    rw [X12_partOf_L6_s] at E
    refine go_iload (j := 5) (n := 8) rfl dX12_partOf_6 rfl ?_
    refine go_iconst (z := 4) (n := 9) ⟨by decide, by decide⟩ dX12_partOf_8 rfl ?_
    refine go_icmp_ge (tgt := 43) (n := 12) dX12_partOf_9 rfl rfl (fun c1 => ?_) (fun c1 => ?_)
    · rw [if_pos c1] at E
      refine go_lload_n (j := 2) (n := 44) rfl rfl dX12_partOf_43 rfl ?_
      refine go_lstore (n := 46) (lv' := [(7, vl l2), (0, vr (some l0)), (1, vi l1), (2, vl l2), (4, vi l4), (5, vl l5)]) dX12_partOf_44 rfl (Nat.le_of_ble_eq_true rfl) rfl ?_
      refine go_lconst (w := 0) (n := 47) rfl dX12_partOf_46 rfl ?_
      refine go_lstore (n := 49) (lv' := [(9, vl 0), (7, vl l2), (0, vr (some l0)), (1, vi l1), (2, vl l2), (4, vi l4), (5, vl l5)]) dX12_partOf_47 rfl (Nat.le_of_ble_eq_true rfl) rfl ?_
      refine go_iconst (z := 0) (n := 50) ⟨by decide, by decide⟩ dX12_partOf_49 rfl ?_
      refine go_istore (n := 52) (lv' := [(11, vi 0), (9, vl 0), (7, vl l2), (0, vr (some l0)), (1, vi l1), (2, vl l2), (4, vi l4), (5, vl l5)]) dX12_partOf_50 rfl (Nat.le_of_ble_eq_true rfl) rfl ?_
      refine go_iconst (z := 0) (n := 53) ⟨by decide, by decide⟩ dX12_partOf_52 rfl ?_
      refine go_istore (n := 55) (lv' := [(12, vi 0), (11, vi 0), (9, vl 0), (7, vl l2), (0, vr (some l0)), (1, vi l1), (2, vl l2), (4, vi l4), (5, vl l5)]) dX12_partOf_53 rfl (Nat.le_of_ble_eq_true rfl) rfl ?_
      refine go_pick (lv' := [(0, vr (some l0)), (1, vi l1), (2, vl l2), (4, vi l4), (5, vl l5), (7, vl l2), (9, vl 0), (11, vi 0), (12, vi 0)]) [4, 5, 6, 7, 8, 3, 2, 1, 0] rfl ?_
      exact SX12_partOf_L55     F _ _ _ _ _ _ _ _ _ _ E
    · rw [if_neg c1] at E
      refine go_lload (j := 4) (n := 14) rfl dX12_partOf_12 rfl ?_
      refine go_iload (j := 3) (n := 16) rfl dX12_partOf_14 rfl ?_
      refine go_if_eq (tgt := 28) (n := 19) dX12_partOf_16 rfl rfl (fun c2 => ?_) (fun c2 => ?_)
      · rw [if_pos c2] at E
        refine go_aload_n (j := 0) (n := 29) rfl rfl dX12_partOf_28 rfl ?_
        refine go_iload (j := 5) (n := 31) rfl dX12_partOf_29 rfl ?_
        replace E := Option.bind_eq_some_iff.mp E; obtain ⟨a5, ea5, E⟩ := E
        obtain ⟨fa5, ga5⟩ := xrc_some ea5
        replace E := xb_some E; obtain ⟨v3, h4, ev3, E⟩ := E
        refine go_callV (y := yX12_minutesOf) (n := 34) (st := [vl l5]) (as := [vi l7]) (stk9 := [vl v3, vl l5]) (OX12_minutesOf ev3) yw_X12_minutesOf ci_12 ga5 wml_RX12_364 wim_X12_minutesOf wse_X12_minutesOf (Nat.le_of_ble_eq_true rfl) rfl ⟨Nat.le_of_ble_eq_true rfl, Nat.le_of_ble_eq_true rfl⟩ (Nat.le_of_ble_eq_true rfl) dX12_partOf_31 rfl (by cases fa5; rfl) rfl ?_
        refine go_pick (lv' := [(0, vr (some l0)), (1, vi l1), (2, vl l2), (4, vi l4), (7, vi l7)]) [0, 1, 2, 3, 5] rfl ?_
        exact SX12_partOf_L34   _ hrc6 _ _ _ _ _ _ _ _ E
      · rw [if_neg c2] at E
        refine go_aload_n (j := 0) (n := 20) rfl rfl dX12_partOf_19 rfl ?_
        refine go_iload (j := 5) (n := 22) rfl dX12_partOf_20 rfl ?_
        replace E := Option.bind_eq_some_iff.mp E; obtain ⟨a8, ea8, E⟩ := E
        obtain ⟨fa8, ga8⟩ := xrc_some ea8
        replace E := xb_some E; obtain ⟨v6, h7, ev6, E⟩ := E
        refine go_callV (y := yX12_weightOf) (n := 25) (st := [vl l5]) (as := [vi l7]) (stk9 := [vl v6, vl l5]) (OX12_weightOf ev6) yw_X12_weightOf ci_12 ga8 wml_RX12_369 wim_X12_weightOf wse_X12_weightOf (Nat.le_of_ble_eq_true rfl) rfl ⟨Nat.le_of_ble_eq_true rfl, Nat.le_of_ble_eq_true rfl⟩ (Nat.le_of_ble_eq_true rfl) dX12_partOf_22 rfl (by cases fa8; rfl) rfl ?_
        refine go_goto (tgt := 34) dX12_partOf_25 rfl ?_
        refine go_pick (lv' := [(0, vr (some l0)), (1, vi l1), (2, vl l2), (4, vi l4), (7, vi l7)]) [0, 1, 2, 3, 5] rfl ?_
        exact SX12_partOf_L34   _ hrc6 _ _ _ _ _ _ _ _ E
noncomputable def X12_partOf (F : Nat)   (l0 : Nat) (l1 : Int) (l2 : Int) (l4 : Int)  (h : HP) : Option (Int × HP) :=
  X12_partOf_L6 F F l0 l1 l2 l4 0 0 h
set_option maxRecDepth 100000 in
theorem SX12_partOf {K : Ctx} {F : Nat} {r : Int} {hf : HP}     (l0 : Nat) (l1 : Int) (l2 : Int) (l4 : Int)  (h : HP) (E : X12_partOf F   l0 l1 l2 l4 h = some (r, hf)) : Go K MX12_partOf (QM K (some (vl r)) hf) hf 0 [(0, vr (some l0)), (1, vi l1), (2, vl l2), (4, vi l4)] [] h := by
  unfold X12_partOf at E
  refine go_lconst (w := 0) (n := 1) rfl dX12_partOf_0 rfl ?_
  refine go_lstore (n := 3) (lv' := [(5, vl 0), (0, vr (some l0)), (1, vi l1), (2, vl l2), (4, vi l4)]) dX12_partOf_1 rfl (Nat.le_of_ble_eq_true rfl) rfl ?_
  refine go_iconst (z := 0) (n := 4) ⟨by decide, by decide⟩ dX12_partOf_3 rfl ?_
  refine go_istore (n := 6) (lv' := [(7, vi 0), (5, vl 0), (0, vr (some l0)), (1, vi l1), (2, vl l2), (4, vi l4)]) dX12_partOf_4 rfl (Nat.le_of_ble_eq_true rfl) rfl ?_
  refine go_pick (lv' := [(0, vr (some l0)), (1, vi l1), (2, vl l2), (4, vi l4), (5, vl 0), (7, vi 0)]) [2, 3, 4, 5, 1, 0] rfl ?_
  exact SX12_partOf_L6     F _ _ _ _ _ _ _ E
theorem OX12_partOf {F : Nat} {l0 : Nat} {l1 : Int} {l2 : Int} {l4 : Int} {h hf : HP} {r : Int} (e : X12_partOf F l0 l1 l2 l4 h = some (r, hf)) : Ok MX12_partOf [vr (some l0), vi l1, vl l2, vi l4] (some (vl r)) h hf := fun K _ _ _ => SX12_partOf l0 l1 l2 l4 h e
theorem yw_X12_partOf : YW yX12_partOf cX12_partOf 15 (some .long) 3 := ⟨bw_of 2256 (by decide +kernel) rfl, bw_of 129 (by decide +kernel) rfl, ⟨by decide +kernel, by decide +kernel, by decide +kernel⟩, by decide +kernel⟩
theorem wml_RX12_372 : Cond.methodLink RX12 372 yX12_partOf ∈ BW := bw_of 2253 (by decide +kernel) rfl
theorem wim_X12_partOf : Cond.instanceMethod yX12_partOf ∈ BW := bw_of 2255 (by decide +kernel) rfl
theorem wse_X12_partOf : Cond.selects RX12 yX12_partOf yX12_partOf ∈ BW := bw_of 109 (by decide +kernel) rfl
abbrev MX12_cost : MI := (RX12, cX12_cost, 2, (some .long), 6, none, "cost")
noncomputable def X12_cost (F : Nat)   (l0 : Nat) (l1 : Int)  (h : HP) : Option (Int × HP) :=
  (xpI h (some l0) 12 31 0 0).bind fun h1 =>
  xb (X12_noGood F l1 h1) fun v2 h3 =>
  (xrc h3 (some l0) 12 31).bind fun a6 =>
  xb (X12_throwsIf F a6 v2 1 h3) fun v4 h5 =>
  if v4 = 0 then
    (xrc h5 (some l0) 12 31).bind fun a10 =>
    xb (X12_numberOf F a10 l1 h5) fun v8 h9 =>
    if (xcmp v8 0) = 0 then
      some (0, h9)
    else
      (xrc h9 (some l0) 12 31).bind fun a14 =>
      xb (X12_numberOf F a14 l1 h9) fun v12 h13 =>
      (xgP h13 (some l0) 12 31 1).bind fun v15 =>
      (xaI h13 v15 100 (w32 ((w32 (11254 + (w32 (4 * l1)))) + 3))).bind fun v16 =>
      (xgP h13 (some l0) 12 31 1).bind fun v17 =>
      (xaI h13 v17 100 11273).bind fun v18 =>
      (xrc h13 (some l0) 12 31).bind fun a21 =>
      xb (X12_partOf F a21 l1 v18 0 h13) fun v19 h20 =>
      (xgP h20 (some l0) 12 31 1).bind fun v22 =>
      (xaI h20 v22 100 11274).bind fun v23 =>
      (xrc h20 (some l0) 12 31).bind fun a26 =>
      xb (X12_partOf F a26 l1 v23 1 h20) fun v24 h25 =>
      some (w64 ((w64 ((w64 (v12 * v16)) + v19)) + v24), h25)
  else
    some (0, h5)
set_option maxRecDepth 100000 in
theorem SX12_cost {K : Ctx} {F : Nat} {r : Int} {hf : HP}     (l0 : Nat) (l1 : Int)  (h : HP) (E : X12_cost F   l0 l1 h = some (r, hf)) : Go K MX12_cost (QM K (some (vl r)) hf) hf 0 [(0, vr (some l0)), (1, vi l1)] [] h := by
  unfold X12_cost at E
  refine go_aload_n (j := 0) (n := 1) rfl rfl dX12_cost_0 rfl ?_
  refine go_iconst (z := 0) (n := 2) ⟨by decide, by decide⟩ dX12_cost_1 rfl ?_
  replace E := Option.bind_eq_some_iff.mp E; obtain ⟨h1, eh1, E⟩ := E
  refine go_putI (n := 5) eh1 fl_RX12_3 rfl dX12_cost_2 rfl ?_
  refine go_aload_n (j := 0) (n := 6) rfl rfl dX12_cost_5 rfl ?_
  refine go_iload_n (j := 1) (n := 7) rfl rfl dX12_cost_6 rfl ?_
  replace E := xb_some E; obtain ⟨v2, h3, ev2, E⟩ := E
  refine go_callS (y := yX12_noGood) (n := 10) (st := [vr (some l0)]) (as := [vi l1]) (stk9 := [vi v2, vr (some l0)]) (OX12_noGood ev2) yw_X12_noGood wml_RX12_93 wst_X12_noGood (Nat.le_of_ble_eq_true rfl) rfl ⟨Nat.le_of_ble_eq_true rfl, Nat.le_of_ble_eq_true rfl⟩ (Nat.le_of_ble_eq_true rfl) dX12_cost_7 rfl rfl rfl ?_
  refine go_iconst (z := 1) (n := 11) ⟨by decide, by decide⟩ dX12_cost_10 rfl ?_
  replace E := Option.bind_eq_some_iff.mp E; obtain ⟨a6, ea6, E⟩ := E
  obtain ⟨fa6, ga6⟩ := xrc_some ea6
  replace E := xb_some E; obtain ⟨v4, h5, ev4, E⟩ := E
  refine go_callV (y := yX12_throwsIf) (n := 14) (st := []) (as := [vi v2, vi 1]) (stk9 := [vi v4]) (OX12_throwsIf ev4) yw_X12_throwsIf ci_12 ga6 wml_RX12_65 wim_X12_throwsIf wse_X12_throwsIf (Nat.le_of_ble_eq_true rfl) rfl ⟨Nat.le_of_ble_eq_true rfl, Nat.le_of_ble_eq_true rfl⟩ (Nat.le_of_ble_eq_true rfl) dX12_cost_11 rfl (by cases fa6; rfl) rfl ?_
  refine go_if_ne (tgt := 27) (n := 17) dX12_cost_14 rfl rfl (fun c7 => ?_) (fun c7 => ?_)
  · rw [if_neg c7] at E
    refine go_lconst (w := 0) (n := 28) rfl dX12_cost_27 rfl ?_
    cases E
    exact go_lreturn rfl dX12_cost_28
  · rw [if_pos c7] at E
    refine go_aload_n (j := 0) (n := 18) rfl rfl dX12_cost_17 rfl ?_
    refine go_iload_n (j := 1) (n := 19) rfl rfl dX12_cost_18 rfl ?_
    replace E := Option.bind_eq_some_iff.mp E; obtain ⟨a10, ea10, E⟩ := E
    obtain ⟨fa10, ga10⟩ := xrc_some ea10
    replace E := xb_some E; obtain ⟨v8, h9, ev8, E⟩ := E
    refine go_callV (y := yX12_numberOf) (n := 22) (st := []) (as := [vi l1]) (stk9 := [vl v8]) (OX12_numberOf ev8) yw_X12_numberOf ci_12 ga10 wml_RX12_355 wim_X12_numberOf wse_X12_numberOf (Nat.le_of_ble_eq_true rfl) rfl ⟨Nat.le_of_ble_eq_true rfl, Nat.le_of_ble_eq_true rfl⟩ (Nat.le_of_ble_eq_true rfl) dX12_cost_19 rfl (by cases fa10; rfl) rfl ?_
    refine go_lconst (w := 0) (n := 23) rfl dX12_cost_22 rfl ?_
    refine go_lcmp (n := 24) dX12_cost_23 rfl ?_
    refine go_if_ne (tgt := 29) (n := 27) dX12_cost_24 rfl rfl (fun c11 => ?_) (fun c11 => ?_)
    · rw [if_neg c11] at E
      refine go_aload_n (j := 0) (n := 30) rfl rfl dX12_cost_29 rfl ?_
      refine go_iload_n (j := 1) (n := 31) rfl rfl dX12_cost_30 rfl ?_
      replace E := Option.bind_eq_some_iff.mp E; obtain ⟨a14, ea14, E⟩ := E
      obtain ⟨fa14, ga14⟩ := xrc_some ea14
      replace E := xb_some E; obtain ⟨v12, h13, ev12, E⟩ := E
      refine go_callV (y := yX12_numberOf) (n := 34) (st := []) (as := [vi l1]) (stk9 := [vl v12]) (OX12_numberOf ev12) yw_X12_numberOf ci_12 ga14 wml_RX12_355 wim_X12_numberOf wse_X12_numberOf (Nat.le_of_ble_eq_true rfl) rfl ⟨Nat.le_of_ble_eq_true rfl, Nat.le_of_ble_eq_true rfl⟩ (Nat.le_of_ble_eq_true rfl) dX12_cost_31 rfl (by cases fa14; rfl) rfl ?_
      refine go_aload_n (j := 0) (n := 35) rfl rfl dX12_cost_34 rfl ?_
      replace E := Option.bind_eq_some_iff.mp E; obtain ⟨v15, ev15, E⟩ := E
      refine go_getP (n := 38) ev15 fl_RX12_14 rfl dX12_cost_35 rfl ?_
      refine go_sipush (z := 11254) (n := 41) ⟨by decide, by decide⟩ dX12_cost_38 rfl ?_
      refine go_iconst (z := 4) (n := 42) ⟨by decide, by decide⟩ dX12_cost_41 rfl ?_
      refine go_iload_n (j := 1) (n := 43) rfl rfl dX12_cost_42 rfl ?_
      refine go_imul (n := 44) dX12_cost_43 rfl ?_
      refine go_iadd (n := 45) dX12_cost_44 rfl ?_
      refine go_iconst (z := 3) (n := 46) ⟨by decide, by decide⟩ dX12_cost_45 rfl ?_
      refine go_iadd (n := 47) dX12_cost_46 rfl ?_
      replace E := Option.bind_eq_some_iff.mp E; obtain ⟨v16, ev16, E⟩ := E
      refine go_iaload (n := 48) ev16 dX12_cost_47 rfl ?_
      refine go_i2l (n := 49) dX12_cost_48 rfl ?_
      refine go_lmul (n := 50) dX12_cost_49 rfl ?_
      refine go_aload_n (j := 0) (n := 51) rfl rfl dX12_cost_50 rfl ?_
      refine go_iload_n (j := 1) (n := 52) rfl rfl dX12_cost_51 rfl ?_
      refine go_aload_n (j := 0) (n := 53) rfl rfl dX12_cost_52 rfl ?_
      replace E := Option.bind_eq_some_iff.mp E; obtain ⟨v17, ev17, E⟩ := E
      refine go_getP (n := 56) ev17 fl_RX12_14 rfl dX12_cost_53 rfl ?_
      refine go_sipush (z := 11273) (n := 59) ⟨by decide, by decide⟩ dX12_cost_56 rfl ?_
      replace E := Option.bind_eq_some_iff.mp E; obtain ⟨v18, ev18, E⟩ := E
      refine go_iaload (n := 60) ev18 dX12_cost_59 rfl ?_
      refine go_i2l (n := 61) dX12_cost_60 rfl ?_
      refine go_iconst (z := 0) (n := 62) ⟨by decide, by decide⟩ dX12_cost_61 rfl ?_
      replace E := Option.bind_eq_some_iff.mp E; obtain ⟨a21, ea21, E⟩ := E
      obtain ⟨fa21, ga21⟩ := xrc_some ea21
      replace E := xb_some E; obtain ⟨v19, h20, ev19, E⟩ := E
      refine go_callV (y := yX12_partOf) (n := 65) (st := [vl (w64 (v12 * v16))]) (as := [vi l1, vl v18, vi 0]) (stk9 := [vl v19, vl (w64 (v12 * v16))]) (OX12_partOf ev19) yw_X12_partOf ci_12 ga21 wml_RX12_372 wim_X12_partOf wse_X12_partOf (Nat.le_of_ble_eq_true rfl) rfl ⟨Nat.le_of_ble_eq_true rfl, Nat.le_of_ble_eq_true rfl⟩ (Nat.le_of_ble_eq_true rfl) dX12_cost_62 rfl (by cases fa21; rfl) rfl ?_
      refine go_ladd (n := 66) dX12_cost_65 rfl ?_
      refine go_aload_n (j := 0) (n := 67) rfl rfl dX12_cost_66 rfl ?_
      refine go_iload_n (j := 1) (n := 68) rfl rfl dX12_cost_67 rfl ?_
      refine go_aload_n (j := 0) (n := 69) rfl rfl dX12_cost_68 rfl ?_
      replace E := Option.bind_eq_some_iff.mp E; obtain ⟨v22, ev22, E⟩ := E
      refine go_getP (n := 72) ev22 fl_RX12_14 rfl dX12_cost_69 rfl ?_
      refine go_sipush (z := 11274) (n := 75) ⟨by decide, by decide⟩ dX12_cost_72 rfl ?_
      replace E := Option.bind_eq_some_iff.mp E; obtain ⟨v23, ev23, E⟩ := E
      refine go_iaload (n := 76) ev23 dX12_cost_75 rfl ?_
      refine go_i2l (n := 77) dX12_cost_76 rfl ?_
      refine go_iconst (z := 1) (n := 78) ⟨by decide, by decide⟩ dX12_cost_77 rfl ?_
      replace E := Option.bind_eq_some_iff.mp E; obtain ⟨a26, ea26, E⟩ := E
      obtain ⟨fa26, ga26⟩ := xrc_some ea26
      replace E := xb_some E; obtain ⟨v24, h25, ev24, E⟩ := E
      refine go_callV (y := yX12_partOf) (n := 81) (st := [vl (w64 ((w64 (v12 * v16)) + v19))]) (as := [vi l1, vl v23, vi 1]) (stk9 := [vl v24, vl (w64 ((w64 (v12 * v16)) + v19))]) (OX12_partOf ev24) yw_X12_partOf ci_12 ga26 wml_RX12_372 wim_X12_partOf wse_X12_partOf (Nat.le_of_ble_eq_true rfl) rfl ⟨Nat.le_of_ble_eq_true rfl, Nat.le_of_ble_eq_true rfl⟩ (Nat.le_of_ble_eq_true rfl) dX12_cost_78 rfl (by cases fa26; rfl) rfl ?_
      refine go_ladd (n := 82) dX12_cost_81 rfl ?_
      cases E
      exact go_lreturn rfl dX12_cost_82
    · rw [if_pos c11] at E
      refine go_lconst (w := 0) (n := 28) rfl dX12_cost_27 rfl ?_
      cases E
      exact go_lreturn rfl dX12_cost_28
theorem OX12_cost {F : Nat} {l0 : Nat} {l1 : Int} {h hf : HP} {r : Int} (e : X12_cost F l0 l1 h = some (r, hf)) : Ok MX12_cost [vr (some l0), vi l1] (some (vl r)) h hf := fun K _ _ _ => SX12_cost l0 l1 h e
abbrev MX12_worker : MI := (RX12, cX12_worker, 4, (some .int), 3, none, "worker")
noncomputable def X12_worker_L58 (F : Nat)   (l0 : Nat) (l1 : Int) (l2 : Int) (s0 : Int) (s1 : Option Nat) (h : HP) : Option (Int × HP) :=
  (xrc h s1 12 31).bind fun a3 =>
  xb (X12_throwsIf F a3 s0 2 h) fun v1 h2 =>
  if v1 = 0 then
    (xgP h2 (some l0) 12 31 1).bind fun v5 =>
    (xaI h2 v5 100 11275).bind fun v6 =>
    (xgP h2 (some l0) 12 31 1).bind fun v7 =>
    (xaI h2 v7 100 11275).bind fun v8 =>
    (xsI h2 v7 11275 (w32 (v8 + 1))).bind fun h9 =>
    (xgP h9 (some l0) 12 31 1).bind fun v10 =>
    (xsI h9 v10 (w32 (11276 + (w32 (4 * v6)))) l1).bind fun h11 =>
    (xgP h11 (some l0) 12 31 1).bind fun v12 =>
    (xsI h11 v12 (w32 ((w32 (11276 + (w32 (4 * v6)))) + 1)) l2).bind fun h13 =>
    (xgP h13 (some l0) 12 31 1).bind fun v14 =>
    (xsI h13 v14 (w32 ((w32 (11276 + (w32 (4 * v6)))) + 2)) (-1)).bind fun h15 =>
    (xgP h15 (some l0) 12 31 1).bind fun v16 =>
    (xsI h15 v16 (w32 ((w32 (11276 + (w32 (4 * v6)))) + 3)) 0).bind fun h17 =>
    some (v6, h17)
  else
    some (0, h2)
set_option maxRecDepth 100000 in
theorem SX12_worker_L58 {K : Ctx} {F : Nat} {r : Int} {hf : HP}     (l0 : Nat) (l1 : Int) (l2 : Int) (s0 : Int) (s1 : Option Nat) (h : HP) (E : X12_worker_L58 F   l0 l1 l2 s0 s1 h = some (r, hf)) : Go K MX12_worker (QM K (some (vi r)) hf) hf 58 [(0, vr (some l0)), (1, vi l1), (2, vi l2)] [vi s0, vr s1] h := by
  unfold X12_worker_L58 at E
  refine go_iconst (z := 2) (n := 59) ⟨by decide, by decide⟩ dX12_worker_58 rfl ?_
  replace E := Option.bind_eq_some_iff.mp E; obtain ⟨a3, ea3, E⟩ := E
  obtain ⟨fa3, ga3⟩ := xrc_some ea3
  replace E := xb_some E; obtain ⟨v1, h2, ev1, E⟩ := E
  refine go_callV (y := yX12_throwsIf) (n := 62) (st := []) (as := [vi s0, vi 2]) (stk9 := [vi v1]) (OX12_throwsIf ev1) yw_X12_throwsIf ci_12 ga3 wml_RX12_65 wim_X12_throwsIf wse_X12_throwsIf (Nat.le_of_ble_eq_true rfl) rfl ⟨Nat.le_of_ble_eq_true rfl, Nat.le_of_ble_eq_true rfl⟩ (Nat.le_of_ble_eq_true rfl) dX12_worker_59 rfl (by cases fa3; rfl) rfl ?_
  refine go_if_eq (tgt := 67) (n := 65) dX12_worker_62 rfl rfl (fun c4 => ?_) (fun c4 => ?_)
  · rw [if_pos c4] at E
    refine go_aload_n (j := 0) (n := 68) rfl rfl dX12_worker_67 rfl ?_
    replace E := Option.bind_eq_some_iff.mp E; obtain ⟨v5, ev5, E⟩ := E
    refine go_getP (n := 71) ev5 fl_RX12_14 rfl dX12_worker_68 rfl ?_
    refine go_sipush (z := 11275) (n := 74) ⟨by decide, by decide⟩ dX12_worker_71 rfl ?_
    replace E := Option.bind_eq_some_iff.mp E; obtain ⟨v6, ev6, E⟩ := E
    refine go_iaload (n := 75) ev6 dX12_worker_74 rfl ?_
    refine go_istore_n (n := 76) (lv' := [(3, vi v6), (0, vr (some l0)), (1, vi l1), (2, vi l2)]) rfl dX12_worker_75 rfl (Nat.le_of_ble_eq_true rfl) rfl ?_
    refine go_aload_n (j := 1) (n := 77) rfl rfl dX12_worker_76 rfl ?_
    replace E := Option.bind_eq_some_iff.mp E; obtain ⟨v7, ev7, E⟩ := E
    refine go_getP (n := 80) ev7 fl_RX12_14 rfl dX12_worker_77 rfl ?_
    refine go_sipush (z := 11275) (n := 83) ⟨by decide, by decide⟩ dX12_worker_80 rfl ?_
    refine go_dup2 (n := 84) rfl rfl dX12_worker_83 rfl ?_
    replace E := Option.bind_eq_some_iff.mp E; obtain ⟨v8, ev8, E⟩ := E
    refine go_iaload (n := 85) ev8 dX12_worker_84 rfl ?_
    refine go_iconst (z := 1) (n := 86) ⟨by decide, by decide⟩ dX12_worker_85 rfl ?_
    refine go_iadd (n := 87) dX12_worker_86 rfl ?_
    replace E := Option.bind_eq_some_iff.mp E; obtain ⟨h9, eh9, E⟩ := E
    refine go_iastore (n := 88) eh9 dX12_worker_87 rfl ?_
    refine go_aload_n (j := 1) (n := 89) rfl rfl dX12_worker_88 rfl ?_
    replace E := Option.bind_eq_some_iff.mp E; obtain ⟨v10, ev10, E⟩ := E
    refine go_getP (n := 92) ev10 fl_RX12_14 rfl dX12_worker_89 rfl ?_
    refine go_sipush (z := 11276) (n := 95) ⟨by decide, by decide⟩ dX12_worker_92 rfl ?_
    refine go_iconst (z := 4) (n := 96) ⟨by decide, by decide⟩ dX12_worker_95 rfl ?_
    refine go_iload_n (j := 0) (n := 97) rfl rfl dX12_worker_96 rfl ?_
    refine go_imul (n := 98) dX12_worker_97 rfl ?_
    refine go_iadd (n := 99) dX12_worker_98 rfl ?_
    refine go_iload_n (j := 2) (n := 100) rfl rfl dX12_worker_99 rfl ?_
    replace E := Option.bind_eq_some_iff.mp E; obtain ⟨h11, eh11, E⟩ := E
    refine go_iastore (n := 101) eh11 dX12_worker_100 rfl ?_
    refine go_aload_n (j := 1) (n := 102) rfl rfl dX12_worker_101 rfl ?_
    replace E := Option.bind_eq_some_iff.mp E; obtain ⟨v12, ev12, E⟩ := E
    refine go_getP (n := 105) ev12 fl_RX12_14 rfl dX12_worker_102 rfl ?_
    refine go_sipush (z := 11276) (n := 108) ⟨by decide, by decide⟩ dX12_worker_105 rfl ?_
    refine go_iconst (z := 4) (n := 109) ⟨by decide, by decide⟩ dX12_worker_108 rfl ?_
    refine go_iload_n (j := 0) (n := 110) rfl rfl dX12_worker_109 rfl ?_
    refine go_imul (n := 111) dX12_worker_110 rfl ?_
    refine go_iadd (n := 112) dX12_worker_111 rfl ?_
    refine go_iconst (z := 1) (n := 113) ⟨by decide, by decide⟩ dX12_worker_112 rfl ?_
    refine go_iadd (n := 114) dX12_worker_113 rfl ?_
    refine go_iload_n (j := 3) (n := 115) rfl rfl dX12_worker_114 rfl ?_
    replace E := Option.bind_eq_some_iff.mp E; obtain ⟨h13, eh13, E⟩ := E
    refine go_iastore (n := 116) eh13 dX12_worker_115 rfl ?_
    refine go_aload_n (j := 1) (n := 117) rfl rfl dX12_worker_116 rfl ?_
    replace E := Option.bind_eq_some_iff.mp E; obtain ⟨v14, ev14, E⟩ := E
    refine go_getP (n := 120) ev14 fl_RX12_14 rfl dX12_worker_117 rfl ?_
    refine go_sipush (z := 11276) (n := 123) ⟨by decide, by decide⟩ dX12_worker_120 rfl ?_
    refine go_iconst (z := 4) (n := 124) ⟨by decide, by decide⟩ dX12_worker_123 rfl ?_
    refine go_iload_n (j := 0) (n := 125) rfl rfl dX12_worker_124 rfl ?_
    refine go_imul (n := 126) dX12_worker_125 rfl ?_
    refine go_iadd (n := 127) dX12_worker_126 rfl ?_
    refine go_iconst (z := 2) (n := 128) ⟨by decide, by decide⟩ dX12_worker_127 rfl ?_
    refine go_iadd (n := 129) dX12_worker_128 rfl ?_
    refine go_iconst (z := (-1)) (n := 130) ⟨by decide, by decide⟩ dX12_worker_129 rfl ?_
    replace E := Option.bind_eq_some_iff.mp E; obtain ⟨h15, eh15, E⟩ := E
    refine go_iastore (n := 131) eh15 dX12_worker_130 rfl ?_
    refine go_aload_n (j := 1) (n := 132) rfl rfl dX12_worker_131 rfl ?_
    replace E := Option.bind_eq_some_iff.mp E; obtain ⟨v16, ev16, E⟩ := E
    refine go_getP (n := 135) ev16 fl_RX12_14 rfl dX12_worker_132 rfl ?_
    refine go_sipush (z := 11276) (n := 138) ⟨by decide, by decide⟩ dX12_worker_135 rfl ?_
    refine go_iconst (z := 4) (n := 139) ⟨by decide, by decide⟩ dX12_worker_138 rfl ?_
    refine go_iload_n (j := 0) (n := 140) rfl rfl dX12_worker_139 rfl ?_
    refine go_imul (n := 141) dX12_worker_140 rfl ?_
    refine go_iadd (n := 142) dX12_worker_141 rfl ?_
    refine go_iconst (z := 3) (n := 143) ⟨by decide, by decide⟩ dX12_worker_142 rfl ?_
    refine go_iadd (n := 144) dX12_worker_143 rfl ?_
    refine go_iconst (z := 0) (n := 145) ⟨by decide, by decide⟩ dX12_worker_144 rfl ?_
    replace E := Option.bind_eq_some_iff.mp E; obtain ⟨h17, eh17, E⟩ := E
    refine go_iastore (n := 146) eh17 dX12_worker_145 rfl ?_
    refine go_iload_n (j := 0) (n := 147) rfl rfl dX12_worker_146 rfl ?_
    cases E
    exact go_ireturn rfl dX12_worker_147
  · rw [if_neg c4] at E
    refine go_iconst (z := 0) (n := 66) ⟨by decide, by decide⟩ dX12_worker_65 rfl ?_
    cases E
    exact go_ireturn rfl dX12_worker_66
noncomputable def X12_worker_L32 (F : Nat)   (l0 : Nat) (l1 : Int) (l2 : Int) (s0 : Int) (s1 : Option Nat) (h : HP) : Option (Int × HP) :=
  (xrc h s1 12 31).bind fun a3 =>
  xb (X12_throwsIf F a3 s0 1 h) fun v1 h2 =>
  if v1 = 0 then
    (xgP h2 (some l0) 12 31 1).bind fun v5 =>
    (xaI h2 v5 100 11275).bind fun v6 =>
    X12_worker_L58 F l0 l1 l2 (if v6 = 20 then 1 else 0) (some l0) h2
  else
    some (0, h2)
set_option maxRecDepth 100000 in
theorem SX12_worker_L32 {K : Ctx} {F : Nat} {r : Int} {hf : HP}     (l0 : Nat) (l1 : Int) (l2 : Int) (s0 : Int) (s1 : Option Nat) (h : HP) (E : X12_worker_L32 F   l0 l1 l2 s0 s1 h = some (r, hf)) : Go K MX12_worker (QM K (some (vi r)) hf) hf 32 [(0, vr (some l0)), (1, vi l1), (2, vi l2)] [vi s0, vr s1] h := by
  unfold X12_worker_L32 at E
  refine go_iconst (z := 1) (n := 33) ⟨by decide, by decide⟩ dX12_worker_32 rfl ?_
  replace E := Option.bind_eq_some_iff.mp E; obtain ⟨a3, ea3, E⟩ := E
  obtain ⟨fa3, ga3⟩ := xrc_some ea3
  replace E := xb_some E; obtain ⟨v1, h2, ev1, E⟩ := E
  refine go_callV (y := yX12_throwsIf) (n := 36) (st := []) (as := [vi s0, vi 1]) (stk9 := [vi v1]) (OX12_throwsIf ev1) yw_X12_throwsIf ci_12 ga3 wml_RX12_65 wim_X12_throwsIf wse_X12_throwsIf (Nat.le_of_ble_eq_true rfl) rfl ⟨Nat.le_of_ble_eq_true rfl, Nat.le_of_ble_eq_true rfl⟩ (Nat.le_of_ble_eq_true rfl) dX12_worker_33 rfl (by cases fa3; rfl) rfl ?_
  refine go_if_ne (tgt := 65) (n := 39) dX12_worker_36 rfl rfl (fun c4 => ?_) (fun c4 => ?_)
  · rw [if_neg c4] at E
    refine go_iconst (z := 0) (n := 66) ⟨by decide, by decide⟩ dX12_worker_65 rfl ?_
    cases E
    exact go_ireturn rfl dX12_worker_66
  · rw [if_pos c4] at E
    refine go_aload_n (j := 0) (n := 40) rfl rfl dX12_worker_39 rfl ?_
    refine go_aload_n (j := 0) (n := 41) rfl rfl dX12_worker_40 rfl ?_
    replace E := Option.bind_eq_some_iff.mp E; obtain ⟨v5, ev5, E⟩ := E
    refine go_getP (n := 44) ev5 fl_RX12_14 rfl dX12_worker_41 rfl ?_
    refine go_sipush (z := 11275) (n := 47) ⟨by decide, by decide⟩ dX12_worker_44 rfl ?_
    replace E := Option.bind_eq_some_iff.mp E; obtain ⟨v6, ev6, E⟩ := E
    refine go_iaload (n := 48) ev6 dX12_worker_47 rfl ?_
    refine go_bipush (z := 20) (n := 50) ⟨by decide, by decide⟩ dX12_worker_48 rfl ?_
    refine go_icmp_ne (tgt := 57) (n := 53) dX12_worker_50 rfl rfl (fun c7 => ?_) (fun c7 => ?_)
    · simp only [if_neg c7] at E
      refine go_iconst (z := 0) (n := 58) ⟨by decide, by decide⟩ dX12_worker_57 rfl ?_
      exact SX12_worker_L58     _ _ _ _ _ _ E
    · simp only [if_pos c7] at E
      refine go_iconst (z := 1) (n := 54) ⟨by decide, by decide⟩ dX12_worker_53 rfl ?_
      refine go_goto (tgt := 58) dX12_worker_54 rfl ?_
      exact SX12_worker_L58     _ _ _ _ _ _ E
noncomputable def X12_worker_L27 (F : Nat)   (l0 : Nat) (l1 : Int) (l2 : Int) (s0 : Option Nat) (h : HP) : Option (Int × HP) :=
  X12_worker_L32 F l0 l1 l2 1 s0 h
set_option maxRecDepth 100000 in
theorem SX12_worker_L27 {K : Ctx} {F : Nat} {r : Int} {hf : HP}     (l0 : Nat) (l1 : Int) (l2 : Int) (s0 : Option Nat) (h : HP) (E : X12_worker_L27 F   l0 l1 l2 s0 h = some (r, hf)) : Go K MX12_worker (QM K (some (vi r)) hf) hf 27 [(0, vr (some l0)), (1, vi l1), (2, vi l2)] [vr s0] h := by
  unfold X12_worker_L27 at E
  refine go_iconst (z := 1) (n := 28) ⟨by decide, by decide⟩ dX12_worker_27 rfl ?_
  refine go_goto (tgt := 32) dX12_worker_28 rfl ?_
  exact SX12_worker_L32     _ _ _ _ _ _ E
noncomputable def X12_worker (F : Nat)   (l0 : Nat) (l1 : Int) (l2 : Int)  (h : HP) : Option (Int × HP) :=
  (xpI h (some l0) 12 31 0 0).bind fun h1 =>
  xb (X12_in F l1 0 99 h1) fun v2 h3 =>
  if v2 = 0 then
    X12_worker_L27 F l0 l1 l2 (some l0) h3
  else
    xb (X12_in F l2 0 999 h3) fun v5 h6 =>
    if v5 = 0 then
      X12_worker_L27 F l0 l1 l2 (some l0) h6
    else
      X12_worker_L32 F l0 l1 l2 0 (some l0) h6
set_option maxRecDepth 100000 in
theorem SX12_worker {K : Ctx} {F : Nat} {r : Int} {hf : HP}     (l0 : Nat) (l1 : Int) (l2 : Int)  (h : HP) (E : X12_worker F   l0 l1 l2 h = some (r, hf)) : Go K MX12_worker (QM K (some (vi r)) hf) hf 0 [(0, vr (some l0)), (1, vi l1), (2, vi l2)] [] h := by
  unfold X12_worker at E
  refine go_aload_n (j := 0) (n := 1) rfl rfl dX12_worker_0 rfl ?_
  refine go_iconst (z := 0) (n := 2) ⟨by decide, by decide⟩ dX12_worker_1 rfl ?_
  replace E := Option.bind_eq_some_iff.mp E; obtain ⟨h1, eh1, E⟩ := E
  refine go_putI (n := 5) eh1 fl_RX12_3 rfl dX12_worker_2 rfl ?_
  refine go_aload_n (j := 0) (n := 6) rfl rfl dX12_worker_5 rfl ?_
  refine go_iload_n (j := 1) (n := 7) rfl rfl dX12_worker_6 rfl ?_
  refine go_iconst (z := 0) (n := 8) ⟨by decide, by decide⟩ dX12_worker_7 rfl ?_
  refine go_bipush (z := 99) (n := 10) ⟨by decide, by decide⟩ dX12_worker_8 rfl ?_
  replace E := xb_some E; obtain ⟨v2, h3, ev2, E⟩ := E
  refine go_callS (y := yX12_in) (n := 13) (st := [vr (some l0)]) (as := [vi l1, vi 0, vi 99]) (stk9 := [vi v2, vr (some l0)]) (OX12_in ev2) yw_X12_in wml_RX12_61 wst_X12_in (Nat.le_of_ble_eq_true rfl) rfl ⟨Nat.le_of_ble_eq_true rfl, Nat.le_of_ble_eq_true rfl⟩ (Nat.le_of_ble_eq_true rfl) dX12_worker_10 rfl rfl rfl ?_
  refine go_if_eq (tgt := 27) (n := 16) dX12_worker_13 rfl rfl (fun c4 => ?_) (fun c4 => ?_)
  · rw [if_pos c4] at E
    exact SX12_worker_L27     _ _ _ _ _ E
  · rw [if_neg c4] at E
    refine go_iload_n (j := 2) (n := 17) rfl rfl dX12_worker_16 rfl ?_
    refine go_iconst (z := 0) (n := 18) ⟨by decide, by decide⟩ dX12_worker_17 rfl ?_
    refine go_sipush (z := 999) (n := 21) ⟨by decide, by decide⟩ dX12_worker_18 rfl ?_
    replace E := xb_some E; obtain ⟨v5, h6, ev5, E⟩ := E
    refine go_callS (y := yX12_in) (n := 24) (st := [vr (some l0)]) (as := [vi l2, vi 0, vi 999]) (stk9 := [vi v5, vr (some l0)]) (OX12_in ev5) yw_X12_in wml_RX12_61 wst_X12_in (Nat.le_of_ble_eq_true rfl) rfl ⟨Nat.le_of_ble_eq_true rfl, Nat.le_of_ble_eq_true rfl⟩ (Nat.le_of_ble_eq_true rfl) dX12_worker_21 rfl rfl rfl ?_
    refine go_if_ne (tgt := 31) (n := 27) dX12_worker_24 rfl rfl (fun c7 => ?_) (fun c7 => ?_)
    · rw [if_neg c7] at E
      refine go_iconst (z := 0) (n := 32) ⟨by decide, by decide⟩ dX12_worker_31 rfl ?_
      exact SX12_worker_L32     _ _ _ _ _ _ E
    · rw [if_pos c7] at E
      exact SX12_worker_L27     _ _ _ _ _ E
theorem OX12_worker {F : Nat} {l0 : Nat} {l1 : Int} {l2 : Int} {h hf : HP} {r : Int} (e : X12_worker F l0 l1 l2 h = some (r, hf)) : Ok MX12_worker [vr (some l0), vi l1, vi l2] (some (vi r)) h hf := fun K _ _ _ => SX12_worker l0 l1 l2 h e
abbrev MX12_noWorker : MI := (RX12, cX12_noWorker, 2, (some .boolean), 3, none, "noWorker")
noncomputable def X12_noWorker (F : Nat)   (l0 : Nat) (l1 : Int)  (h : HP) : Option (Int × HP) :=
  (xgP h (some l0) 12 31 1).bind fun v1 =>
  (xaI h v1 100 11275).bind fun v2 =>
  xb (X12_in F l1 0 (w32 (v2 - 1)) h) fun v3 h4 =>
  some (if v3 = 0 then 1 else 0, h4)
set_option maxRecDepth 100000 in
theorem SX12_noWorker {K : Ctx} {F : Nat} {r : Int} {hf : HP}     (l0 : Nat) (l1 : Int)  (h : HP) (E : X12_noWorker F   l0 l1 h = some (r, hf)) : Go K MX12_noWorker (QM K (some (vi r)) hf) hf 0 [(0, vr (some l0)), (1, vi l1)] [] h := by
  unfold X12_noWorker at E
  refine go_iload_n (j := 1) (n := 1) rfl rfl dX12_noWorker_0 rfl ?_
  refine go_iconst (z := 0) (n := 2) ⟨by decide, by decide⟩ dX12_noWorker_1 rfl ?_
  refine go_aload_n (j := 0) (n := 3) rfl rfl dX12_noWorker_2 rfl ?_
  replace E := Option.bind_eq_some_iff.mp E; obtain ⟨v1, ev1, E⟩ := E
  refine go_getP (n := 6) ev1 fl_RX12_14 rfl dX12_noWorker_3 rfl ?_
  refine go_sipush (z := 11275) (n := 9) ⟨by decide, by decide⟩ dX12_noWorker_6 rfl ?_
  replace E := Option.bind_eq_some_iff.mp E; obtain ⟨v2, ev2, E⟩ := E
  refine go_iaload (n := 10) ev2 dX12_noWorker_9 rfl ?_
  refine go_iconst (z := 1) (n := 11) ⟨by decide, by decide⟩ dX12_noWorker_10 rfl ?_
  refine go_isub (n := 12) dX12_noWorker_11 rfl ?_
  replace E := xb_some E; obtain ⟨v3, h4, ev3, E⟩ := E
  refine go_callS (y := yX12_in) (n := 15) (st := []) (as := [vi l1, vi 0, vi (w32 (v2 - 1))]) (stk9 := [vi v3]) (OX12_in ev3) yw_X12_in wml_RX12_61 wst_X12_in (Nat.le_of_ble_eq_true rfl) rfl ⟨Nat.le_of_ble_eq_true rfl, Nat.le_of_ble_eq_true rfl⟩ (Nat.le_of_ble_eq_true rfl) dX12_noWorker_12 rfl rfl rfl ?_
  refine go_if_ne (tgt := 22) (n := 18) dX12_noWorker_15 rfl rfl (fun c5 => ?_) (fun c5 => ?_)
  · simp only [if_neg c5] at E
    refine go_iconst (z := 0) (n := 23) ⟨by decide, by decide⟩ dX12_noWorker_22 rfl ?_
    cases E
    exact go_zreturn rfl (Or.inl rfl) dX12_noWorker_23
  · simp only [if_pos c5] at E
    refine go_iconst (z := 1) (n := 19) ⟨by decide, by decide⟩ dX12_noWorker_18 rfl ?_
    refine go_goto (tgt := 23) dX12_noWorker_19 rfl ?_
    cases E
    exact go_zreturn rfl (Or.inr rfl) dX12_noWorker_23
theorem OX12_noWorker {F : Nat} {l0 : Nat} {l1 : Int} {h hf : HP} {r : Int} (e : X12_noWorker F l0 l1 h = some (r, hf)) : Ok MX12_noWorker [vr (some l0), vi l1] (some (vi r)) h hf := fun K _ _ _ => SX12_noWorker l0 l1 h e
theorem yw_X12_noWorker : YW yX12_noWorker cX12_noWorker 2 (some .boolean) 1 := ⟨bw_of 2272 (by decide +kernel) rfl, bw_of 129 (by decide +kernel) rfl, ⟨by decide +kernel, by decide +kernel, by decide +kernel⟩, by decide +kernel⟩
theorem wml_RX12_376 : Cond.methodLink RX12 376 yX12_noWorker ∈ BW := bw_of 2269 (by decide +kernel) rfl
theorem wim_X12_noWorker : Cond.instanceMethod yX12_noWorker ∈ BW := bw_of 2271 (by decide +kernel) rfl
theorem wse_X12_noWorker : Cond.selects RX12 yX12_noWorker yX12_noWorker ∈ BW := bw_of 111 (by decide +kernel) rfl
abbrev MX12_alter : MI := (RX12, cX12_alter, 5, (some .boolean), 4, none, "alter")
noncomputable def X12_alter_L68 (F : Nat)   (l0 : Nat) (l1 : Int) (l2 : Int) (l3 : Int) (s0 : Int) (s1 : Option Nat) (h : HP) : Option (Int × HP) :=
  (xrc h s1 12 31).bind fun a3 =>
  xb (X12_throwsIf F a3 s0 3 h) fun v1 h2 =>
  if v1 = 0 then
    (xgP h2 (some l0) 12 31 1).bind fun v5 =>
    (xaI h2 v5 100 (w32 (11276 + (w32 (4 * l1))))).bind fun v6 =>
    if v6 = l2 then
      some (0, h2)
    else
      (xgP h2 (some l0) 12 31 1).bind fun v8 =>
      (xsI h2 v8 (w32 (11276 + (w32 (4 * l1)))) l2).bind fun h9 =>
      (xgP h9 (some l0) 12 31 1).bind fun v10 =>
      (xsI h9 v10 (w32 ((w32 (11276 + (w32 (4 * l1)))) + 2)) l3).bind fun h11 =>
      (xgP h11 (some l0) 12 31 1).bind fun v12 =>
      (xaI h11 v12 100 (w32 ((w32 (11276 + (w32 (4 * l1)))) + 3))).bind fun v13 =>
      (xsI h11 v12 (w32 ((w32 (11276 + (w32 (4 * l1)))) + 3)) (w32 (v13 + 1))).bind fun h14 =>
      some (1, h14)
  else
    some (0, h2)
set_option maxRecDepth 100000 in
theorem SX12_alter_L68 {K : Ctx} {F : Nat} {r : Int} {hf : HP}     (l0 : Nat) (l1 : Int) (l2 : Int) (l3 : Int) (s0 : Int) (s1 : Option Nat) (h : HP) (E : X12_alter_L68 F   l0 l1 l2 l3 s0 s1 h = some (r, hf)) : Go K MX12_alter (QM K (some (vi r)) hf) hf 68 [(0, vr (some l0)), (1, vi l1), (2, vi l2), (3, vi l3)] [vi s0, vr s1] h := by
  unfold X12_alter_L68 at E
  refine go_iconst (z := 3) (n := 69) ⟨by decide, by decide⟩ dX12_alter_68 rfl ?_
  replace E := Option.bind_eq_some_iff.mp E; obtain ⟨a3, ea3, E⟩ := E
  obtain ⟨fa3, ga3⟩ := xrc_some ea3
  replace E := xb_some E; obtain ⟨v1, h2, ev1, E⟩ := E
  refine go_callV (y := yX12_throwsIf) (n := 72) (st := []) (as := [vi s0, vi 3]) (stk9 := [vi v1]) (OX12_throwsIf ev1) yw_X12_throwsIf ci_12 ga3 wml_RX12_65 wim_X12_throwsIf wse_X12_throwsIf (Nat.le_of_ble_eq_true rfl) rfl ⟨Nat.le_of_ble_eq_true rfl, Nat.le_of_ble_eq_true rfl⟩ (Nat.le_of_ble_eq_true rfl) dX12_alter_69 rfl (by cases fa3; rfl) rfl ?_
  refine go_if_eq (tgt := 77) (n := 75) dX12_alter_72 rfl rfl (fun c4 => ?_) (fun c4 => ?_)
  · rw [if_pos c4] at E
    refine go_sipush (z := 11276) (n := 80) ⟨by decide, by decide⟩ dX12_alter_77 rfl ?_
    refine go_iconst (z := 4) (n := 81) ⟨by decide, by decide⟩ dX12_alter_80 rfl ?_
    refine go_iload_n (j := 1) (n := 82) rfl rfl dX12_alter_81 rfl ?_
    refine go_imul (n := 83) dX12_alter_82 rfl ?_
    refine go_iadd (n := 84) dX12_alter_83 rfl ?_
    refine go_istore (n := 86) (lv' := [(4, vi (w32 (11276 + (w32 (4 * l1))))), (0, vr (some l0)), (1, vi l1), (2, vi l2), (3, vi l3)]) dX12_alter_84 rfl (Nat.le_of_ble_eq_true rfl) rfl ?_
    refine go_aload_n (j := 1) (n := 87) rfl rfl dX12_alter_86 rfl ?_
    replace E := Option.bind_eq_some_iff.mp E; obtain ⟨v5, ev5, E⟩ := E
    refine go_getP (n := 90) ev5 fl_RX12_14 rfl dX12_alter_87 rfl ?_
    refine go_iload (j := 0) (n := 92) rfl dX12_alter_90 rfl ?_
    replace E := Option.bind_eq_some_iff.mp E; obtain ⟨v6, ev6, E⟩ := E
    refine go_iaload (n := 93) ev6 dX12_alter_92 rfl ?_
    refine go_iload_n (j := 3) (n := 94) rfl rfl dX12_alter_93 rfl ?_
    refine go_icmp_ne (tgt := 99) (n := 97) dX12_alter_94 rfl rfl (fun c7 => ?_) (fun c7 => ?_)
    · rw [if_neg c7] at E
      refine go_aload_n (j := 1) (n := 100) rfl rfl dX12_alter_99 rfl ?_
      replace E := Option.bind_eq_some_iff.mp E; obtain ⟨v8, ev8, E⟩ := E
      refine go_getP (n := 103) ev8 fl_RX12_14 rfl dX12_alter_100 rfl ?_
      refine go_iload (j := 0) (n := 105) rfl dX12_alter_103 rfl ?_
      refine go_iload_n (j := 3) (n := 106) rfl rfl dX12_alter_105 rfl ?_
      replace E := Option.bind_eq_some_iff.mp E; obtain ⟨h9, eh9, E⟩ := E
      refine go_iastore (n := 107) eh9 dX12_alter_106 rfl ?_
      refine go_aload_n (j := 1) (n := 108) rfl rfl dX12_alter_107 rfl ?_
      replace E := Option.bind_eq_some_iff.mp E; obtain ⟨v10, ev10, E⟩ := E
      refine go_getP (n := 111) ev10 fl_RX12_14 rfl dX12_alter_108 rfl ?_
      refine go_iload (j := 0) (n := 113) rfl dX12_alter_111 rfl ?_
      refine go_iconst (z := 2) (n := 114) ⟨by decide, by decide⟩ dX12_alter_113 rfl ?_
      refine go_iadd (n := 115) dX12_alter_114 rfl ?_
      refine go_iload_n (j := 4) (n := 116) rfl rfl dX12_alter_115 rfl ?_
      replace E := Option.bind_eq_some_iff.mp E; obtain ⟨h11, eh11, E⟩ := E
      refine go_iastore (n := 117) eh11 dX12_alter_116 rfl ?_
      refine go_aload_n (j := 1) (n := 118) rfl rfl dX12_alter_117 rfl ?_
      replace E := Option.bind_eq_some_iff.mp E; obtain ⟨v12, ev12, E⟩ := E
      refine go_getP (n := 121) ev12 fl_RX12_14 rfl dX12_alter_118 rfl ?_
      refine go_iload (j := 0) (n := 123) rfl dX12_alter_121 rfl ?_
      refine go_iconst (z := 3) (n := 124) ⟨by decide, by decide⟩ dX12_alter_123 rfl ?_
      refine go_iadd (n := 125) dX12_alter_124 rfl ?_
      refine go_dup2 (n := 126) rfl rfl dX12_alter_125 rfl ?_
      replace E := Option.bind_eq_some_iff.mp E; obtain ⟨v13, ev13, E⟩ := E
      refine go_iaload (n := 127) ev13 dX12_alter_126 rfl ?_
      refine go_iconst (z := 1) (n := 128) ⟨by decide, by decide⟩ dX12_alter_127 rfl ?_
      refine go_iadd (n := 129) dX12_alter_128 rfl ?_
      replace E := Option.bind_eq_some_iff.mp E; obtain ⟨h14, eh14, E⟩ := E
      refine go_iastore (n := 130) eh14 dX12_alter_129 rfl ?_
      refine go_iconst (z := 1) (n := 131) ⟨by decide, by decide⟩ dX12_alter_130 rfl ?_
      cases E
      exact go_zreturn rfl (Or.inr rfl) dX12_alter_131
    · rw [if_pos c7] at E
      refine go_iconst (z := 0) (n := 98) ⟨by decide, by decide⟩ dX12_alter_97 rfl ?_
      cases E
      exact go_zreturn rfl (Or.inl rfl) dX12_alter_98
  · rw [if_neg c4] at E
    refine go_iconst (z := 0) (n := 76) ⟨by decide, by decide⟩ dX12_alter_75 rfl ?_
    cases E
    exact go_zreturn rfl (Or.inl rfl) dX12_alter_76
noncomputable def X12_alter_L44 (F : Nat)   (l0 : Nat) (l1 : Int) (l2 : Int) (l3 : Int) (s0 : Int) (s1 : Option Nat) (h : HP) : Option (Int × HP) :=
  (xrc h s1 12 31).bind fun a3 =>
  xb (X12_throwsIf F a3 s0 2 h) fun v1 h2 =>
  if v1 = 0 then
    (xgP h2 (some l0) 12 31 1).bind fun v5 =>
    (xaI h2 v5 100 6).bind fun v6 =>
    X12_alter_L68 F l0 l1 l2 l3 (if v6 = 1 then 1 else 0) (some l0) h2
  else
    some (0, h2)
set_option maxRecDepth 100000 in
theorem SX12_alter_L44 {K : Ctx} {F : Nat} {r : Int} {hf : HP}     (l0 : Nat) (l1 : Int) (l2 : Int) (l3 : Int) (s0 : Int) (s1 : Option Nat) (h : HP) (E : X12_alter_L44 F   l0 l1 l2 l3 s0 s1 h = some (r, hf)) : Go K MX12_alter (QM K (some (vi r)) hf) hf 44 [(0, vr (some l0)), (1, vi l1), (2, vi l2), (3, vi l3)] [vi s0, vr s1] h := by
  unfold X12_alter_L44 at E
  refine go_iconst (z := 2) (n := 45) ⟨by decide, by decide⟩ dX12_alter_44 rfl ?_
  replace E := Option.bind_eq_some_iff.mp E; obtain ⟨a3, ea3, E⟩ := E
  obtain ⟨fa3, ga3⟩ := xrc_some ea3
  replace E := xb_some E; obtain ⟨v1, h2, ev1, E⟩ := E
  refine go_callV (y := yX12_throwsIf) (n := 48) (st := []) (as := [vi s0, vi 2]) (stk9 := [vi v1]) (OX12_throwsIf ev1) yw_X12_throwsIf ci_12 ga3 wml_RX12_65 wim_X12_throwsIf wse_X12_throwsIf (Nat.le_of_ble_eq_true rfl) rfl ⟨Nat.le_of_ble_eq_true rfl, Nat.le_of_ble_eq_true rfl⟩ (Nat.le_of_ble_eq_true rfl) dX12_alter_45 rfl (by cases fa3; rfl) rfl ?_
  refine go_if_ne (tgt := 75) (n := 51) dX12_alter_48 rfl rfl (fun c4 => ?_) (fun c4 => ?_)
  · rw [if_neg c4] at E
    refine go_iconst (z := 0) (n := 76) ⟨by decide, by decide⟩ dX12_alter_75 rfl ?_
    cases E
    exact go_zreturn rfl (Or.inl rfl) dX12_alter_76
  · rw [if_pos c4] at E
    refine go_aload_n (j := 0) (n := 52) rfl rfl dX12_alter_51 rfl ?_
    refine go_aload_n (j := 0) (n := 53) rfl rfl dX12_alter_52 rfl ?_
    replace E := Option.bind_eq_some_iff.mp E; obtain ⟨v5, ev5, E⟩ := E
    refine go_getP (n := 56) ev5 fl_RX12_14 rfl dX12_alter_53 rfl ?_
    refine go_bipush (z := 6) (n := 58) ⟨by decide, by decide⟩ dX12_alter_56 rfl ?_
    replace E := Option.bind_eq_some_iff.mp E; obtain ⟨v6, ev6, E⟩ := E
    refine go_iaload (n := 59) ev6 dX12_alter_58 rfl ?_
    refine go_iconst (z := 1) (n := 60) ⟨by decide, by decide⟩ dX12_alter_59 rfl ?_
    refine go_icmp_ne (tgt := 67) (n := 63) dX12_alter_60 rfl rfl (fun c7 => ?_) (fun c7 => ?_)
    · simp only [if_neg c7] at E
      refine go_iconst (z := 0) (n := 68) ⟨by decide, by decide⟩ dX12_alter_67 rfl ?_
      exact SX12_alter_L68     _ _ _ _ _ _ _ E
    · simp only [if_pos c7] at E
      refine go_iconst (z := 1) (n := 64) ⟨by decide, by decide⟩ dX12_alter_63 rfl ?_
      refine go_goto (tgt := 68) dX12_alter_64 rfl ?_
      exact SX12_alter_L68     _ _ _ _ _ _ _ E
noncomputable def X12_alter_L39 (F : Nat)   (l0 : Nat) (l1 : Int) (l2 : Int) (l3 : Int) (s0 : Option Nat) (h : HP) : Option (Int × HP) :=
  X12_alter_L44 F l0 l1 l2 l3 1 s0 h
set_option maxRecDepth 100000 in
theorem SX12_alter_L39 {K : Ctx} {F : Nat} {r : Int} {hf : HP}     (l0 : Nat) (l1 : Int) (l2 : Int) (l3 : Int) (s0 : Option Nat) (h : HP) (E : X12_alter_L39 F   l0 l1 l2 l3 s0 h = some (r, hf)) : Go K MX12_alter (QM K (some (vi r)) hf) hf 39 [(0, vr (some l0)), (1, vi l1), (2, vi l2), (3, vi l3)] [vr s0] h := by
  unfold X12_alter_L39 at E
  refine go_iconst (z := 1) (n := 40) ⟨by decide, by decide⟩ dX12_alter_39 rfl ?_
  refine go_goto (tgt := 44) dX12_alter_40 rfl ?_
  exact SX12_alter_L44     _ _ _ _ _ _ _ E
noncomputable def X12_alter (F : Nat)   (l0 : Nat) (l1 : Int) (l2 : Int) (l3 : Int)  (h : HP) : Option (Int × HP) :=
  (xpI h (some l0) 12 31 0 0).bind fun h1 =>
  (xrc h1 (some l0) 12 31).bind fun a4 =>
  xb (X12_noWorker F a4 l1 h1) fun v2 h3 =>
  (xrc h3 (some l0) 12 31).bind fun a7 =>
  xb (X12_throwsIf F a7 v2 1 h3) fun v5 h6 =>
  if v5 = 0 then
    xb (X12_in F l2 0 99 h6) fun v9 h10 =>
    if v9 = 0 then
      X12_alter_L39 F l0 l1 l2 l3 (some l0) h10
    else
      xb (X12_in F l3 0 9 h10) fun v12 h13 =>
      if v12 = 0 then
        X12_alter_L39 F l0 l1 l2 l3 (some l0) h13
      else
        X12_alter_L44 F l0 l1 l2 l3 0 (some l0) h13
  else
    some (0, h6)
set_option maxRecDepth 100000 in
theorem SX12_alter {K : Ctx} {F : Nat} {r : Int} {hf : HP}     (l0 : Nat) (l1 : Int) (l2 : Int) (l3 : Int)  (h : HP) (E : X12_alter F   l0 l1 l2 l3 h = some (r, hf)) : Go K MX12_alter (QM K (some (vi r)) hf) hf 0 [(0, vr (some l0)), (1, vi l1), (2, vi l2), (3, vi l3)] [] h := by
  unfold X12_alter at E
  refine go_aload_n (j := 0) (n := 1) rfl rfl dX12_alter_0 rfl ?_
  refine go_iconst (z := 0) (n := 2) ⟨by decide, by decide⟩ dX12_alter_1 rfl ?_
  replace E := Option.bind_eq_some_iff.mp E; obtain ⟨h1, eh1, E⟩ := E
  refine go_putI (n := 5) eh1 fl_RX12_3 rfl dX12_alter_2 rfl ?_
  refine go_aload_n (j := 0) (n := 6) rfl rfl dX12_alter_5 rfl ?_
  refine go_aload_n (j := 0) (n := 7) rfl rfl dX12_alter_6 rfl ?_
  refine go_iload_n (j := 1) (n := 8) rfl rfl dX12_alter_7 rfl ?_
  replace E := Option.bind_eq_some_iff.mp E; obtain ⟨a4, ea4, E⟩ := E
  obtain ⟨fa4, ga4⟩ := xrc_some ea4
  replace E := xb_some E; obtain ⟨v2, h3, ev2, E⟩ := E
  refine go_callV (y := yX12_noWorker) (n := 11) (st := [vr (some l0)]) (as := [vi l1]) (stk9 := [vi v2, vr (some l0)]) (OX12_noWorker ev2) yw_X12_noWorker ci_12 ga4 wml_RX12_376 wim_X12_noWorker wse_X12_noWorker (Nat.le_of_ble_eq_true rfl) rfl ⟨Nat.le_of_ble_eq_true rfl, Nat.le_of_ble_eq_true rfl⟩ (Nat.le_of_ble_eq_true rfl) dX12_alter_8 rfl (by cases fa4; rfl) rfl ?_
  refine go_iconst (z := 1) (n := 12) ⟨by decide, by decide⟩ dX12_alter_11 rfl ?_
  replace E := Option.bind_eq_some_iff.mp E; obtain ⟨a7, ea7, E⟩ := E
  obtain ⟨fa7, ga7⟩ := xrc_some ea7
  replace E := xb_some E; obtain ⟨v5, h6, ev5, E⟩ := E
  refine go_callV (y := yX12_throwsIf) (n := 15) (st := []) (as := [vi v2, vi 1]) (stk9 := [vi v5]) (OX12_throwsIf ev5) yw_X12_throwsIf ci_12 ga7 wml_RX12_65 wim_X12_throwsIf wse_X12_throwsIf (Nat.le_of_ble_eq_true rfl) rfl ⟨Nat.le_of_ble_eq_true rfl, Nat.le_of_ble_eq_true rfl⟩ (Nat.le_of_ble_eq_true rfl) dX12_alter_12 rfl (by cases fa7; rfl) rfl ?_
  refine go_if_ne (tgt := 75) (n := 18) dX12_alter_15 rfl rfl (fun c8 => ?_) (fun c8 => ?_)
  · rw [if_neg c8] at E
    refine go_iconst (z := 0) (n := 76) ⟨by decide, by decide⟩ dX12_alter_75 rfl ?_
    cases E
    exact go_zreturn rfl (Or.inl rfl) dX12_alter_76
  · rw [if_pos c8] at E
    refine go_aload_n (j := 0) (n := 19) rfl rfl dX12_alter_18 rfl ?_
    refine go_iload_n (j := 2) (n := 20) rfl rfl dX12_alter_19 rfl ?_
    refine go_iconst (z := 0) (n := 21) ⟨by decide, by decide⟩ dX12_alter_20 rfl ?_
    refine go_bipush (z := 99) (n := 23) ⟨by decide, by decide⟩ dX12_alter_21 rfl ?_
    replace E := xb_some E; obtain ⟨v9, h10, ev9, E⟩ := E
    refine go_callS (y := yX12_in) (n := 26) (st := [vr (some l0)]) (as := [vi l2, vi 0, vi 99]) (stk9 := [vi v9, vr (some l0)]) (OX12_in ev9) yw_X12_in wml_RX12_61 wst_X12_in (Nat.le_of_ble_eq_true rfl) rfl ⟨Nat.le_of_ble_eq_true rfl, Nat.le_of_ble_eq_true rfl⟩ (Nat.le_of_ble_eq_true rfl) dX12_alter_23 rfl rfl rfl ?_
    refine go_if_eq (tgt := 39) (n := 29) dX12_alter_26 rfl rfl (fun c11 => ?_) (fun c11 => ?_)
    · rw [if_pos c11] at E
      exact SX12_alter_L39     _ _ _ _ _ _ E
    · rw [if_neg c11] at E
      refine go_iload_n (j := 3) (n := 30) rfl rfl dX12_alter_29 rfl ?_
      refine go_iconst (z := 0) (n := 31) ⟨by decide, by decide⟩ dX12_alter_30 rfl ?_
      refine go_bipush (z := 9) (n := 33) ⟨by decide, by decide⟩ dX12_alter_31 rfl ?_
      replace E := xb_some E; obtain ⟨v12, h13, ev12, E⟩ := E
      refine go_callS (y := yX12_in) (n := 36) (st := [vr (some l0)]) (as := [vi l3, vi 0, vi 9]) (stk9 := [vi v12, vr (some l0)]) (OX12_in ev12) yw_X12_in wml_RX12_61 wst_X12_in (Nat.le_of_ble_eq_true rfl) rfl ⟨Nat.le_of_ble_eq_true rfl, Nat.le_of_ble_eq_true rfl⟩ (Nat.le_of_ble_eq_true rfl) dX12_alter_33 rfl rfl rfl ?_
      refine go_if_ne (tgt := 43) (n := 39) dX12_alter_36 rfl rfl (fun c14 => ?_) (fun c14 => ?_)
      · rw [if_neg c14] at E
        refine go_iconst (z := 0) (n := 44) ⟨by decide, by decide⟩ dX12_alter_43 rfl ?_
        exact SX12_alter_L44     _ _ _ _ _ _ _ E
      · rw [if_pos c14] at E
        exact SX12_alter_L39     _ _ _ _ _ _ E
theorem OX12_alter {F : Nat} {l0 : Nat} {l1 : Int} {l2 : Int} {l3 : Int} {h hf : HP} {r : Int} (e : X12_alter F l0 l1 l2 l3 h = some (r, hf)) : Ok MX12_alter [vr (some l0), vi l1, vi l2, vi l3] (some (vi r)) h hf := fun K _ _ _ => SX12_alter l0 l1 l2 l3 h e
abbrev MX12_payOf : MI := (RX12, cX12_payOf, 3, (some .int), 2, none, "payOf")
noncomputable def X12_payOf (F : Nat)   (l0 : Nat) (l1 : Int)  (h : HP) : Option (Int × HP) :=
  (xgP h (some l0) 12 31 1).bind fun v1 =>
  (xaI h v1 100 (w32 (11276 + (w32 (4 * l1))))).bind fun v2 =>
  (xgP h (some l0) 12 31 1).bind fun v3 =>
  (xaI h v3 100 (w32 ((w32 (11276 + (w32 (4 * l1)))) + 1))).bind fun v4 =>
  some (w32 ((w32 ((w32 ((w32 (2 * v2)) + (max 0 (w32 (v2 - 40))))) * v4)).tdiv 2), h)
set_option maxRecDepth 100000 in
theorem SX12_payOf {K : Ctx} {F : Nat} {r : Int} {hf : HP}     (l0 : Nat) (l1 : Int)  (h : HP) (E : X12_payOf F   l0 l1 h = some (r, hf)) : Go K MX12_payOf (QM K (some (vi r)) hf) hf 0 [(0, vr (some l0)), (1, vi l1)] [] h := by
  unfold X12_payOf at E
  refine go_aload_n (j := 0) (n := 1) rfl rfl dX12_payOf_0 rfl ?_
  replace E := Option.bind_eq_some_iff.mp E; obtain ⟨v1, ev1, E⟩ := E
  refine go_getP (n := 4) ev1 fl_RX12_14 rfl dX12_payOf_1 rfl ?_
  refine go_sipush (z := 11276) (n := 7) ⟨by decide, by decide⟩ dX12_payOf_4 rfl ?_
  refine go_iconst (z := 4) (n := 8) ⟨by decide, by decide⟩ dX12_payOf_7 rfl ?_
  refine go_iload_n (j := 1) (n := 9) rfl rfl dX12_payOf_8 rfl ?_
  refine go_imul (n := 10) dX12_payOf_9 rfl ?_
  refine go_iadd (n := 11) dX12_payOf_10 rfl ?_
  replace E := Option.bind_eq_some_iff.mp E; obtain ⟨v2, ev2, E⟩ := E
  refine go_iaload (n := 12) ev2 dX12_payOf_11 rfl ?_
  refine go_istore_n (n := 13) (lv' := [(2, vi v2), (0, vr (some l0)), (1, vi l1)]) rfl dX12_payOf_12 rfl (Nat.le_of_ble_eq_true rfl) rfl ?_
  refine go_iconst (z := 2) (n := 14) ⟨by decide, by decide⟩ dX12_payOf_13 rfl ?_
  refine go_iload_n (j := 0) (n := 15) rfl rfl dX12_payOf_14 rfl ?_
  refine go_imul (n := 16) dX12_payOf_15 rfl ?_
  refine go_iconst (z := 0) (n := 17) ⟨by decide, by decide⟩ dX12_payOf_16 rfl ?_
  refine go_iload_n (j := 0) (n := 18) rfl rfl dX12_payOf_17 rfl ?_
  refine go_bipush (z := 40) (n := 20) ⟨by decide, by decide⟩ dX12_payOf_18 rfl ?_
  refine go_isub (n := 21) dX12_payOf_20 rfl ?_
  refine go_mmax (n := 24) wml_RX12_345 jm_max_i (Nat.le_of_ble_eq_true rfl) (Nat.le_of_ble_eq_true rfl) dX12_payOf_21 rfl ?_
  refine go_iadd (n := 25) dX12_payOf_24 rfl ?_
  refine go_aload_n (j := 1) (n := 26) rfl rfl dX12_payOf_25 rfl ?_
  replace E := Option.bind_eq_some_iff.mp E; obtain ⟨v3, ev3, E⟩ := E
  refine go_getP (n := 29) ev3 fl_RX12_14 rfl dX12_payOf_26 rfl ?_
  refine go_sipush (z := 11276) (n := 32) ⟨by decide, by decide⟩ dX12_payOf_29 rfl ?_
  refine go_iconst (z := 4) (n := 33) ⟨by decide, by decide⟩ dX12_payOf_32 rfl ?_
  refine go_iload_n (j := 2) (n := 34) rfl rfl dX12_payOf_33 rfl ?_
  refine go_imul (n := 35) dX12_payOf_34 rfl ?_
  refine go_iadd (n := 36) dX12_payOf_35 rfl ?_
  refine go_iconst (z := 1) (n := 37) ⟨by decide, by decide⟩ dX12_payOf_36 rfl ?_
  refine go_iadd (n := 38) dX12_payOf_37 rfl ?_
  replace E := Option.bind_eq_some_iff.mp E; obtain ⟨v4, ev4, E⟩ := E
  refine go_iaload (n := 39) ev4 dX12_payOf_38 rfl ?_
  refine go_imul (n := 40) dX12_payOf_39 rfl ?_
  refine go_iconst (z := 2) (n := 41) ⟨by decide, by decide⟩ dX12_payOf_40 rfl ?_
  refine go_idiv (n := 42) (by decide) dX12_payOf_41 rfl ?_
  cases E
  exact go_ireturn rfl dX12_payOf_42
theorem OX12_payOf {F : Nat} {l0 : Nat} {l1 : Int} {h hf : HP} {r : Int} (e : X12_payOf F l0 l1 h = some (r, hf)) : Ok MX12_payOf [vr (some l0), vi l1] (some (vi r)) h hf := fun K _ _ _ => SX12_payOf l0 l1 h e
theorem yw_X12_payOf : YW yX12_payOf cX12_payOf 3 (some .int) 1 := ⟨bw_of 2280 (by decide +kernel) rfl, bw_of 129 (by decide +kernel) rfl, ⟨by decide +kernel, by decide +kernel, by decide +kernel⟩, by decide +kernel⟩
theorem wml_RX12_379 : Cond.methodLink RX12 379 yX12_payOf ∈ BW := bw_of 2277 (by decide +kernel) rfl
theorem wim_X12_payOf : Cond.instanceMethod yX12_payOf ∈ BW := bw_of 2279 (by decide +kernel) rfl
theorem wse_X12_payOf : Cond.selects RX12 yX12_payOf yX12_payOf ∈ BW := bw_of 112 (by decide +kernel) rfl
abbrev MX12_pay : MI := (RX12, cX12_pay, 3, (some .int), 4, none, "pay")
noncomputable def X12_pay_L75 (F : Nat)    (s0 : Int) (s1 : Int) (s2 : Option Nat) (h : HP) : Option (Int × HP) :=
  (xaI h s2 100 (w32 (s1 + s0))).bind fun v1 =>
  some (v1, h)
set_option maxRecDepth 100000 in
theorem SX12_pay_L75 {K : Ctx} {F : Nat} {r : Int} {hf : HP}      (s0 : Int) (s1 : Int) (s2 : Option Nat) (h : HP) (E : X12_pay_L75 F   s0 s1 s2 h = some (r, hf)) : Go K MX12_pay (QM K (some (vi r)) hf) hf 75 [] [vi s0, vi s1, vr s2] h := by
  unfold X12_pay_L75 at E
  refine go_iadd (n := 76) dX12_pay_75 rfl ?_
  replace E := Option.bind_eq_some_iff.mp E; obtain ⟨v1, ev1, E⟩ := E
  refine go_iaload (n := 77) ev1 dX12_pay_76 rfl ?_
  cases E
  exact go_ireturn rfl dX12_pay_77
noncomputable def X12_pay_L33 (F : Nat)   (l0 : Nat) (l1 : Int) (l2 : Int) (s0 : Int) (s1 : Option Nat) (h : HP) : Option (Int × HP) :=
  (xrc h s1 12 31).bind fun a3 =>
  xb (X12_throwsIf F a3 s0 2 h) fun v1 h2 =>
  if v1 = 0 then
    if l2 = 0 then
      (xrc h2 (some l0) 12 31).bind fun a10 =>
      xb (X12_payOf F a10 l1 h2) fun v8 h9 =>
      some (v8, h9)
    else
      (xgP h2 (some l0) 12 31 1).bind fun v6 =>
      X12_pay_L75 F (if l2 = 1 then 0 else l2) (w32 (11276 + (w32 (4 * l1)))) v6 h2
  else
    some (0, h2)
set_option maxRecDepth 100000 in
theorem SX12_pay_L33 {K : Ctx} {F : Nat} {r : Int} {hf : HP}     (l0 : Nat) (l1 : Int) (l2 : Int) (s0 : Int) (s1 : Option Nat) (h : HP) (E : X12_pay_L33 F   l0 l1 l2 s0 s1 h = some (r, hf)) : Go K MX12_pay (QM K (some (vi r)) hf) hf 33 [(0, vr (some l0)), (1, vi l1), (2, vi l2)] [vi s0, vr s1] h := by
  unfold X12_pay_L33 at E
  refine go_iconst (z := 2) (n := 34) ⟨by decide, by decide⟩ dX12_pay_33 rfl ?_
  replace E := Option.bind_eq_some_iff.mp E; obtain ⟨a3, ea3, E⟩ := E
  obtain ⟨fa3, ga3⟩ := xrc_some ea3
  replace E := xb_some E; obtain ⟨v1, h2, ev1, E⟩ := E
  refine go_callV (y := yX12_throwsIf) (n := 37) (st := []) (as := [vi s0, vi 2]) (stk9 := [vi v1]) (OX12_throwsIf ev1) yw_X12_throwsIf ci_12 ga3 wml_RX12_65 wim_X12_throwsIf wse_X12_throwsIf (Nat.le_of_ble_eq_true rfl) rfl ⟨Nat.le_of_ble_eq_true rfl, Nat.le_of_ble_eq_true rfl⟩ (Nat.le_of_ble_eq_true rfl) dX12_pay_34 rfl (by cases fa3; rfl) rfl ?_
  refine go_if_eq (tgt := 42) (n := 40) dX12_pay_37 rfl rfl (fun c4 => ?_) (fun c4 => ?_)
  · rw [if_pos c4] at E
    refine go_iload_n (j := 2) (n := 43) rfl rfl dX12_pay_42 rfl ?_
    refine go_if_ne (tgt := 54) (n := 46) dX12_pay_43 rfl rfl (fun c5 => ?_) (fun c5 => ?_)
    · rw [if_neg c5] at E
      refine go_aload_n (j := 0) (n := 55) rfl rfl dX12_pay_54 rfl ?_
      replace E := Option.bind_eq_some_iff.mp E; obtain ⟨v6, ev6, E⟩ := E
      refine go_getP (n := 58) ev6 fl_RX12_14 rfl dX12_pay_55 rfl ?_
      refine go_sipush (z := 11276) (n := 61) ⟨by decide, by decide⟩ dX12_pay_58 rfl ?_
      refine go_iconst (z := 4) (n := 62) ⟨by decide, by decide⟩ dX12_pay_61 rfl ?_
      refine go_iload_n (j := 1) (n := 63) rfl rfl dX12_pay_62 rfl ?_
      refine go_imul (n := 64) dX12_pay_63 rfl ?_
      refine go_iadd (n := 65) dX12_pay_64 rfl ?_
      refine go_iload_n (j := 2) (n := 66) rfl rfl dX12_pay_65 rfl ?_
      refine go_iconst (z := 1) (n := 67) ⟨by decide, by decide⟩ dX12_pay_66 rfl ?_
      refine go_icmp_ne (tgt := 74) (n := 70) dX12_pay_67 rfl rfl (fun c7 => ?_) (fun c7 => ?_)
      · simp only [if_neg c7] at E
        refine go_iload_n (j := 2) (n := 75) rfl rfl dX12_pay_74 rfl ?_
        refine go_pick (lv' := []) [] rfl ?_
        exact SX12_pay_L75      _ _ _ _ E
      · simp only [if_pos c7] at E
        refine go_iconst (z := 0) (n := 71) ⟨by decide, by decide⟩ dX12_pay_70 rfl ?_
        refine go_goto (tgt := 75) dX12_pay_71 rfl ?_
        refine go_pick (lv' := []) [] rfl ?_
        exact SX12_pay_L75      _ _ _ _ E
    · rw [if_pos c5] at E
      refine go_aload_n (j := 0) (n := 47) rfl rfl dX12_pay_46 rfl ?_
      refine go_iload_n (j := 1) (n := 48) rfl rfl dX12_pay_47 rfl ?_
      replace E := Option.bind_eq_some_iff.mp E; obtain ⟨a10, ea10, E⟩ := E
      obtain ⟨fa10, ga10⟩ := xrc_some ea10
      replace E := xb_some E; obtain ⟨v8, h9, ev8, E⟩ := E
      refine go_callV (y := yX12_payOf) (n := 51) (st := []) (as := [vi l1]) (stk9 := [vi v8]) (OX12_payOf ev8) yw_X12_payOf ci_12 ga10 wml_RX12_379 wim_X12_payOf wse_X12_payOf (Nat.le_of_ble_eq_true rfl) rfl ⟨Nat.le_of_ble_eq_true rfl, Nat.le_of_ble_eq_true rfl⟩ (Nat.le_of_ble_eq_true rfl) dX12_pay_48 rfl (by cases fa10; rfl) rfl ?_
      refine go_goto (tgt := 77) dX12_pay_51 rfl ?_
      cases E
      exact go_ireturn rfl dX12_pay_77
  · rw [if_neg c4] at E
    refine go_iconst (z := 0) (n := 41) ⟨by decide, by decide⟩ dX12_pay_40 rfl ?_
    cases E
    exact go_ireturn rfl dX12_pay_41
noncomputable def X12_pay (F : Nat)   (l0 : Nat) (l1 : Int) (l2 : Int)  (h : HP) : Option (Int × HP) :=
  (xpI h (some l0) 12 31 0 0).bind fun h1 =>
  (xrc h1 (some l0) 12 31).bind fun a4 =>
  xb (X12_noWorker F a4 l1 h1) fun v2 h3 =>
  (xrc h3 (some l0) 12 31).bind fun a7 =>
  xb (X12_throwsIf F a7 v2 1 h3) fun v5 h6 =>
  if v5 = 0 then
    xb (X12_in F l2 0 3 h6) fun v9 h10 =>
    X12_pay_L33 F l0 l1 l2 (if v9 = 0 then 1 else 0) (some l0) h10
  else
    some (0, h6)
set_option maxRecDepth 100000 in
theorem SX12_pay {K : Ctx} {F : Nat} {r : Int} {hf : HP}     (l0 : Nat) (l1 : Int) (l2 : Int)  (h : HP) (E : X12_pay F   l0 l1 l2 h = some (r, hf)) : Go K MX12_pay (QM K (some (vi r)) hf) hf 0 [(0, vr (some l0)), (1, vi l1), (2, vi l2)] [] h := by
  unfold X12_pay at E
  refine go_aload_n (j := 0) (n := 1) rfl rfl dX12_pay_0 rfl ?_
  refine go_iconst (z := 0) (n := 2) ⟨by decide, by decide⟩ dX12_pay_1 rfl ?_
  replace E := Option.bind_eq_some_iff.mp E; obtain ⟨h1, eh1, E⟩ := E
  refine go_putI (n := 5) eh1 fl_RX12_3 rfl dX12_pay_2 rfl ?_
  refine go_aload_n (j := 0) (n := 6) rfl rfl dX12_pay_5 rfl ?_
  refine go_aload_n (j := 0) (n := 7) rfl rfl dX12_pay_6 rfl ?_
  refine go_iload_n (j := 1) (n := 8) rfl rfl dX12_pay_7 rfl ?_
  replace E := Option.bind_eq_some_iff.mp E; obtain ⟨a4, ea4, E⟩ := E
  obtain ⟨fa4, ga4⟩ := xrc_some ea4
  replace E := xb_some E; obtain ⟨v2, h3, ev2, E⟩ := E
  refine go_callV (y := yX12_noWorker) (n := 11) (st := [vr (some l0)]) (as := [vi l1]) (stk9 := [vi v2, vr (some l0)]) (OX12_noWorker ev2) yw_X12_noWorker ci_12 ga4 wml_RX12_376 wim_X12_noWorker wse_X12_noWorker (Nat.le_of_ble_eq_true rfl) rfl ⟨Nat.le_of_ble_eq_true rfl, Nat.le_of_ble_eq_true rfl⟩ (Nat.le_of_ble_eq_true rfl) dX12_pay_8 rfl (by cases fa4; rfl) rfl ?_
  refine go_iconst (z := 1) (n := 12) ⟨by decide, by decide⟩ dX12_pay_11 rfl ?_
  replace E := Option.bind_eq_some_iff.mp E; obtain ⟨a7, ea7, E⟩ := E
  obtain ⟨fa7, ga7⟩ := xrc_some ea7
  replace E := xb_some E; obtain ⟨v5, h6, ev5, E⟩ := E
  refine go_callV (y := yX12_throwsIf) (n := 15) (st := []) (as := [vi v2, vi 1]) (stk9 := [vi v5]) (OX12_throwsIf ev5) yw_X12_throwsIf ci_12 ga7 wml_RX12_65 wim_X12_throwsIf wse_X12_throwsIf (Nat.le_of_ble_eq_true rfl) rfl ⟨Nat.le_of_ble_eq_true rfl, Nat.le_of_ble_eq_true rfl⟩ (Nat.le_of_ble_eq_true rfl) dX12_pay_12 rfl (by cases fa7; rfl) rfl ?_
  refine go_if_ne (tgt := 40) (n := 18) dX12_pay_15 rfl rfl (fun c8 => ?_) (fun c8 => ?_)
  · rw [if_neg c8] at E
    refine go_iconst (z := 0) (n := 41) ⟨by decide, by decide⟩ dX12_pay_40 rfl ?_
    cases E
    exact go_ireturn rfl dX12_pay_41
  · rw [if_pos c8] at E
    refine go_aload_n (j := 0) (n := 19) rfl rfl dX12_pay_18 rfl ?_
    refine go_iload_n (j := 2) (n := 20) rfl rfl dX12_pay_19 rfl ?_
    refine go_iconst (z := 0) (n := 21) ⟨by decide, by decide⟩ dX12_pay_20 rfl ?_
    refine go_iconst (z := 3) (n := 22) ⟨by decide, by decide⟩ dX12_pay_21 rfl ?_
    replace E := xb_some E; obtain ⟨v9, h10, ev9, E⟩ := E
    refine go_callS (y := yX12_in) (n := 25) (st := [vr (some l0)]) (as := [vi l2, vi 0, vi 3]) (stk9 := [vi v9, vr (some l0)]) (OX12_in ev9) yw_X12_in wml_RX12_61 wst_X12_in (Nat.le_of_ble_eq_true rfl) rfl ⟨Nat.le_of_ble_eq_true rfl, Nat.le_of_ble_eq_true rfl⟩ (Nat.le_of_ble_eq_true rfl) dX12_pay_22 rfl rfl rfl ?_
    refine go_if_ne (tgt := 32) (n := 28) dX12_pay_25 rfl rfl (fun c11 => ?_) (fun c11 => ?_)
    · simp only [if_neg c11] at E
      refine go_iconst (z := 0) (n := 33) ⟨by decide, by decide⟩ dX12_pay_32 rfl ?_
      exact SX12_pay_L33     _ _ _ _ _ _ E
    · simp only [if_pos c11] at E
      refine go_iconst (z := 1) (n := 29) ⟨by decide, by decide⟩ dX12_pay_28 rfl ?_
      refine go_goto (tgt := 33) dX12_pay_29 rfl ?_
      exact SX12_pay_L33     _ _ _ _ _ _ E
theorem OX12_pay {F : Nat} {l0 : Nat} {l1 : Int} {l2 : Int} {h hf : HP} {r : Int} (e : X12_pay F l0 l1 l2 h = some (r, hf)) : Ok MX12_pay [vr (some l0), vi l1, vi l2] (some (vi r)) h hf := fun K _ _ _ => SX12_pay l0 l1 l2 h e
