/-! the methods, decompiled: written by dec.py -/
abbrev MX7_jobOf : MI := (RX7, cX7_jobOf, 2, (some .int), 3, none, "jobOf")
noncomputable def X7_jobOf (F : Nat)   (l0 : Nat) (l1 : Int)  (h : HP) : Option (Int × HP) :=
  if l1 < 0 then
    some ((-1), h)
  else
    if 5120 ≤ l1 then
      some ((-1), h)
    else
      (xgP h (some l0) 7 10 6).bind fun v3 =>
      (xaI h v3 100 l1).bind fun v4 =>
      xb (X7_jobIn F v4 h) fun v5 h6 =>
      some (v5, h6)
set_option maxRecDepth 100000 in
theorem SX7_jobOf {K : Ctx} {F : Nat} {r : Int} {hf : HP}     (l0 : Nat) (l1 : Int)  (h : HP) (E : X7_jobOf F   l0 l1 h = some (r, hf)) : Go K MX7_jobOf (QM K (some (vi r)) hf) hf 0 [(0, vr (some l0)), (1, vi l1)] [] h := by
  unfold X7_jobOf at E
  refine go_iload_n (j := 1) (n := 1) rfl rfl dX7_jobOf_0 rfl ?_
  refine go_if_lt (tgt := 23) (n := 4) dX7_jobOf_1 rfl rfl (fun c1 => ?_) (fun c1 => ?_)
  · rw [if_pos c1] at E
    refine go_iconst (z := (-1)) (n := 24) ⟨by decide, by decide⟩ dX7_jobOf_23 rfl ?_
    cases E
    exact go_ireturn rfl dX7_jobOf_24
  · rw [if_neg c1] at E
    refine go_iload_n (j := 1) (n := 5) rfl rfl dX7_jobOf_4 rfl ?_
    refine go_sipush (z := 5120) (n := 8) ⟨by decide, by decide⟩ dX7_jobOf_5 rfl ?_
    refine go_icmp_ge (tgt := 23) (n := 11) dX7_jobOf_8 rfl rfl (fun c2 => ?_) (fun c2 => ?_)
    · rw [if_pos c2] at E
      refine go_iconst (z := (-1)) (n := 24) ⟨by decide, by decide⟩ dX7_jobOf_23 rfl ?_
      cases E
      exact go_ireturn rfl dX7_jobOf_24
    · rw [if_neg c2] at E
      refine go_aload_n (j := 0) (n := 12) rfl rfl dX7_jobOf_11 rfl ?_
      replace E := Option.bind_eq_some_iff.mp E; obtain ⟨v3, ev3, E⟩ := E
      refine go_getP (n := 15) ev3 fl_RX7_30 rfl dX7_jobOf_12 rfl ?_
      refine go_iload_n (j := 1) (n := 16) rfl rfl dX7_jobOf_15 rfl ?_
      replace E := Option.bind_eq_some_iff.mp E; obtain ⟨v4, ev4, E⟩ := E
      refine go_iaload (n := 17) ev4 dX7_jobOf_16 rfl ?_
      replace E := xb_some E; obtain ⟨v5, h6, ev5, E⟩ := E
      refine go_callS (y := yX7_jobIn) (n := 20) (st := []) (as := [vi v4]) (stk9 := [vi v5]) (OX7_jobIn ev5) yw_X7_jobIn wml_RX7_60 wst_X7_jobIn (Nat.le_of_ble_eq_true rfl) rfl ⟨Nat.le_of_ble_eq_true rfl, Nat.le_of_ble_eq_true rfl⟩ (Nat.le_of_ble_eq_true rfl) dX7_jobOf_17 rfl rfl rfl ?_
      refine go_goto (tgt := 24) dX7_jobOf_20 rfl ?_
      cases E
      exact go_ireturn rfl dX7_jobOf_24
theorem OX7_jobOf {F : Nat} {l0 : Nat} {l1 : Int} {h hf : HP} {r : Int} (e : X7_jobOf F l0 l1 h = some (r, hf)) : Ok MX7_jobOf [vr (some l0), vi l1] (some (vi r)) h hf := fun K _ _ _ => SX7_jobOf l0 l1 h e
theorem yw_X7_jobOf : YW yX7_jobOf cX7_jobOf 2 (some .int) 1 := ⟨bw_of 1057 (by decide +kernel) rfl, bw_of 121 (by decide +kernel) rfl, ⟨by decide +kernel, by decide +kernel, by decide +kernel⟩, by decide +kernel⟩
theorem wml_RX11_84 : Cond.methodLink RX11 84 yX7_jobOf ∈ BW := bw_of 1054 (by decide +kernel) rfl
theorem wim_X7_jobOf : Cond.instanceMethod yX7_jobOf ∈ BW := bw_of 1055 (by decide +kernel) rfl
theorem wse_X7_jobOf : Cond.selects RX7 yX7_jobOf yX7_jobOf ∈ BW := bw_of 1056 (by decide +kernel) rfl
abbrev MX11_led : MI := (RX11, cX11_led, 4, (some .int), 13, some [], "led")
noncomputable def X11_led (F : Nat)   (l0 : Nat) (l1 : Int) (l2 : Int)  (h : HP) : Option ((String ⊕ Int) × HP) :=
  xth (X11_needPlace F l1 64 h) fun v1 h2 =>
  (xgP h2 (some l0) 11 6 2).bind fun v3 =>
  (xgP h2 v3 4 12 1).bind fun v4 =>
  (xrc h2 v4 7 10).bind fun a7 =>
  xb (X7_latestRow F a7 l1 l2 h2) fun v5 h6 =>
  if v5 = (-1) then
    some (.inr (-2), h6)
  else
    (xgP h6 (some l0) 11 6 2).bind fun v9 =>
    (xgP h6 v9 4 12 1).bind fun v10 =>
    (xrc h6 v10 7 10).bind fun a13 =>
    xb (X7_jobOf F a13 v5 h6) fun v11 h12 =>
    some (.inr v11, h12)
set_option maxRecDepth 100000 in
theorem SX11_led {K : Ctx} {F : Nat} {r : String ⊕ Int} {hf : HP}     (l0 : Nat) (l1 : Int) (l2 : Int)  (h : HP) (E : X11_led F   l0 l1 l2 h = some (r, hf)) : Go K MX11_led (QMX K (rI r) hf) hf 0 [(0, vr (some l0)), (1, vi l1), (2, vi l2)] [] h := by
  unfold X11_led at E
  refine go_iload_n (j := 1) (n := 1) rfl rfl dX11_led_0 rfl ?_
  refine go_bipush (z := 64) (n := 3) ⟨by decide, by decide⟩ dX11_led_1 rfl ?_
  replace E := xth_some E; rcases E with ⟨x14, ev1, rfl⟩ | ⟨v1, h2, ev1, E⟩
  · exact go_callXSt (y := yX11_needPlace) (as := [vi l1, vi 64]) (st := []) (OXX11_needPlace ev1) yw_X11_needPlace wml_RX11_54 wst_X11_needPlace (Nat.le_of_ble_eq_true rfl) rfl ⟨Nat.le_of_ble_eq_true rfl, Nat.le_of_ble_eq_true rfl⟩ (Nat.le_of_ble_eq_true rfl) dX11_led_3 rfl rfl
  refine go_callXSr (y := yX11_needPlace) (n := 6) (st := []) (as := [vi l1, vi 64]) (stk9 := []) (OXX11_needPlace ev1) yw_X11_needPlace wml_RX11_54 wst_X11_needPlace (Nat.le_of_ble_eq_true rfl) rfl ⟨Nat.le_of_ble_eq_true rfl, Nat.le_of_ble_eq_true rfl⟩ (Nat.le_of_ble_eq_true rfl) dX11_led_3 rfl rfl rfl ?_
  refine go_aload_n (j := 0) (n := 7) rfl rfl dX11_led_6 rfl ?_
  replace E := Option.bind_eq_some_iff.mp E; obtain ⟨v3, ev3, E⟩ := E
  refine go_getP (n := 10) ev3 fl_RX11_23 rfl dX11_led_7 rfl ?_
  replace E := Option.bind_eq_some_iff.mp E; obtain ⟨v4, ev4, E⟩ := E
  refine go_getP (n := 13) ev4 fl_RX11_60 rfl dX11_led_10 rfl ?_
  refine go_iload_n (j := 1) (n := 14) rfl rfl dX11_led_13 rfl ?_
  refine go_iload_n (j := 2) (n := 15) rfl rfl dX11_led_14 rfl ?_
  replace E := Option.bind_eq_some_iff.mp E; obtain ⟨a7, ea7, E⟩ := E
  obtain ⟨fa7, ga7⟩ := xrc_some ea7
  replace E := xb_some E; obtain ⟨v5, h6, ev5, E⟩ := E
  refine go_callV (y := yX7_latestRow) (n := 18) (st := []) (as := [vi l1, vi l2]) (stk9 := [vi v5]) (OX7_latestRow ev5) yw_X7_latestRow ci_7 ga7 wml_RX11_78 wim_X7_latestRow wse_X7_latestRow (Nat.le_of_ble_eq_true rfl) rfl ⟨Nat.le_of_ble_eq_true rfl, Nat.le_of_ble_eq_true rfl⟩ (Nat.le_of_ble_eq_true rfl) dX11_led_15 rfl (by cases fa7; rfl) rfl ?_
  refine go_istore_n (n := 19) (lv' := [(3, vi v5), (0, vr (some l0)), (1, vi l1), (2, vi l2)]) rfl dX11_led_18 rfl (Nat.le_of_ble_eq_true rfl) rfl ?_
  refine go_iload_n (j := 0) (n := 20) rfl rfl dX11_led_19 rfl ?_
  refine go_iconst (z := (-1)) (n := 21) ⟨by decide, by decide⟩ dX11_led_20 rfl ?_
  refine go_icmp_ne (tgt := 29) (n := 24) dX11_led_21 rfl rfl (fun c8 => ?_) (fun c8 => ?_)
  · rw [if_neg c8] at E
    refine go_aload_n (j := 1) (n := 30) rfl rfl dX11_led_29 rfl ?_
    replace E := Option.bind_eq_some_iff.mp E; obtain ⟨v9, ev9, E⟩ := E
    refine go_getP (n := 33) ev9 fl_RX11_23 rfl dX11_led_30 rfl ?_
    replace E := Option.bind_eq_some_iff.mp E; obtain ⟨v10, ev10, E⟩ := E
    refine go_getP (n := 36) ev10 fl_RX11_60 rfl dX11_led_33 rfl ?_
    refine go_iload_n (j := 0) (n := 37) rfl rfl dX11_led_36 rfl ?_
    replace E := Option.bind_eq_some_iff.mp E; obtain ⟨a13, ea13, E⟩ := E
    obtain ⟨fa13, ga13⟩ := xrc_some ea13
    replace E := xb_some E; obtain ⟨v11, h12, ev11, E⟩ := E
    refine go_callV (y := yX7_jobOf) (n := 40) (st := []) (as := [vi v5]) (stk9 := [vi v11]) (OX7_jobOf ev11) yw_X7_jobOf ci_7 ga13 wml_RX11_84 wim_X7_jobOf wse_X7_jobOf (Nat.le_of_ble_eq_true rfl) rfl ⟨Nat.le_of_ble_eq_true rfl, Nat.le_of_ble_eq_true rfl⟩ (Nat.le_of_ble_eq_true rfl) dX11_led_37 rfl (by cases fa13; rfl) rfl ?_
    cases E
    exact go_ret (go_ireturn rfl dX11_led_40)
  · rw [if_pos c8] at E
    refine go_bipush (z := (-2)) (n := 26) ⟨by decide, by decide⟩ dX11_led_24 rfl ?_
    refine go_goto (tgt := 40) dX11_led_26 rfl ?_
    cases E
    exact go_ret (go_ireturn rfl dX11_led_40)
theorem OXX11_led {F : Nat} {l0 : Nat} {l1 : Int} {l2 : Int} {h hf : HP} {r : String ⊕ Int} (e : X11_led F l0 l1 l2 h = some (r, hf)) : OkX MX11_led [vr (some l0), vi l1, vi l2] (rI r) h hf := fun K _ _ _ => SX11_led l0 l1 l2 h e
abbrev MX3_placeOf : MI := (RX3, cX3_placeOf, 3, (some .int), 3, none, "placeOf")
noncomputable def X3_placeOf_L2 (F : Nat)   (k : Nat) : Nat → Int → Int → HP → Option (Int × HP) :=
  Nat.rec (motive := fun _ => Nat → Int → Int → HP → Option (Int × HP)) (fun _ _ _ _ => none) (fun _ rc2 l0 l1 l2 h =>
    (xgI h (some l0) 3 7 5).bind fun v1 =>
    if v1 ≤ l2 then
      some ((-1), h)
    else
      (xrc h (some l0) 3 7).bind fun a5 =>
      xb (X3_placed F a5 l2 h) fun v3 h4 =>
      if v3 = l1 then
        some (l2, h4)
      else
        rc2 l0 l1 (w32 (l2 + 1)) h4) k
theorem X3_placeOf_L2_s (F : Nat)   (k : Nat) (l0 : Nat) (l1 : Int) (l2 : Int)  (h : HP) : X3_placeOf_L2 F   (k + 1) l0 l1 l2 h =
    (xgI h (some l0) 3 7 5).bind fun v1 =>
    if v1 ≤ l2 then
      some ((-1), h)
    else
      (xrc h (some l0) 3 7).bind fun a5 =>
      xb (X3_placed F a5 l2 h) fun v3 h4 =>
      if v3 = l1 then
        some (l2, h4)
      else
        (X3_placeOf_L2 F k) l0 l1 (w32 (l2 + 1)) h4 := rfl
set_option maxRecDepth 100000 in
theorem SX3_placeOf_L2 {K : Ctx} {F : Nat} {r : Int} {hf : HP}     : ∀ (k : Nat) (l0 : Nat) (l1 : Int) (l2 : Int)  (h : HP), X3_placeOf_L2 F   k l0 l1 l2 h = some (r, hf) → Go K MX3_placeOf (QM K (some (vi r)) hf) hf 2 [(0, vr (some l0)), (1, vi l1), (2, vi l2)] [] h := by
  intro k
  induction k with
  | zero => intro l0 l1 l2 h E; exact nomatch E
  | succ k hrc2 =>
    intro l0 l1 l2 h E
    rw [X3_placeOf_L2_s] at E
    refine go_iload_n (j := 2) (n := 3) rfl rfl dX3_placeOf_2 rfl ?_
    refine go_aload_n (j := 0) (n := 4) rfl rfl dX3_placeOf_3 rfl ?_
    replace E := Option.bind_eq_some_iff.mp E; obtain ⟨v1, ev1, E⟩ := E
    refine go_getI (n := 7) ev1 fl_RX3_36 rfl dX3_placeOf_4 rfl ?_
    refine go_icmp_ge (tgt := 27) (n := 10) dX3_placeOf_7 rfl rfl (fun c2 => ?_) (fun c2 => ?_)
    · rw [if_pos c2] at E
      refine go_iconst (z := (-1)) (n := 28) ⟨by decide, by decide⟩ dX3_placeOf_27 rfl ?_
      cases E
      exact go_ireturn rfl dX3_placeOf_28
    · rw [if_neg c2] at E
      refine go_aload_n (j := 0) (n := 11) rfl rfl dX3_placeOf_10 rfl ?_
      refine go_iload_n (j := 2) (n := 12) rfl rfl dX3_placeOf_11 rfl ?_
      replace E := Option.bind_eq_some_iff.mp E; obtain ⟨a5, ea5, E⟩ := E
      obtain ⟨fa5, ga5⟩ := xrc_some ea5
      replace E := xb_some E; obtain ⟨v3, h4, ev3, E⟩ := E
      refine go_callV (y := yX3_placed) (n := 15) (st := []) (as := [vi l2]) (stk9 := [vi v3]) (OX3_placed ev3) yw_X3_placed ci_3 ga5 wml_RX3_70 wim_X3_placed wse_X3_placed (Nat.le_of_ble_eq_true rfl) rfl ⟨Nat.le_of_ble_eq_true rfl, Nat.le_of_ble_eq_true rfl⟩ (Nat.le_of_ble_eq_true rfl) dX3_placeOf_12 rfl (by cases fa5; rfl) rfl ?_
      refine go_iload_n (j := 1) (n := 16) rfl rfl dX3_placeOf_15 rfl ?_
      refine go_icmp_ne (tgt := 21) (n := 19) dX3_placeOf_16 rfl rfl (fun c6 => ?_) (fun c6 => ?_)
      · rw [if_neg c6] at E
        refine go_iinc (j := 2) (n := 24) (lv' := [(2, vi (w32 (l2 + 1))), (0, vr (some l0)), (1, vi l1)]) rfl dX3_placeOf_21 rfl (Nat.le_of_ble_eq_true rfl) rfl ?_
        refine go_goto (tgt := 2) dX3_placeOf_24 rfl ?_
        refine go_pick (lv' := [(0, vr (some l0)), (1, vi l1), (2, vi (w32 (l2 + 1)))]) [1, 2, 0] rfl ?_
        exact hrc2 _ _ _ _ E
      · rw [if_pos c6] at E
        refine go_iload_n (j := 2) (n := 20) rfl rfl dX3_placeOf_19 rfl ?_
        cases E
        exact go_ireturn rfl dX3_placeOf_20
noncomputable def X3_placeOf (F : Nat)   (l0 : Nat) (l1 : Int)  (h : HP) : Option (Int × HP) :=
  X3_placeOf_L2 F F l0 l1 0 h
set_option maxRecDepth 100000 in
theorem SX3_placeOf {K : Ctx} {F : Nat} {r : Int} {hf : HP}     (l0 : Nat) (l1 : Int)  (h : HP) (E : X3_placeOf F   l0 l1 h = some (r, hf)) : Go K MX3_placeOf (QM K (some (vi r)) hf) hf 0 [(0, vr (some l0)), (1, vi l1)] [] h := by
  unfold X3_placeOf at E
  refine go_iconst (z := 0) (n := 1) ⟨by decide, by decide⟩ dX3_placeOf_0 rfl ?_
  refine go_istore_n (n := 2) (lv' := [(2, vi 0), (0, vr (some l0)), (1, vi l1)]) rfl dX3_placeOf_1 rfl (Nat.le_of_ble_eq_true rfl) rfl ?_
  refine go_pick (lv' := [(0, vr (some l0)), (1, vi l1), (2, vi 0)]) [1, 2, 0] rfl ?_
  exact SX3_placeOf_L2     F _ _ _ _ E
theorem OX3_placeOf {F : Nat} {l0 : Nat} {l1 : Int} {h hf : HP} {r : Int} (e : X3_placeOf F l0 l1 h = some (r, hf)) : Ok MX3_placeOf [vr (some l0), vi l1] (some (vi r)) h hf := fun K _ _ _ => SX3_placeOf l0 l1 h e
theorem fl_RX2_77 : FL RX2 77 9 4 1 true := ⟨RX9, TX9, ci_9, by decide, bw_of 1254 (by decide +kernel) rfl, rfl, rfl⟩
abbrev MX2_shown : MI := (RX2, cX2_shown, 2, (some .int), 2, none, "shown")
noncomputable def X2_shown (F : Nat)   (l0 : Nat) (l1 : Int)  (h : HP) : Option (Int × HP) :=
  if l1 = 0 then
    (xgI h (some l0) 2 18 9).bind fun v1 =>
    some (v1, h)
  else
    if l1 = 1 then
      (xgI h (some l0) 2 18 12).bind fun v2 =>
      some (v2, h)
    else
      if l1 = 2 then
        (xgI h (some l0) 2 18 13).bind fun v3 =>
        some (v3, h)
      else
        if l1 = 3 then
          (xgI h (some l0) 2 18 10).bind fun v4 =>
          some (v4, h)
        else
          if l1 = 4 then
            (xgP h (some l0) 2 18 5).bind fun v5 =>
            if v5 = none then
              some (0, h)
            else
              (xgP h (some l0) 2 18 5).bind fun v7 =>
              (xgI h v7 9 4 1).bind fun v8 =>
              some (v8, h)
          else
            if l1 = 5 then
              (xgI h (some l0) 2 18 14).bind fun v9 =>
              some (v9, h)
            else
              if l1 = 6 then
                (xgI h (some l0) 2 18 15).bind fun v10 =>
                some (v10, h)
              else
                if l1 = 7 then
                  (xgI h (some l0) 2 18 16).bind fun v11 =>
                  some (v11, h)
                else
                  if l1 = 8 then
                    (xgI h (some l0) 2 18 17).bind fun v12 =>
                    some (v12, h)
                  else
                    some ((-1), h)
set_option maxRecDepth 100000 in
theorem SX2_shown {K : Ctx} {F : Nat} {r : Int} {hf : HP}     (l0 : Nat) (l1 : Int)  (h : HP) (E : X2_shown F   l0 l1 h = some (r, hf)) : Go K MX2_shown (QM K (some (vi r)) hf) hf 0 [(0, vr (some l0)), (1, vi l1)] [] h := by
  unfold X2_shown at E
  refine go_iload_n (j := 1) (n := 1) rfl rfl dX2_shown_0 rfl ?_
  by_cases c13 : l1 = 0
  · rw [if_pos c13] at E
    refine go_tableIn (tgt := 52) dX2_shown_1 (by omega) (by omega) (by rw [c13]; rfl) rfl ?_
    refine go_aload_n (j := 0) (n := 53) rfl rfl dX2_shown_52 rfl ?_
    replace E := Option.bind_eq_some_iff.mp E; obtain ⟨v1, ev1, E⟩ := E
    refine go_getI (n := 56) ev1 fl_RX2_41 rfl dX2_shown_53 rfl ?_
    cases E
    exact go_ireturn rfl dX2_shown_56
  rw [if_neg c13] at E
  by_cases c14 : l1 = 1
  · rw [if_pos c14] at E
    refine go_tableIn (tgt := 57) dX2_shown_1 (by omega) (by omega) (by rw [c14]; rfl) rfl ?_
    refine go_aload_n (j := 0) (n := 58) rfl rfl dX2_shown_57 rfl ?_
    replace E := Option.bind_eq_some_iff.mp E; obtain ⟨v2, ev2, E⟩ := E
    refine go_getI (n := 61) ev2 fl_RX2_50 rfl dX2_shown_58 rfl ?_
    cases E
    exact go_ireturn rfl dX2_shown_61
  rw [if_neg c14] at E
  by_cases c15 : l1 = 2
  · rw [if_pos c15] at E
    refine go_tableIn (tgt := 62) dX2_shown_1 (by omega) (by omega) (by rw [c15]; rfl) rfl ?_
    refine go_aload_n (j := 0) (n := 63) rfl rfl dX2_shown_62 rfl ?_
    replace E := Option.bind_eq_some_iff.mp E; obtain ⟨v3, ev3, E⟩ := E
    refine go_getI (n := 66) ev3 fl_RX2_53 rfl dX2_shown_63 rfl ?_
    cases E
    exact go_ireturn rfl dX2_shown_66
  rw [if_neg c15] at E
  by_cases c16 : l1 = 3
  · rw [if_pos c16] at E
    refine go_tableIn (tgt := 67) dX2_shown_1 (by omega) (by omega) (by rw [c16]; rfl) rfl ?_
    refine go_aload_n (j := 0) (n := 68) rfl rfl dX2_shown_67 rfl ?_
    replace E := Option.bind_eq_some_iff.mp E; obtain ⟨v4, ev4, E⟩ := E
    refine go_getI (n := 71) ev4 fl_RX2_44 rfl dX2_shown_68 rfl ?_
    cases E
    exact go_ireturn rfl dX2_shown_71
  rw [if_neg c16] at E
  by_cases c17 : l1 = 4
  · rw [if_pos c17] at E
    refine go_tableIn (tgt := 72) dX2_shown_1 (by omega) (by omega) (by rw [c17]; rfl) rfl ?_
    refine go_aload_n (j := 0) (n := 73) rfl rfl dX2_shown_72 rfl ?_
    replace E := Option.bind_eq_some_iff.mp E; obtain ⟨v5, ev5, E⟩ := E
    refine go_getP (n := 76) ev5 fl_RX2_28 rfl dX2_shown_73 rfl ?_
    refine go_ifnonnull (tgt := 83) (n := 79) dX2_shown_76 rfl rfl (fun c6 => ?_) (fun c6 => ?_)
    · rw [if_neg c6] at E
      refine go_aload_n (j := 0) (n := 84) rfl rfl dX2_shown_83 rfl ?_
      replace E := Option.bind_eq_some_iff.mp E; obtain ⟨v7, ev7, E⟩ := E
      refine go_getP (n := 87) ev7 fl_RX2_28 rfl dX2_shown_84 rfl ?_
      replace E := Option.bind_eq_some_iff.mp E; obtain ⟨v8, ev8, E⟩ := E
      refine go_getI (n := 90) ev8 fl_RX2_77 rfl dX2_shown_87 rfl ?_
      cases E
      exact go_ireturn rfl dX2_shown_90
    · rw [if_pos c6] at E
      refine go_iconst (z := 0) (n := 80) ⟨by decide, by decide⟩ dX2_shown_79 rfl ?_
      refine go_goto (tgt := 90) dX2_shown_80 rfl ?_
      cases E
      exact go_ireturn rfl dX2_shown_90
  rw [if_neg c17] at E
  by_cases c18 : l1 = 5
  · rw [if_pos c18] at E
    refine go_tableIn (tgt := 91) dX2_shown_1 (by omega) (by omega) (by rw [c18]; rfl) rfl ?_
    refine go_aload_n (j := 0) (n := 92) rfl rfl dX2_shown_91 rfl ?_
    replace E := Option.bind_eq_some_iff.mp E; obtain ⟨v9, ev9, E⟩ := E
    refine go_getI (n := 95) ev9 fl_RX2_56 rfl dX2_shown_92 rfl ?_
    cases E
    exact go_ireturn rfl dX2_shown_95
  rw [if_neg c18] at E
  by_cases c19 : l1 = 6
  · rw [if_pos c19] at E
    refine go_tableIn (tgt := 96) dX2_shown_1 (by omega) (by omega) (by rw [c19]; rfl) rfl ?_
    refine go_aload_n (j := 0) (n := 97) rfl rfl dX2_shown_96 rfl ?_
    replace E := Option.bind_eq_some_iff.mp E; obtain ⟨v10, ev10, E⟩ := E
    refine go_getI (n := 100) ev10 fl_RX2_59 rfl dX2_shown_97 rfl ?_
    cases E
    exact go_ireturn rfl dX2_shown_100
  rw [if_neg c19] at E
  by_cases c20 : l1 = 7
  · rw [if_pos c20] at E
    refine go_tableIn (tgt := 101) dX2_shown_1 (by omega) (by omega) (by rw [c20]; rfl) rfl ?_
    refine go_aload_n (j := 0) (n := 102) rfl rfl dX2_shown_101 rfl ?_
    replace E := Option.bind_eq_some_iff.mp E; obtain ⟨v11, ev11, E⟩ := E
    refine go_getI (n := 105) ev11 fl_RX2_62 rfl dX2_shown_102 rfl ?_
    cases E
    exact go_ireturn rfl dX2_shown_105
  rw [if_neg c20] at E
  by_cases c21 : l1 = 8
  · rw [if_pos c21] at E
    refine go_tableIn (tgt := 106) dX2_shown_1 (by omega) (by omega) (by rw [c21]; rfl) rfl ?_
    refine go_aload_n (j := 0) (n := 107) rfl rfl dX2_shown_106 rfl ?_
    replace E := Option.bind_eq_some_iff.mp E; obtain ⟨v12, ev12, E⟩ := E
    refine go_getI (n := 110) ev12 fl_RX2_65 rfl dX2_shown_107 rfl ?_
    cases E
    exact go_ireturn rfl dX2_shown_110
  rw [if_neg c21] at E
  refine go_tableOut (tgt := 111) dX2_shown_1 (by omega) rfl ?_
  refine go_iconst (z := (-1)) (n := 112) ⟨by decide, by decide⟩ dX2_shown_111 rfl ?_
  cases E
  exact go_ireturn rfl dX2_shown_112
theorem OX2_shown {F : Nat} {l0 : Nat} {l1 : Int} {h hf : HP} {r : Int} (e : X2_shown F l0 l1 h = some (r, hf)) : Ok MX2_shown [vr (some l0), vi l1] (some (vi r)) h hf := fun K _ _ _ => SX2_shown l0 l1 h e
theorem yw_X2_shown : YW yX2_shown cX2_shown 2 (some .int) 1 := ⟨bw_of 1527 (by decide +kernel) rfl, bw_of 123 (by decide +kernel) rfl, ⟨by decide +kernel, by decide +kernel, by decide +kernel⟩, by decide +kernel⟩
theorem wml_RX11_190 : Cond.methodLink RX11 190 yX2_shown ∈ BW := bw_of 1524 (by decide +kernel) rfl
theorem wim_X2_shown : Cond.instanceMethod yX2_shown ∈ BW := bw_of 1525 (by decide +kernel) rfl
theorem wse_X2_shown : Cond.selects RX2 yX2_shown yX2_shown ∈ BW := bw_of 1526 (by decide +kernel) rfl
theorem yw_X3_placeOf : YW yX3_placeOf cX3_placeOf 3 (some .int) 1 := ⟨bw_of 1523 (by decide +kernel) rfl, bw_of 122 (by decide +kernel) rfl, ⟨by decide +kernel, by decide +kernel, by decide +kernel⟩, by decide +kernel⟩
theorem wml_RX11_187 : Cond.methodLink RX11 187 yX3_placeOf ∈ BW := bw_of 1520 (by decide +kernel) rfl
theorem wim_X3_placeOf : Cond.instanceMethod yX3_placeOf ∈ BW := bw_of 1521 (by decide +kernel) rfl
theorem wse_X3_placeOf : Cond.selects RX3 yX3_placeOf yX3_placeOf ∈ BW := bw_of 1522 (by decide +kernel) rfl
abbrev MX11_look : MI := (RX11, cX11_look, 3, (some .int), 13, some [], "look")
noncomputable def X11_look (F : Nat)   (l0 : Nat) (l1 : Int) (l2 : Int)  (h : HP) : Option ((String ⊕ Int) × HP) :=
  (xgP h (some l0) 11 6 2).bind fun v1 =>
  (xgP h v1 4 12 2).bind fun v2 =>
  (xgI h v2 3 7 5).bind fun v3 =>
  xth (X11_needPlace F l1 v3 h) fun v4 h5 =>
  xth (X11_needWhat F l2 9 h5) fun v6 h7 =>
  if l2 = 9 then
    (xgP h7 (some l0) 11 6 2).bind fun v17 =>
    (xgP h7 v17 4 12 2).bind fun v18 =>
    (xrc h7 v18 3 7).bind fun a21 =>
    xb (X3_placeOf F a21 l1 h7) fun v19 h20 =>
    some (.inr v19, h20)
  else
    (xgP h7 (some l0) 11 6 2).bind fun v9 =>
    (xgP h7 v9 4 12 2).bind fun v10 =>
    (xrc h7 v10 3 7).bind fun a13 =>
    xb (X3_at F a13 l1 h7) fun v11 h12 =>
    (xrc h12 v11 2 18).bind fun a16 =>
    xb (X2_shown F a16 l2 h12) fun v14 h15 =>
    some (.inr v14, h15)
set_option maxRecDepth 100000 in
theorem SX11_look {K : Ctx} {F : Nat} {r : String ⊕ Int} {hf : HP}     (l0 : Nat) (l1 : Int) (l2 : Int)  (h : HP) (E : X11_look F   l0 l1 l2 h = some (r, hf)) : Go K MX11_look (QMX K (rI r) hf) hf 0 [(0, vr (some l0)), (1, vi l1), (2, vi l2)] [] h := by
  unfold X11_look at E
  refine go_iload_n (j := 1) (n := 1) rfl rfl dX11_look_0 rfl ?_
  refine go_aload_n (j := 0) (n := 2) rfl rfl dX11_look_1 rfl ?_
  replace E := Option.bind_eq_some_iff.mp E; obtain ⟨v1, ev1, E⟩ := E
  refine go_getP (n := 5) ev1 fl_RX11_23 rfl dX11_look_2 rfl ?_
  replace E := Option.bind_eq_some_iff.mp E; obtain ⟨v2, ev2, E⟩ := E
  refine go_getP (n := 8) ev2 fl_RX11_101 rfl dX11_look_5 rfl ?_
  replace E := Option.bind_eq_some_iff.mp E; obtain ⟨v3, ev3, E⟩ := E
  refine go_getI (n := 11) ev3 fl_RX11_105 rfl dX11_look_8 rfl ?_
  replace E := xth_some E; rcases E with ⟨x23, ev4, rfl⟩ | ⟨v4, h5, ev4, E⟩
  · exact go_callXSt (y := yX11_needPlace) (as := [vi l1, vi v3]) (st := []) (OXX11_needPlace ev4) yw_X11_needPlace wml_RX11_54 wst_X11_needPlace (Nat.le_of_ble_eq_true rfl) rfl ⟨Nat.le_of_ble_eq_true rfl, Nat.le_of_ble_eq_true rfl⟩ (Nat.le_of_ble_eq_true rfl) dX11_look_11 rfl rfl
  refine go_callXSr (y := yX11_needPlace) (n := 14) (st := []) (as := [vi l1, vi v3]) (stk9 := []) (OXX11_needPlace ev4) yw_X11_needPlace wml_RX11_54 wst_X11_needPlace (Nat.le_of_ble_eq_true rfl) rfl ⟨Nat.le_of_ble_eq_true rfl, Nat.le_of_ble_eq_true rfl⟩ (Nat.le_of_ble_eq_true rfl) dX11_look_11 rfl rfl rfl ?_
  refine go_iload_n (j := 2) (n := 15) rfl rfl dX11_look_14 rfl ?_
  refine go_bipush (z := 9) (n := 17) ⟨by decide, by decide⟩ dX11_look_15 rfl ?_
  replace E := xth_some E; rcases E with ⟨x22, ev6, rfl⟩ | ⟨v6, h7, ev6, E⟩
  · exact go_callXSt (y := yX11_needWhat) (as := [vi l2, vi 9]) (st := []) (OXX11_needWhat ev6) yw_X11_needWhat wml_RX11_184 wst_X11_needWhat (Nat.le_of_ble_eq_true rfl) rfl ⟨Nat.le_of_ble_eq_true rfl, Nat.le_of_ble_eq_true rfl⟩ (Nat.le_of_ble_eq_true rfl) dX11_look_17 rfl rfl
  refine go_callXSr (y := yX11_needWhat) (n := 20) (st := []) (as := [vi l2, vi 9]) (stk9 := []) (OXX11_needWhat ev6) yw_X11_needWhat wml_RX11_184 wst_X11_needWhat (Nat.le_of_ble_eq_true rfl) rfl ⟨Nat.le_of_ble_eq_true rfl, Nat.le_of_ble_eq_true rfl⟩ (Nat.le_of_ble_eq_true rfl) dX11_look_17 rfl rfl rfl ?_
  refine go_iload_n (j := 2) (n := 21) rfl rfl dX11_look_20 rfl ?_
  refine go_bipush (z := 9) (n := 23) ⟨by decide, by decide⟩ dX11_look_21 rfl ?_
  refine go_icmp_ne (tgt := 40) (n := 26) dX11_look_23 rfl rfl (fun c8 => ?_) (fun c8 => ?_)
  · rw [if_neg c8] at E
    refine go_aload_n (j := 0) (n := 41) rfl rfl dX11_look_40 rfl ?_
    replace E := Option.bind_eq_some_iff.mp E; obtain ⟨v9, ev9, E⟩ := E
    refine go_getP (n := 44) ev9 fl_RX11_23 rfl dX11_look_41 rfl ?_
    replace E := Option.bind_eq_some_iff.mp E; obtain ⟨v10, ev10, E⟩ := E
    refine go_getP (n := 47) ev10 fl_RX11_101 rfl dX11_look_44 rfl ?_
    refine go_iload_n (j := 1) (n := 48) rfl rfl dX11_look_47 rfl ?_
    replace E := Option.bind_eq_some_iff.mp E; obtain ⟨a13, ea13, E⟩ := E
    obtain ⟨fa13, ga13⟩ := xrc_some ea13
    replace E := xb_some E; obtain ⟨v11, h12, ev11, E⟩ := E
    refine go_callV (y := yX3_at) (n := 51) (st := []) (as := [vi l1]) (stk9 := [vr v11]) (OX3_at ev11) yw_X3_at ci_3 ga13 wml_RX11_115 wim_X3_at wse_X3_at (Nat.le_of_ble_eq_true rfl) rfl ⟨Nat.le_of_ble_eq_true rfl, Nat.le_of_ble_eq_true rfl⟩ (Nat.le_of_ble_eq_true rfl) dX11_look_48 rfl (by cases fa13; rfl) rfl ?_
    refine go_iload_n (j := 2) (n := 52) rfl rfl dX11_look_51 rfl ?_
    replace E := Option.bind_eq_some_iff.mp E; obtain ⟨a16, ea16, E⟩ := E
    obtain ⟨fa16, ga16⟩ := xrc_some ea16
    replace E := xb_some E; obtain ⟨v14, h15, ev14, E⟩ := E
    refine go_callV (y := yX2_shown) (n := 55) (st := []) (as := [vi l2]) (stk9 := [vi v14]) (OX2_shown ev14) yw_X2_shown ci_2 ga16 wml_RX11_190 wim_X2_shown wse_X2_shown (Nat.le_of_ble_eq_true rfl) rfl ⟨Nat.le_of_ble_eq_true rfl, Nat.le_of_ble_eq_true rfl⟩ (Nat.le_of_ble_eq_true rfl) dX11_look_52 rfl (by cases fa16; rfl) rfl ?_
    cases E
    exact go_ret (go_ireturn rfl dX11_look_55)
  · rw [if_pos c8] at E
    refine go_aload_n (j := 0) (n := 27) rfl rfl dX11_look_26 rfl ?_
    replace E := Option.bind_eq_some_iff.mp E; obtain ⟨v17, ev17, E⟩ := E
    refine go_getP (n := 30) ev17 fl_RX11_23 rfl dX11_look_27 rfl ?_
    replace E := Option.bind_eq_some_iff.mp E; obtain ⟨v18, ev18, E⟩ := E
    refine go_getP (n := 33) ev18 fl_RX11_101 rfl dX11_look_30 rfl ?_
    refine go_iload_n (j := 1) (n := 34) rfl rfl dX11_look_33 rfl ?_
    replace E := Option.bind_eq_some_iff.mp E; obtain ⟨a21, ea21, E⟩ := E
    obtain ⟨fa21, ga21⟩ := xrc_some ea21
    replace E := xb_some E; obtain ⟨v19, h20, ev19, E⟩ := E
    refine go_callV (y := yX3_placeOf) (n := 37) (st := []) (as := [vi l1]) (stk9 := [vi v19]) (OX3_placeOf ev19) yw_X3_placeOf ci_3 ga21 wml_RX11_187 wim_X3_placeOf wse_X3_placeOf (Nat.le_of_ble_eq_true rfl) rfl ⟨Nat.le_of_ble_eq_true rfl, Nat.le_of_ble_eq_true rfl⟩ (Nat.le_of_ble_eq_true rfl) dX11_look_34 rfl (by cases fa21; rfl) rfl ?_
    refine go_goto (tgt := 55) dX11_look_37 rfl ?_
    cases E
    exact go_ret (go_ireturn rfl dX11_look_55)
theorem OXX11_look {F : Nat} {l0 : Nat} {l1 : Int} {l2 : Int} {h hf : HP} {r : String ⊕ Int} (e : X11_look F l0 l1 l2 h = some (r, hf)) : OkX MX11_look [vr (some l0), vi l1, vi l2] (rI r) h hf := fun K _ _ _ => SX11_look l0 l1 l2 h e
abbrev MX3_endedBits : MI := (RX3, cX3_endedBits, 4, (some .int), 3, none, "endedBits")
noncomputable def X3_endedBits_L42 (F : Nat)  (rc4 : Nat → Int → Int → HP → Option (Int × HP)) (l0 : Nat) (l1 : Int) (l2 : Int)  (h : HP) : Option (Int × HP) :=
  rc4 l0 l1 (w32 (l2 + 1)) h
set_option maxRecDepth 100000 in
theorem SX3_endedBits_L42 {K : Ctx} {F : Nat} {r : Int} {hf : HP}   (rc4 : Nat → Int → Int → HP → Option (Int × HP)) (hrc4 : ∀ l0 l1 l2 h, rc4 l0 l1 l2 h = some (r, hf) → Go K MX3_endedBits (QM K (some (vi r)) hf) hf 4 [(0, vr (some l0)), (1, vi l1), (2, vi l2)] [] h) (l0 : Nat) (l1 : Int) (l2 : Int)  (h : HP) (E : X3_endedBits_L42 F  rc4 l0 l1 l2 h = some (r, hf)) : Go K MX3_endedBits (QM K (some (vi r)) hf) hf 42 [(0, vr (some l0)), (1, vi l1), (2, vi l2)] [] h := by
  unfold X3_endedBits_L42 at E
  refine go_iinc (j := 2) (n := 45) (lv' := [(2, vi (w32 (l2 + 1))), (0, vr (some l0)), (1, vi l1)]) rfl dX3_endedBits_42 rfl (Nat.le_of_ble_eq_true rfl) rfl ?_
  refine go_goto (tgt := 4) dX3_endedBits_45 rfl ?_
  refine go_pick (lv' := [(0, vr (some l0)), (1, vi l1), (2, vi (w32 (l2 + 1)))]) [1, 2, 0] rfl ?_
  exact hrc4 _ _ _ _ E
noncomputable def X3_endedBits_L36 (F : Nat)  (rc4 : Nat → Int → Int → HP → Option (Int × HP)) (l0 : Nat) (l1 : Int) (l2 : Int)  (h : HP) : Option (Int × HP) :=
  X3_endedBits_L42 F rc4 l0 (xor_ l1 (xshl 1 l2)) l2 h
set_option maxRecDepth 100000 in
theorem SX3_endedBits_L36 {K : Ctx} {F : Nat} {r : Int} {hf : HP}   (rc4 : Nat → Int → Int → HP → Option (Int × HP)) (hrc4 : ∀ l0 l1 l2 h, rc4 l0 l1 l2 h = some (r, hf) → Go K MX3_endedBits (QM K (some (vi r)) hf) hf 4 [(0, vr (some l0)), (1, vi l1), (2, vi l2)] [] h) (l0 : Nat) (l1 : Int) (l2 : Int)  (h : HP) (E : X3_endedBits_L36 F  rc4 l0 l1 l2 h = some (r, hf)) : Go K MX3_endedBits (QM K (some (vi r)) hf) hf 36 [(0, vr (some l0)), (1, vi l1), (2, vi l2)] [] h := by
  unfold X3_endedBits_L36 at E
  refine go_iload_n (j := 1) (n := 37) rfl rfl dX3_endedBits_36 rfl ?_
  refine go_iconst (z := 1) (n := 38) ⟨by decide, by decide⟩ dX3_endedBits_37 rfl ?_
  refine go_iload_n (j := 2) (n := 39) rfl rfl dX3_endedBits_38 rfl ?_
  refine go_ishl (n := 40) dX3_endedBits_39 rfl ?_
  refine go_ior (n := 41) dX3_endedBits_40 rfl ?_
  refine go_istore_n (n := 42) (lv' := [(1, vi (xor_ l1 (xshl 1 l2))), (0, vr (some l0)), (2, vi l2)]) rfl dX3_endedBits_41 rfl (Nat.le_of_ble_eq_true rfl) rfl ?_
  refine go_pick (lv' := [(0, vr (some l0)), (1, vi (xor_ l1 (xshl 1 l2))), (2, vi l2)]) [1, 0, 2] rfl ?_
  exact SX3_endedBits_L42   _ hrc4 _ _ _  _ E
noncomputable def X3_endedBits_L4 (F : Nat)   (k : Nat) : Nat → Int → Int → HP → Option (Int × HP) :=
  Nat.rec (motive := fun _ => Nat → Int → Int → HP → Option (Int × HP)) (fun _ _ _ _ => none) (fun _ rc4 l0 l1 l2 h =>
    (xgI h (some l0) 3 7 5).bind fun v1 =>
    if v1 ≤ l2 then
      some (l1, h)
    else
      (xrc h (some l0) 3 7).bind fun a5 =>
      xb (X3_at F a5 l2 h) fun v3 h4 =>
      (xgI h4 v3 2 18 9).bind fun v6 =>
      if v6 = 2 then
        X3_endedBits_L36 F rc4 l0 l1 l2 h4
      else
        if v6 = 3 then
          X3_endedBits_L36 F rc4 l0 l1 l2 h4
        else
          if v6 = 4 then
            X3_endedBits_L36 F rc4 l0 l1 l2 h4
          else
            X3_endedBits_L42 F rc4 l0 l1 l2 h4) k
theorem X3_endedBits_L4_s (F : Nat)   (k : Nat) (l0 : Nat) (l1 : Int) (l2 : Int)  (h : HP) : X3_endedBits_L4 F   (k + 1) l0 l1 l2 h =
    (xgI h (some l0) 3 7 5).bind fun v1 =>
    if v1 ≤ l2 then
      some (l1, h)
    else
      (xrc h (some l0) 3 7).bind fun a5 =>
      xb (X3_at F a5 l2 h) fun v3 h4 =>
      (xgI h4 v3 2 18 9).bind fun v6 =>
      if v6 = 2 then
        X3_endedBits_L36 F (X3_endedBits_L4 F k) l0 l1 l2 h4
      else
        if v6 = 3 then
          X3_endedBits_L36 F (X3_endedBits_L4 F k) l0 l1 l2 h4
        else
          if v6 = 4 then
            X3_endedBits_L36 F (X3_endedBits_L4 F k) l0 l1 l2 h4
          else
            X3_endedBits_L42 F (X3_endedBits_L4 F k) l0 l1 l2 h4 := rfl
set_option maxRecDepth 100000 in
theorem SX3_endedBits_L4 {K : Ctx} {F : Nat} {r : Int} {hf : HP}     : ∀ (k : Nat) (l0 : Nat) (l1 : Int) (l2 : Int)  (h : HP), X3_endedBits_L4 F   k l0 l1 l2 h = some (r, hf) → Go K MX3_endedBits (QM K (some (vi r)) hf) hf 4 [(0, vr (some l0)), (1, vi l1), (2, vi l2)] [] h := by
  intro k
  induction k with
  | zero => intro l0 l1 l2 h E; exact nomatch E
  | succ k hrc4 =>
    intro l0 l1 l2 h E
    rw [X3_endedBits_L4_s] at E
    refine go_iload_n (j := 2) (n := 5) rfl rfl dX3_endedBits_4 rfl ?_
    refine go_aload_n (j := 0) (n := 6) rfl rfl dX3_endedBits_5 rfl ?_
    replace E := Option.bind_eq_some_iff.mp E; obtain ⟨v1, ev1, E⟩ := E
    refine go_getI (n := 9) ev1 fl_RX3_36 rfl dX3_endedBits_6 rfl ?_
    refine go_icmp_ge (tgt := 48) (n := 12) dX3_endedBits_9 rfl rfl (fun c2 => ?_) (fun c2 => ?_)
    · rw [if_pos c2] at E
      refine go_iload_n (j := 1) (n := 49) rfl rfl dX3_endedBits_48 rfl ?_
      cases E
      exact go_ireturn rfl dX3_endedBits_49
    · rw [if_neg c2] at E
      refine go_aload_n (j := 0) (n := 13) rfl rfl dX3_endedBits_12 rfl ?_
      refine go_iload_n (j := 2) (n := 14) rfl rfl dX3_endedBits_13 rfl ?_
      replace E := Option.bind_eq_some_iff.mp E; obtain ⟨a5, ea5, E⟩ := E
      obtain ⟨fa5, ga5⟩ := xrc_some ea5
      replace E := xb_some E; obtain ⟨v3, h4, ev3, E⟩ := E
      refine go_callV (y := yX3_at) (n := 17) (st := []) (as := [vi l2]) (stk9 := [vr v3]) (OX3_at ev3) yw_X3_at ci_3 ga5 wml_RX3_52 wim_X3_at wse_X3_at (Nat.le_of_ble_eq_true rfl) rfl ⟨Nat.le_of_ble_eq_true rfl, Nat.le_of_ble_eq_true rfl⟩ (Nat.le_of_ble_eq_true rfl) dX3_endedBits_14 rfl (by cases fa5; rfl) rfl ?_
      replace E := Option.bind_eq_some_iff.mp E; obtain ⟨v6, ev6, E⟩ := E
      refine go_getI (n := 20) ev6 fl_RX3_77 rfl dX3_endedBits_17 rfl ?_
      refine go_istore_n (n := 21) (lv' := [(3, vi v6), (0, vr (some l0)), (1, vi l1), (2, vi l2)]) rfl dX3_endedBits_20 rfl (Nat.le_of_ble_eq_true rfl) rfl ?_
      refine go_iload_n (j := 0) (n := 22) rfl rfl dX3_endedBits_21 rfl ?_
      refine go_iconst (z := 2) (n := 23) ⟨by decide, by decide⟩ dX3_endedBits_22 rfl ?_
      refine go_icmp_eq (tgt := 36) (n := 26) dX3_endedBits_23 rfl rfl (fun c7 => ?_) (fun c7 => ?_)
      · rw [if_pos c7] at E
        refine go_pick (lv' := [(0, vr (some l0)), (1, vi l1), (2, vi l2)]) [1, 2, 3] rfl ?_
        exact SX3_endedBits_L36   _ hrc4 _ _ _  _ E
      · rw [if_neg c7] at E
        refine go_iload_n (j := 0) (n := 27) rfl rfl dX3_endedBits_26 rfl ?_
        refine go_iconst (z := 3) (n := 28) ⟨by decide, by decide⟩ dX3_endedBits_27 rfl ?_
        refine go_icmp_eq (tgt := 36) (n := 31) dX3_endedBits_28 rfl rfl (fun c8 => ?_) (fun c8 => ?_)
        · rw [if_pos c8] at E
          refine go_pick (lv' := [(0, vr (some l0)), (1, vi l1), (2, vi l2)]) [1, 2, 3] rfl ?_
          exact SX3_endedBits_L36   _ hrc4 _ _ _  _ E
        · rw [if_neg c8] at E
          refine go_iload_n (j := 0) (n := 32) rfl rfl dX3_endedBits_31 rfl ?_
          refine go_iconst (z := 4) (n := 33) ⟨by decide, by decide⟩ dX3_endedBits_32 rfl ?_
          refine go_icmp_ne (tgt := 42) (n := 36) dX3_endedBits_33 rfl rfl (fun c9 => ?_) (fun c9 => ?_)
          · rw [if_neg c9] at E
            refine go_pick (lv' := [(0, vr (some l0)), (1, vi l1), (2, vi l2)]) [1, 2, 3] rfl ?_
            exact SX3_endedBits_L42   _ hrc4 _ _ _  _ E
          · rw [if_pos c9] at E
            refine go_pick (lv' := [(0, vr (some l0)), (1, vi l1), (2, vi l2)]) [1, 2, 3] rfl ?_
            exact SX3_endedBits_L36   _ hrc4 _ _ _  _ E
noncomputable def X3_endedBits (F : Nat)   (l0 : Nat)  (h : HP) : Option (Int × HP) :=
  X3_endedBits_L4 F F l0 0 0 h
set_option maxRecDepth 100000 in
theorem SX3_endedBits {K : Ctx} {F : Nat} {r : Int} {hf : HP}     (l0 : Nat)  (h : HP) (E : X3_endedBits F   l0 h = some (r, hf)) : Go K MX3_endedBits (QM K (some (vi r)) hf) hf 0 [(0, vr (some l0))] [] h := by
  unfold X3_endedBits at E
  refine go_iconst (z := 0) (n := 1) ⟨by decide, by decide⟩ dX3_endedBits_0 rfl ?_
  refine go_istore_n (n := 2) (lv' := [(1, vi 0), (0, vr (some l0))]) rfl dX3_endedBits_1 rfl (Nat.le_of_ble_eq_true rfl) rfl ?_
  refine go_iconst (z := 0) (n := 3) ⟨by decide, by decide⟩ dX3_endedBits_2 rfl ?_
  refine go_istore_n (n := 4) (lv' := [(2, vi 0), (1, vi 0), (0, vr (some l0))]) rfl dX3_endedBits_3 rfl (Nat.le_of_ble_eq_true rfl) rfl ?_
  refine go_pick (lv' := [(0, vr (some l0)), (1, vi 0), (2, vi 0)]) [2, 1, 0] rfl ?_
  exact SX3_endedBits_L4     F _ _ _ _ E
theorem OX3_endedBits {F : Nat} {l0 : Nat} {h hf : HP} {r : Int} (e : X3_endedBits F l0 h = some (r, hf)) : Ok MX3_endedBits [vr (some l0)] (some (vi r)) h hf := fun K _ _ _ => SX3_endedBits l0 h e
theorem yw_X3_endedBits : YW yX3_endedBits cX3_endedBits 4 (some .int) 0 := ⟨bw_of 1411 (by decide +kernel) rfl, bw_of 122 (by decide +kernel) rfl, ⟨by decide +kernel, by decide +kernel, by decide +kernel⟩, by decide +kernel⟩
theorem wml_RX3_73 : Cond.methodLink RX3 73 yX3_endedBits ∈ BW := bw_of 1408 (by decide +kernel) rfl
theorem wim_X3_endedBits : Cond.instanceMethod yX3_endedBits ∈ BW := bw_of 1410 (by decide +kernel) rfl
theorem wse_X3_endedBits : Cond.selects RX3 yX3_endedBits yX3_endedBits ∈ BW := bw_of 39 (by decide +kernel) rfl
theorem fl_RX3_80 : FL RX3 80 2 18 10 false := ⟨RX2, TX2, ci_2, by decide, bw_of 334 (by decide +kernel) rfl, rfl, rfl⟩
abbrev MX3_nextForMachine : MI := (RX3, cX3_nextForMachine, 5, (some .int), 4, none, "nextForMachine")
noncomputable def X3_nextForMachine_L70 (F : Nat)  (rc7 : Nat → Int → Int → HP → Option (Int × HP)) (l0 : Nat) (l1 : Int) (l2 : Int)  (h : HP) : Option (Int × HP) :=
  rc7 l0 l1 (w32 (l2 + 1)) h
set_option maxRecDepth 100000 in
theorem SX3_nextForMachine_L70 {K : Ctx} {F : Nat} {r : Int} {hf : HP}   (rc7 : Nat → Int → Int → HP → Option (Int × HP)) (hrc7 : ∀ l0 l1 l2 h, rc7 l0 l1 l2 h = some (r, hf) → Go K MX3_nextForMachine (QM K (some (vi r)) hf) hf 7 [(0, vr (some l0)), (1, vi l1), (2, vi l2)] [] h) (l0 : Nat) (l1 : Int) (l2 : Int)  (h : HP) (E : X3_nextForMachine_L70 F  rc7 l0 l1 l2 h = some (r, hf)) : Go K MX3_nextForMachine (QM K (some (vi r)) hf) hf 70 [(0, vr (some l0)), (1, vi l1), (2, vi l2)] [] h := by
  unfold X3_nextForMachine_L70 at E
  refine go_iinc (j := 2) (n := 73) (lv' := [(2, vi (w32 (l2 + 1))), (0, vr (some l0)), (1, vi l1)]) rfl dX3_nextForMachine_70 rfl (Nat.le_of_ble_eq_true rfl) rfl ?_
  refine go_goto (tgt := 7) dX3_nextForMachine_73 rfl ?_
  refine go_pick (lv' := [(0, vr (some l0)), (1, vi l1), (2, vi (w32 (l2 + 1)))]) [1, 2, 0] rfl ?_
  exact hrc7 _ _ _ _ E
noncomputable def X3_nextForMachine_L31 (F : Nat)  (rc7 : Nat → Int → Int → HP → Option (Int × HP)) (l0 : Nat) (l1 : Int) (l2 : Int) (s0 : Int) (h : HP) : Option (Int × HP) :=
  (xrc h (some l0) 3 7).bind fun a3 =>
  xb (X3_at F a3 s0 h) fun v1 h2 =>
  (xgI h2 v1 2 18 9).bind fun v4 =>
  if v4 = 0 then
    (xgI h2 v1 2 18 10).bind fun v6 =>
    if v6 = 2 then
      X3_nextForMachine_L70 F rc7 l0 l1 l2 h2
    else
      (xrc h2 (some l0) 3 7).bind fun a10 =>
      xb (X3_leansOf F a10 s0 h2) fun v8 h9 =>
      if (xand v8 (xxor l1 (-1))) = 0 then
        some (s0, h9)
      else
        X3_nextForMachine_L70 F rc7 l0 l1 l2 h9
  else
    X3_nextForMachine_L70 F rc7 l0 l1 l2 h2
set_option maxRecDepth 100000 in
theorem SX3_nextForMachine_L31 {K : Ctx} {F : Nat} {r : Int} {hf : HP}   (rc7 : Nat → Int → Int → HP → Option (Int × HP)) (hrc7 : ∀ l0 l1 l2 h, rc7 l0 l1 l2 h = some (r, hf) → Go K MX3_nextForMachine (QM K (some (vi r)) hf) hf 7 [(0, vr (some l0)), (1, vi l1), (2, vi l2)] [] h) (l0 : Nat) (l1 : Int) (l2 : Int) (s0 : Int) (h : HP) (E : X3_nextForMachine_L31 F  rc7 l0 l1 l2 s0 h = some (r, hf)) : Go K MX3_nextForMachine (QM K (some (vi r)) hf) hf 31 [(0, vr (some l0)), (1, vi l1), (2, vi l2)] [vi s0] h := by
  unfold X3_nextForMachine_L31 at E
  refine go_istore_n (n := 32) (lv' := [(3, vi s0), (0, vr (some l0)), (1, vi l1), (2, vi l2)]) rfl dX3_nextForMachine_31 rfl (Nat.le_of_ble_eq_true rfl) rfl ?_
  refine go_aload_n (j := 1) (n := 33) rfl rfl dX3_nextForMachine_32 rfl ?_
  refine go_iload_n (j := 0) (n := 34) rfl rfl dX3_nextForMachine_33 rfl ?_
  replace E := Option.bind_eq_some_iff.mp E; obtain ⟨a3, ea3, E⟩ := E
  obtain ⟨fa3, ga3⟩ := xrc_some ea3
  replace E := xb_some E; obtain ⟨v1, h2, ev1, E⟩ := E
  refine go_callV (y := yX3_at) (n := 37) (st := []) (as := [vi s0]) (stk9 := [vr v1]) (OX3_at ev1) yw_X3_at ci_3 ga3 wml_RX3_52 wim_X3_at wse_X3_at (Nat.le_of_ble_eq_true rfl) rfl ⟨Nat.le_of_ble_eq_true rfl, Nat.le_of_ble_eq_true rfl⟩ (Nat.le_of_ble_eq_true rfl) dX3_nextForMachine_34 rfl (by cases fa3; rfl) rfl ?_
  refine go_astore (n := 39) (lv' := [(4, vr v1), (3, vi s0), (0, vr (some l0)), (1, vi l1), (2, vi l2)]) dX3_nextForMachine_37 rfl (Nat.le_of_ble_eq_true rfl) rfl ?_
  refine go_aload (j := 0) (n := 41) rfl dX3_nextForMachine_39 rfl ?_
  replace E := Option.bind_eq_some_iff.mp E; obtain ⟨v4, ev4, E⟩ := E
  refine go_getI (n := 44) ev4 fl_RX3_77 rfl dX3_nextForMachine_41 rfl ?_
  refine go_if_ne (tgt := 70) (n := 47) dX3_nextForMachine_44 rfl rfl (fun c5 => ?_) (fun c5 => ?_)
  · rw [if_neg c5] at E
    refine go_pick (lv' := [(0, vr (some l0)), (1, vi l1), (2, vi l2)]) [2, 3, 4] rfl ?_
    exact SX3_nextForMachine_L70   _ hrc7 _ _ _  _ E
  · rw [if_pos c5] at E
    refine go_aload (j := 0) (n := 49) rfl dX3_nextForMachine_47 rfl ?_
    replace E := Option.bind_eq_some_iff.mp E; obtain ⟨v6, ev6, E⟩ := E
    refine go_getI (n := 52) ev6 fl_RX3_80 rfl dX3_nextForMachine_49 rfl ?_
    refine go_iconst (z := 2) (n := 53) ⟨by decide, by decide⟩ dX3_nextForMachine_52 rfl ?_
    refine go_icmp_eq (tgt := 70) (n := 56) dX3_nextForMachine_53 rfl rfl (fun c7 => ?_) (fun c7 => ?_)
    · rw [if_pos c7] at E
      refine go_pick (lv' := [(0, vr (some l0)), (1, vi l1), (2, vi l2)]) [2, 3, 4] rfl ?_
      exact SX3_nextForMachine_L70   _ hrc7 _ _ _  _ E
    · rw [if_neg c7] at E
      refine go_aload_n (j := 2) (n := 57) rfl rfl dX3_nextForMachine_56 rfl ?_
      refine go_iload_n (j := 1) (n := 58) rfl rfl dX3_nextForMachine_57 rfl ?_
      replace E := Option.bind_eq_some_iff.mp E; obtain ⟨a10, ea10, E⟩ := E
      obtain ⟨fa10, ga10⟩ := xrc_some ea10
      replace E := xb_some E; obtain ⟨v8, h9, ev8, E⟩ := E
      refine go_callV (y := yX3_leansOf) (n := 61) (st := []) (as := [vi s0]) (stk9 := [vi v8]) (OX3_leansOf ev8) yw_X3_leansOf ci_3 ga10 wml_RX3_67 wim_X3_leansOf wse_X3_leansOf (Nat.le_of_ble_eq_true rfl) rfl ⟨Nat.le_of_ble_eq_true rfl, Nat.le_of_ble_eq_true rfl⟩ (Nat.le_of_ble_eq_true rfl) dX3_nextForMachine_58 rfl (by cases fa10; rfl) rfl ?_
      refine go_iload_n (j := 3) (n := 62) rfl rfl dX3_nextForMachine_61 rfl ?_
      refine go_iconst (z := (-1)) (n := 63) ⟨by decide, by decide⟩ dX3_nextForMachine_62 rfl ?_
      refine go_ixor (n := 64) dX3_nextForMachine_63 rfl ?_
      refine go_iand (n := 65) dX3_nextForMachine_64 rfl ?_
      refine go_if_ne (tgt := 70) (n := 68) dX3_nextForMachine_65 rfl rfl (fun c11 => ?_) (fun c11 => ?_)
      · rw [if_neg c11] at E
        refine go_pick (lv' := [(0, vr (some l0)), (1, vi l1), (2, vi l2)]) [2, 3, 4] rfl ?_
        exact SX3_nextForMachine_L70   _ hrc7 _ _ _  _ E
      · rw [if_pos c11] at E
        refine go_iload_n (j := 1) (n := 69) rfl rfl dX3_nextForMachine_68 rfl ?_
        cases E
        exact go_ireturn rfl dX3_nextForMachine_69
noncomputable def X3_nextForMachine_L7 (F : Nat)   (k : Nat) : Nat → Int → Int → HP → Option (Int × HP) :=
  Nat.rec (motive := fun _ => Nat → Int → Int → HP → Option (Int × HP)) (fun _ _ _ _ => none) (fun _ rc7 l0 l1 l2 h =>
    (xgI h (some l0) 3 7 5).bind fun v1 =>
    if v1 ≤ l2 then
      some ((-1), h)
    else
      (xgI h (some l0) 3 7 4).bind fun v3 =>
      if v3 = 0 then
        X3_nextForMachine_L31 F rc7 l0 l1 l2 l2 h
      else
        (xrc h (some l0) 3 7).bind fun a7 =>
        xb (X3_placed F a7 l2 h) fun v5 h6 =>
        X3_nextForMachine_L31 F rc7 l0 l1 l2 v5 h6) k
theorem X3_nextForMachine_L7_s (F : Nat)   (k : Nat) (l0 : Nat) (l1 : Int) (l2 : Int)  (h : HP) : X3_nextForMachine_L7 F   (k + 1) l0 l1 l2 h =
    (xgI h (some l0) 3 7 5).bind fun v1 =>
    if v1 ≤ l2 then
      some ((-1), h)
    else
      (xgI h (some l0) 3 7 4).bind fun v3 =>
      if v3 = 0 then
        X3_nextForMachine_L31 F (X3_nextForMachine_L7 F k) l0 l1 l2 l2 h
      else
        (xrc h (some l0) 3 7).bind fun a7 =>
        xb (X3_placed F a7 l2 h) fun v5 h6 =>
        X3_nextForMachine_L31 F (X3_nextForMachine_L7 F k) l0 l1 l2 v5 h6 := rfl
set_option maxRecDepth 100000 in
theorem SX3_nextForMachine_L7 {K : Ctx} {F : Nat} {r : Int} {hf : HP}     : ∀ (k : Nat) (l0 : Nat) (l1 : Int) (l2 : Int)  (h : HP), X3_nextForMachine_L7 F   k l0 l1 l2 h = some (r, hf) → Go K MX3_nextForMachine (QM K (some (vi r)) hf) hf 7 [(0, vr (some l0)), (1, vi l1), (2, vi l2)] [] h := by
  intro k
  induction k with
  | zero => intro l0 l1 l2 h E; exact nomatch E
  | succ k hrc7 =>
    intro l0 l1 l2 h E
    rw [X3_nextForMachine_L7_s] at E
    refine go_iload_n (j := 2) (n := 8) rfl rfl dX3_nextForMachine_7 rfl ?_
    refine go_aload_n (j := 0) (n := 9) rfl rfl dX3_nextForMachine_8 rfl ?_
    replace E := Option.bind_eq_some_iff.mp E; obtain ⟨v1, ev1, E⟩ := E
    refine go_getI (n := 12) ev1 fl_RX3_36 rfl dX3_nextForMachine_9 rfl ?_
    refine go_icmp_ge (tgt := 76) (n := 15) dX3_nextForMachine_12 rfl rfl (fun c2 => ?_) (fun c2 => ?_)
    · rw [if_pos c2] at E
      refine go_iconst (z := (-1)) (n := 77) ⟨by decide, by decide⟩ dX3_nextForMachine_76 rfl ?_
      cases E
      exact go_ireturn rfl dX3_nextForMachine_77
    · rw [if_neg c2] at E
      refine go_aload_n (j := 0) (n := 16) rfl rfl dX3_nextForMachine_15 rfl ?_
      replace E := Option.bind_eq_some_iff.mp E; obtain ⟨v3, ev3, E⟩ := E
      refine go_getI (n := 19) ev3 fl_RX3_27 rfl dX3_nextForMachine_16 rfl ?_
      refine go_if_eq (tgt := 30) (n := 22) dX3_nextForMachine_19 rfl rfl (fun c4 => ?_) (fun c4 => ?_)
      · rw [if_pos c4] at E
        refine go_iload_n (j := 2) (n := 31) rfl rfl dX3_nextForMachine_30 rfl ?_
        exact SX3_nextForMachine_L31   _ hrc7 _ _ _ _ _ E
      · rw [if_neg c4] at E
        refine go_aload_n (j := 0) (n := 23) rfl rfl dX3_nextForMachine_22 rfl ?_
        refine go_iload_n (j := 2) (n := 24) rfl rfl dX3_nextForMachine_23 rfl ?_
        replace E := Option.bind_eq_some_iff.mp E; obtain ⟨a7, ea7, E⟩ := E
        obtain ⟨fa7, ga7⟩ := xrc_some ea7
        replace E := xb_some E; obtain ⟨v5, h6, ev5, E⟩ := E
        refine go_callV (y := yX3_placed) (n := 27) (st := []) (as := [vi l2]) (stk9 := [vi v5]) (OX3_placed ev5) yw_X3_placed ci_3 ga7 wml_RX3_70 wim_X3_placed wse_X3_placed (Nat.le_of_ble_eq_true rfl) rfl ⟨Nat.le_of_ble_eq_true rfl, Nat.le_of_ble_eq_true rfl⟩ (Nat.le_of_ble_eq_true rfl) dX3_nextForMachine_24 rfl (by cases fa7; rfl) rfl ?_
        refine go_goto (tgt := 31) dX3_nextForMachine_27 rfl ?_
        exact SX3_nextForMachine_L31   _ hrc7 _ _ _ _ _ E
noncomputable def X3_nextForMachine (F : Nat)   (l0 : Nat)  (h : HP) : Option (Int × HP) :=
  (xrc h (some l0) 3 7).bind fun a3 =>
  xb (X3_endedBits F a3 h) fun v1 h2 =>
  X3_nextForMachine_L7 F F l0 v1 0 h2
set_option maxRecDepth 100000 in
theorem SX3_nextForMachine {K : Ctx} {F : Nat} {r : Int} {hf : HP}     (l0 : Nat)  (h : HP) (E : X3_nextForMachine F   l0 h = some (r, hf)) : Go K MX3_nextForMachine (QM K (some (vi r)) hf) hf 0 [(0, vr (some l0))] [] h := by
  unfold X3_nextForMachine at E
  refine go_aload_n (j := 0) (n := 1) rfl rfl dX3_nextForMachine_0 rfl ?_
  replace E := Option.bind_eq_some_iff.mp E; obtain ⟨a3, ea3, E⟩ := E
  obtain ⟨fa3, ga3⟩ := xrc_some ea3
  replace E := xb_some E; obtain ⟨v1, h2, ev1, E⟩ := E
  refine go_callV (y := yX3_endedBits) (n := 4) (st := []) (as := []) (stk9 := [vi v1]) (OX3_endedBits ev1) yw_X3_endedBits ci_3 ga3 wml_RX3_73 wim_X3_endedBits wse_X3_endedBits (Nat.le_of_ble_eq_true rfl) rfl ⟨Nat.le_of_ble_eq_true rfl, Nat.le_of_ble_eq_true rfl⟩ (Nat.le_of_ble_eq_true rfl) dX3_nextForMachine_1 rfl (by cases fa3; rfl) rfl ?_
  refine go_istore_n (n := 5) (lv' := [(1, vi v1), (0, vr (some l0))]) rfl dX3_nextForMachine_4 rfl (Nat.le_of_ble_eq_true rfl) rfl ?_
  refine go_iconst (z := 0) (n := 6) ⟨by decide, by decide⟩ dX3_nextForMachine_5 rfl ?_
  refine go_istore_n (n := 7) (lv' := [(2, vi 0), (1, vi v1), (0, vr (some l0))]) rfl dX3_nextForMachine_6 rfl (Nat.le_of_ble_eq_true rfl) rfl ?_
  refine go_pick (lv' := [(0, vr (some l0)), (1, vi v1), (2, vi 0)]) [2, 1, 0] rfl ?_
  exact SX3_nextForMachine_L7     F _ _ _ _ E
theorem OX3_nextForMachine {F : Nat} {l0 : Nat} {h hf : HP} {r : Int} (e : X3_nextForMachine F l0 h = some (r, hf)) : Ok MX3_nextForMachine [vr (some l0)] (some (vi r)) h hf := fun K _ _ _ => SX3_nextForMachine l0 h e
abbrev MX2_begin : MI := (RX2, cX2_begin, 1, none, 2, none, "begin")
noncomputable def X2_begin_L25 (F : Nat)   (l0 : Nat) (s0 : Int) (s1 : Option Nat) (h : HP) : Option (Unit × HP) :=
  (xpI h s1 2 18 11 s0).bind fun h1 =>
  (xgI h1 (some l0) 2 18 11).bind fun v2 =>
  (xpI h1 (some l0) 2 18 12 v2).bind fun h3 =>
  some ((), h3)
set_option maxRecDepth 100000 in
theorem SX2_begin_L25 {K : Ctx} {F : Nat} {r : Unit} {hf : HP}     (l0 : Nat) (s0 : Int) (s1 : Option Nat) (h : HP) (E : X2_begin_L25 F   l0 s0 s1 h = some (r, hf)) : Go K MX2_begin (QM K none hf) hf 25 [(0, vr (some l0))] [vi s0, vr s1] h := by
  unfold X2_begin_L25 at E
  replace E := Option.bind_eq_some_iff.mp E; obtain ⟨h1, eh1, E⟩ := E
  refine go_putI (n := 28) eh1 fl_RX2_47 rfl dX2_begin_25 rfl ?_
  refine go_aload_n (j := 0) (n := 29) rfl rfl dX2_begin_28 rfl ?_
  refine go_aload_n (j := 0) (n := 30) rfl rfl dX2_begin_29 rfl ?_
  replace E := Option.bind_eq_some_iff.mp E; obtain ⟨v2, ev2, E⟩ := E
  refine go_getI (n := 33) ev2 fl_RX2_47 rfl dX2_begin_30 rfl ?_
  replace E := Option.bind_eq_some_iff.mp E; obtain ⟨h3, eh3, E⟩ := E
  refine go_putI (n := 36) eh3 fl_RX2_50 rfl dX2_begin_33 rfl ?_
  cases E
  exact go_return rfl dX2_begin_36
noncomputable def X2_begin (F : Nat)   (l0 : Nat)  (h : HP) : Option (Unit × HP) :=
  (xpI h (some l0) 2 18 9 1).bind fun h1 =>
  (xgI h1 (some l0) 2 18 10).bind fun v2 =>
  if v2 = 1 then
    (xgI h1 (some l0) 2 18 6).bind fun v5 =>
    X2_begin_L25 F l0 v5 (some l0) h1
  else
    (xgI h1 (some l0) 2 18 0).bind fun v4 =>
    X2_begin_L25 F l0 v4 (some l0) h1
set_option maxRecDepth 100000 in
theorem SX2_begin {K : Ctx} {F : Nat} {r : Unit} {hf : HP}     (l0 : Nat)  (h : HP) (E : X2_begin F   l0 h = some (r, hf)) : Go K MX2_begin (QM K none hf) hf 0 [(0, vr (some l0))] [] h := by
  unfold X2_begin at E
  refine go_aload_n (j := 0) (n := 1) rfl rfl dX2_begin_0 rfl ?_
  refine go_iconst (z := 1) (n := 2) ⟨by decide, by decide⟩ dX2_begin_1 rfl ?_
  replace E := Option.bind_eq_some_iff.mp E; obtain ⟨h1, eh1, E⟩ := E
  refine go_putI (n := 5) eh1 fl_RX2_41 rfl dX2_begin_2 rfl ?_
  refine go_aload_n (j := 0) (n := 6) rfl rfl dX2_begin_5 rfl ?_
  refine go_aload_n (j := 0) (n := 7) rfl rfl dX2_begin_6 rfl ?_
  replace E := Option.bind_eq_some_iff.mp E; obtain ⟨v2, ev2, E⟩ := E
  refine go_getI (n := 10) ev2 fl_RX2_44 rfl dX2_begin_7 rfl ?_
  refine go_iconst (z := 1) (n := 11) ⟨by decide, by decide⟩ dX2_begin_10 rfl ?_
  refine go_icmp_ne (tgt := 21) (n := 14) dX2_begin_11 rfl rfl (fun c3 => ?_) (fun c3 => ?_)
  · rw [if_neg c3] at E
    refine go_aload_n (j := 0) (n := 22) rfl rfl dX2_begin_21 rfl ?_
    replace E := Option.bind_eq_some_iff.mp E; obtain ⟨v4, ev4, E⟩ := E
    refine go_getI (n := 25) ev4 fl_RX2_9 rfl dX2_begin_22 rfl ?_
    exact SX2_begin_L25     _ _ _ _ E
  · rw [if_pos c3] at E
    refine go_aload_n (j := 0) (n := 15) rfl rfl dX2_begin_14 rfl ?_
    replace E := Option.bind_eq_some_iff.mp E; obtain ⟨v5, ev5, E⟩ := E
    refine go_getI (n := 18) ev5 fl_RX2_32 rfl dX2_begin_15 rfl ?_
    refine go_goto (tgt := 25) dX2_begin_18 rfl ?_
    exact SX2_begin_L25     _ _ _ _ E
theorem OX2_begin {F : Nat} {l0 : Nat} {h hf : HP} {r : Unit} (e : X2_begin F l0 h = some (r, hf)) : Ok MX2_begin [vr (some l0)] none h hf := fun K _ _ _ => SX2_begin l0 h e
theorem wml_RX4_74 : Cond.methodLink RX4 74 yX3_at ∈ BW := bw_of 1384 (by decide +kernel) rfl
theorem fl_RX4_100 : FL RX4 100 2 18 12 false := ⟨RX2, TX2, ci_2, by decide, bw_of 338 (by decide +kernel) rfl, rfl, rfl⟩
theorem yw_X3_nextForMachine : YW yX3_nextForMachine cX3_nextForMachine 5 (some .int) 0 := ⟨bw_of 1407 (by decide +kernel) rfl, bw_of 122 (by decide +kernel) rfl, ⟨by decide +kernel, by decide +kernel, by decide +kernel⟩, by decide +kernel⟩
theorem wml_RX4_94 : Cond.methodLink RX4 94 yX3_nextForMachine ∈ BW := bw_of 1404 (by decide +kernel) rfl
theorem wim_X3_nextForMachine : Cond.instanceMethod yX3_nextForMachine ∈ BW := bw_of 1405 (by decide +kernel) rfl
theorem wse_X3_nextForMachine : Cond.selects RX3 yX3_nextForMachine yX3_nextForMachine ∈ BW := bw_of 1406 (by decide +kernel) rfl
theorem yw_X2_begin : YW yX2_begin cX2_begin 1 none 0 := ⟨bw_of 1415 (by decide +kernel) rfl, bw_of 123 (by decide +kernel) rfl, ⟨by decide +kernel, by decide +kernel, by decide +kernel⟩, by decide +kernel⟩
theorem wml_RX4_97 : Cond.methodLink RX4 97 yX2_begin ∈ BW := bw_of 1412 (by decide +kernel) rfl
theorem wim_X2_begin : Cond.instanceMethod yX2_begin ∈ BW := bw_of 1413 (by decide +kernel) rfl
theorem wse_X2_begin : Cond.selects RX2 yX2_begin yX2_begin ∈ BW := bw_of 1414 (by decide +kernel) rfl
abbrev MX4_runMachine : MI := (RX4, cX4_runMachine, 3, (some .int), 5, none, "runMachine")
noncomputable def X4_runMachine_L43 (F : Nat)   (l0 : Nat)  (h : HP) : Option (Int × HP) :=
  (xgP h (some l0) 4 12 2).bind fun v1 =>
  (xgI h (some l0) 4 12 10).bind fun v2 =>
  (xrc h v1 3 7).bind fun a5 =>
  xb (X3_at F a5 v2 h) fun v3 h4 =>
  (xgI h4 v3 2 18 12).bind fun v6 =>
  (xpI h4 v3 2 18 12 (w32 (v6 - 1))).bind fun h7 =>
  (xgI h7 v3 2 18 12).bind fun v8 =>
  if v8 ≤ 0 then
    (xgI h7 (some l0) 4 12 10).bind fun v10 =>
    (xpI h7 (some l0) 4 12 10 (-1)).bind fun h11 =>
    some (v10, h11)
  else
    some ((-1), h7)
set_option maxRecDepth 100000 in
theorem SX4_runMachine_L43 {K : Ctx} {F : Nat} {r : Int} {hf : HP}     (l0 : Nat)  (h : HP) (E : X4_runMachine_L43 F   l0 h = some (r, hf)) : Go K MX4_runMachine (QM K (some (vi r)) hf) hf 43 [(0, vr (some l0))] [] h := by
  unfold X4_runMachine_L43 at E
  refine go_aload_n (j := 0) (n := 44) rfl rfl dX4_runMachine_43 rfl ?_
  replace E := Option.bind_eq_some_iff.mp E; obtain ⟨v1, ev1, E⟩ := E
  refine go_getP (n := 47) ev1 fl_RX4_26 rfl dX4_runMachine_44 rfl ?_
  refine go_aload_n (j := 0) (n := 48) rfl rfl dX4_runMachine_47 rfl ?_
  replace E := Option.bind_eq_some_iff.mp E; obtain ⟨v2, ev2, E⟩ := E
  refine go_getI (n := 51) ev2 fl_RX4_51 rfl dX4_runMachine_48 rfl ?_
  replace E := Option.bind_eq_some_iff.mp E; obtain ⟨a5, ea5, E⟩ := E
  obtain ⟨fa5, ga5⟩ := xrc_some ea5
  replace E := xb_some E; obtain ⟨v3, h4, ev3, E⟩ := E
  refine go_callV (y := yX3_at) (n := 54) (st := []) (as := [vi v2]) (stk9 := [vr v3]) (OX3_at ev3) yw_X3_at ci_3 ga5 wml_RX4_74 wim_X3_at wse_X3_at (Nat.le_of_ble_eq_true rfl) rfl ⟨Nat.le_of_ble_eq_true rfl, Nat.le_of_ble_eq_true rfl⟩ (Nat.le_of_ble_eq_true rfl) dX4_runMachine_51 rfl (by cases fa5; rfl) rfl ?_
  refine go_astore_n (n := 55) (lv' := [(1, vr v3), (0, vr (some l0))]) rfl dX4_runMachine_54 rfl (Nat.le_of_ble_eq_true rfl) rfl ?_
  refine go_aload_n (j := 0) (n := 56) rfl rfl dX4_runMachine_55 rfl ?_
  refine go_dup (n := 57) rfl dX4_runMachine_56 rfl ?_
  replace E := Option.bind_eq_some_iff.mp E; obtain ⟨v6, ev6, E⟩ := E
  refine go_getI (n := 60) ev6 fl_RX4_100 rfl dX4_runMachine_57 rfl ?_
  refine go_iconst (z := 1) (n := 61) ⟨by decide, by decide⟩ dX4_runMachine_60 rfl ?_
  refine go_isub (n := 62) dX4_runMachine_61 rfl ?_
  replace E := Option.bind_eq_some_iff.mp E; obtain ⟨h7, eh7, E⟩ := E
  refine go_putI (n := 65) eh7 fl_RX4_100 rfl dX4_runMachine_62 rfl ?_
  refine go_aload_n (j := 0) (n := 66) rfl rfl dX4_runMachine_65 rfl ?_
  replace E := Option.bind_eq_some_iff.mp E; obtain ⟨v8, ev8, E⟩ := E
  refine go_getI (n := 69) ev8 fl_RX4_100 rfl dX4_runMachine_66 rfl ?_
  refine go_if_le (tgt := 74) (n := 72) dX4_runMachine_69 rfl rfl (fun c9 => ?_) (fun c9 => ?_)
  · rw [if_pos c9] at E
    refine go_aload_n (j := 1) (n := 75) rfl rfl dX4_runMachine_74 rfl ?_
    replace E := Option.bind_eq_some_iff.mp E; obtain ⟨v10, ev10, E⟩ := E
    refine go_getI (n := 78) ev10 fl_RX4_51 rfl dX4_runMachine_75 rfl ?_
    refine go_istore_n (n := 79) (lv' := [(2, vi v10), (1, vr v3), (0, vr (some l0))]) rfl dX4_runMachine_78 rfl (Nat.le_of_ble_eq_true rfl) rfl ?_
    refine go_aload_n (j := 2) (n := 80) rfl rfl dX4_runMachine_79 rfl ?_
    refine go_iconst (z := (-1)) (n := 81) ⟨by decide, by decide⟩ dX4_runMachine_80 rfl ?_
    replace E := Option.bind_eq_some_iff.mp E; obtain ⟨h11, eh11, E⟩ := E
    refine go_putI (n := 84) eh11 fl_RX4_51 rfl dX4_runMachine_81 rfl ?_
    refine go_iload_n (j := 0) (n := 85) rfl rfl dX4_runMachine_84 rfl ?_
    cases E
    exact go_ireturn rfl dX4_runMachine_85
  · rw [if_neg c9] at E
    refine go_iconst (z := (-1)) (n := 73) ⟨by decide, by decide⟩ dX4_runMachine_72 rfl ?_
    cases E
    exact go_ireturn rfl dX4_runMachine_73
noncomputable def X4_runMachine (F : Nat)   (l0 : Nat)  (h : HP) : Option (Int × HP) :=
  (xgI h (some l0) 4 12 10).bind fun v1 =>
  if v1 = (-1) then
    (xgP h (some l0) 4 12 2).bind fun v3 =>
    (xrc h v3 3 7).bind fun a6 =>
    xb (X3_nextForMachine F a6 h) fun v4 h5 =>
    (xpI h5 (some l0) 4 12 10 v4).bind fun h7 =>
    (xgI h7 (some l0) 4 12 10).bind fun v8 =>
    if v8 = (-1) then
      some ((-1), h7)
    else
      (xgP h7 (some l0) 4 12 2).bind fun v10 =>
      (xgI h7 (some l0) 4 12 10).bind fun v11 =>
      (xrc h7 v10 3 7).bind fun a14 =>
      xb (X3_at F a14 v11 h7) fun v12 h13 =>
      (xrc h13 v12 2 18).bind fun a17 =>
      xb (X2_begin F a17 h13) fun v15 h16 =>
      X4_runMachine_L43 F l0 h16
  else
    X4_runMachine_L43 F l0 h
set_option maxRecDepth 100000 in
theorem SX4_runMachine {K : Ctx} {F : Nat} {r : Int} {hf : HP}     (l0 : Nat)  (h : HP) (E : X4_runMachine F   l0 h = some (r, hf)) : Go K MX4_runMachine (QM K (some (vi r)) hf) hf 0 [(0, vr (some l0))] [] h := by
  unfold X4_runMachine at E
  refine go_aload_n (j := 0) (n := 1) rfl rfl dX4_runMachine_0 rfl ?_
  replace E := Option.bind_eq_some_iff.mp E; obtain ⟨v1, ev1, E⟩ := E
  refine go_getI (n := 4) ev1 fl_RX4_51 rfl dX4_runMachine_1 rfl ?_
  refine go_iconst (z := (-1)) (n := 5) ⟨by decide, by decide⟩ dX4_runMachine_4 rfl ?_
  refine go_icmp_ne (tgt := 43) (n := 8) dX4_runMachine_5 rfl rfl (fun c2 => ?_) (fun c2 => ?_)
  · rw [if_neg c2] at E
    exact SX4_runMachine_L43     _  _ E
  · rw [if_pos c2] at E
    refine go_aload_n (j := 0) (n := 9) rfl rfl dX4_runMachine_8 rfl ?_
    refine go_aload_n (j := 0) (n := 10) rfl rfl dX4_runMachine_9 rfl ?_
    replace E := Option.bind_eq_some_iff.mp E; obtain ⟨v3, ev3, E⟩ := E
    refine go_getP (n := 13) ev3 fl_RX4_26 rfl dX4_runMachine_10 rfl ?_
    replace E := Option.bind_eq_some_iff.mp E; obtain ⟨a6, ea6, E⟩ := E
    obtain ⟨fa6, ga6⟩ := xrc_some ea6
    replace E := xb_some E; obtain ⟨v4, h5, ev4, E⟩ := E
    refine go_callV (y := yX3_nextForMachine) (n := 16) (st := [vr (some l0)]) (as := []) (stk9 := [vi v4, vr (some l0)]) (OX3_nextForMachine ev4) yw_X3_nextForMachine ci_3 ga6 wml_RX4_94 wim_X3_nextForMachine wse_X3_nextForMachine (Nat.le_of_ble_eq_true rfl) rfl ⟨Nat.le_of_ble_eq_true rfl, Nat.le_of_ble_eq_true rfl⟩ (Nat.le_of_ble_eq_true rfl) dX4_runMachine_13 rfl (by cases fa6; rfl) rfl ?_
    replace E := Option.bind_eq_some_iff.mp E; obtain ⟨h7, eh7, E⟩ := E
    refine go_putI (n := 19) eh7 fl_RX4_51 rfl dX4_runMachine_16 rfl ?_
    refine go_aload_n (j := 0) (n := 20) rfl rfl dX4_runMachine_19 rfl ?_
    replace E := Option.bind_eq_some_iff.mp E; obtain ⟨v8, ev8, E⟩ := E
    refine go_getI (n := 23) ev8 fl_RX4_51 rfl dX4_runMachine_20 rfl ?_
    refine go_iconst (z := (-1)) (n := 24) ⟨by decide, by decide⟩ dX4_runMachine_23 rfl ?_
    refine go_icmp_ne (tgt := 29) (n := 27) dX4_runMachine_24 rfl rfl (fun c9 => ?_) (fun c9 => ?_)
    · rw [if_neg c9] at E
      refine go_aload_n (j := 0) (n := 30) rfl rfl dX4_runMachine_29 rfl ?_
      replace E := Option.bind_eq_some_iff.mp E; obtain ⟨v10, ev10, E⟩ := E
      refine go_getP (n := 33) ev10 fl_RX4_26 rfl dX4_runMachine_30 rfl ?_
      refine go_aload_n (j := 0) (n := 34) rfl rfl dX4_runMachine_33 rfl ?_
      replace E := Option.bind_eq_some_iff.mp E; obtain ⟨v11, ev11, E⟩ := E
      refine go_getI (n := 37) ev11 fl_RX4_51 rfl dX4_runMachine_34 rfl ?_
      replace E := Option.bind_eq_some_iff.mp E; obtain ⟨a14, ea14, E⟩ := E
      obtain ⟨fa14, ga14⟩ := xrc_some ea14
      replace E := xb_some E; obtain ⟨v12, h13, ev12, E⟩ := E
      refine go_callV (y := yX3_at) (n := 40) (st := []) (as := [vi v11]) (stk9 := [vr v12]) (OX3_at ev12) yw_X3_at ci_3 ga14 wml_RX4_74 wim_X3_at wse_X3_at (Nat.le_of_ble_eq_true rfl) rfl ⟨Nat.le_of_ble_eq_true rfl, Nat.le_of_ble_eq_true rfl⟩ (Nat.le_of_ble_eq_true rfl) dX4_runMachine_37 rfl (by cases fa14; rfl) rfl ?_
      replace E := Option.bind_eq_some_iff.mp E; obtain ⟨a17, ea17, E⟩ := E
      obtain ⟨fa17, ga17⟩ := xrc_some ea17
      replace E := xb_some E; obtain ⟨v15, h16, ev15, E⟩ := E
      refine go_callV (y := yX2_begin) (n := 43) (st := []) (as := []) (stk9 := []) (OX2_begin ev15) yw_X2_begin ci_2 ga17 wml_RX4_97 wim_X2_begin wse_X2_begin (Nat.le_of_ble_eq_true rfl) rfl ⟨Nat.le_of_ble_eq_true rfl, Nat.le_of_ble_eq_true rfl⟩ (Nat.le_of_ble_eq_true rfl) dX4_runMachine_40 rfl (by cases fa17; rfl) rfl ?_
      exact SX4_runMachine_L43     _  _ E
    · rw [if_pos c9] at E
      refine go_iconst (z := (-1)) (n := 28) ⟨by decide, by decide⟩ dX4_runMachine_27 rfl ?_
      cases E
      exact go_ireturn rfl dX4_runMachine_28
theorem OX4_runMachine {F : Nat} {l0 : Nat} {h hf : HP} {r : Int} (e : X4_runMachine F l0 h = some (r, hf)) : Ok MX4_runMachine [vr (some l0)] (some (vi r)) h hf := fun K _ _ _ => SX4_runMachine l0 h e
theorem wk_RX7_34 : Cond.constant RX7 34 (Int32.ofInt 524288) ∈ BW := bw_of 1004 (by decide +kernel) rfl
abbrev MX7_takePen : MI := (RX7, cX7_takePen, 5, none, 2, none, "takePen")
noncomputable def X7_takePen_L37 (F : Nat)    (s0 : Int) (s1 : Int) (s2 : Option Nat) (h : HP) : Option (Unit × HP) :=
  (xpI h s2 7 10 9 (xor_ s1 s0)).bind fun h1 =>
  some ((), h1)
set_option maxRecDepth 100000 in
theorem SX7_takePen_L37 {K : Ctx} {F : Nat} {r : Unit} {hf : HP}      (s0 : Int) (s1 : Int) (s2 : Option Nat) (h : HP) (E : X7_takePen_L37 F   s0 s1 s2 h = some (r, hf)) : Go K MX7_takePen (QM K none hf) hf 37 [] [vi s0, vi s1, vr s2] h := by
  unfold X7_takePen_L37 at E
  refine go_ior (n := 38) dX7_takePen_37 rfl ?_
  replace E := Option.bind_eq_some_iff.mp E; obtain ⟨h1, eh1, E⟩ := E
  refine go_putI (n := 41) eh1 fl_RX7_36 rfl dX7_takePen_38 rfl ?_
  cases E
  exact go_return rfl dX7_takePen_41
noncomputable def X7_takePen_L25 (F : Nat)   (l4 : Int) (s0 : Int) (s1 : Int) (s2 : Option Nat) (h : HP) : Option (Unit × HP) :=
  X7_takePen_L37 F (if l4 = 0 then 0 else 1048576) (xor_ s1 s0) s2 h
set_option maxRecDepth 100000 in
theorem SX7_takePen_L25 {K : Ctx} {F : Nat} {r : Unit} {hf : HP}     (l4 : Int) (s0 : Int) (s1 : Int) (s2 : Option Nat) (h : HP) (E : X7_takePen_L25 F   l4 s0 s1 s2 h = some (r, hf)) : Go K MX7_takePen (QM K none hf) hf 25 [(4, vi l4)] [vi s0, vi s1, vr s2] h := by
  unfold X7_takePen_L25 at E
  refine go_ior (n := 26) dX7_takePen_25 rfl ?_
  refine go_iload (j := 0) (n := 28) rfl dX7_takePen_26 rfl ?_
  refine go_if_eq (tgt := 36) (n := 31) dX7_takePen_28 rfl rfl (fun c1 => ?_) (fun c1 => ?_)
  · simp only [if_pos c1] at E
    refine go_iconst (z := 0) (n := 37) ⟨by decide, by decide⟩ dX7_takePen_36 rfl ?_
    refine go_pick (lv' := []) [] rfl ?_
    exact SX7_takePen_L37      _ _ _ _ E
  · simp only [if_neg c1] at E
    refine go_ldc (z := 1048576) (n := 33) ⟨by decide, by decide⟩ wk_RX7_35 dX7_takePen_31 rfl ?_
    refine go_goto (tgt := 37) dX7_takePen_33 rfl ?_
    refine go_pick (lv' := []) [] rfl ?_
    exact SX7_takePen_L37      _ _ _ _ E
noncomputable def X7_takePen (F : Nat)   (l0 : Nat) (l1 : Int) (l2 : Int) (l3 : Int) (l4 : Int)  (h : HP) : Option (Unit × HP) :=
  X7_takePen_L25 F l4 (if l3 = 0 then 0 else 524288) (xor_ (xor_ (xshl (w32 (l1 + 1)) 6) (xshl l2 10)) 2097152) (some l0) h
set_option maxRecDepth 100000 in
theorem SX7_takePen {K : Ctx} {F : Nat} {r : Unit} {hf : HP}     (l0 : Nat) (l1 : Int) (l2 : Int) (l3 : Int) (l4 : Int)  (h : HP) (E : X7_takePen F   l0 l1 l2 l3 l4 h = some (r, hf)) : Go K MX7_takePen (QM K none hf) hf 0 [(0, vr (some l0)), (1, vi l1), (2, vi l2), (3, vi l3), (4, vi l4)] [] h := by
  unfold X7_takePen at E
  refine go_aload_n (j := 0) (n := 1) rfl rfl dX7_takePen_0 rfl ?_
  refine go_iload_n (j := 1) (n := 2) rfl rfl dX7_takePen_1 rfl ?_
  refine go_iconst (z := 1) (n := 3) ⟨by decide, by decide⟩ dX7_takePen_2 rfl ?_
  refine go_iadd (n := 4) dX7_takePen_3 rfl ?_
  refine go_bipush (z := 6) (n := 6) ⟨by decide, by decide⟩ dX7_takePen_4 rfl ?_
  refine go_ishl (n := 7) dX7_takePen_6 rfl ?_
  refine go_iload_n (j := 2) (n := 8) rfl rfl dX7_takePen_7 rfl ?_
  refine go_bipush (z := 10) (n := 10) ⟨by decide, by decide⟩ dX7_takePen_8 rfl ?_
  refine go_ishl (n := 11) dX7_takePen_10 rfl ?_
  refine go_ior (n := 12) dX7_takePen_11 rfl ?_
  refine go_ldc (z := 2097152) (n := 14) ⟨by decide, by decide⟩ wk_RX7_33 dX7_takePen_12 rfl ?_
  refine go_ior (n := 15) dX7_takePen_14 rfl ?_
  refine go_iload_n (j := 3) (n := 16) rfl rfl dX7_takePen_15 rfl ?_
  refine go_if_eq (tgt := 24) (n := 19) dX7_takePen_16 rfl rfl (fun c1 => ?_) (fun c1 => ?_)
  · simp only [if_pos c1] at E
    refine go_iconst (z := 0) (n := 25) ⟨by decide, by decide⟩ dX7_takePen_24 rfl ?_
    refine go_pick (lv' := [(4, vi l4)]) [4] rfl ?_
    exact SX7_takePen_L25     _ _ _ _ _ E
  · simp only [if_neg c1] at E
    refine go_ldc (z := 524288) (n := 21) ⟨by decide, by decide⟩ wk_RX7_34 dX7_takePen_19 rfl ?_
    refine go_goto (tgt := 25) dX7_takePen_21 rfl ?_
    refine go_pick (lv' := [(4, vi l4)]) [4] rfl ?_
    exact SX7_takePen_L25     _ _ _ _ _ E
theorem OX7_takePen {F : Nat} {l0 : Nat} {l1 : Int} {l2 : Int} {l3 : Int} {l4 : Int} {h hf : HP} {r : Unit} (e : X7_takePen F l0 l1 l2 l3 l4 h = some (r, hf)) : Ok MX7_takePen [vr (some l0), vi l1, vi l2, vi l3, vi l4] none h hf := fun K _ _ _ => SX7_takePen l0 l1 l2 l3 l4 h e
abbrev MX7_oldAt : MI := (RX7, cX7_oldAt, 2, (some .int), 2, none, "oldAt")
noncomputable def X7_oldAt (F : Nat)   (l0 : Nat) (l1 : Int)  (h : HP) : Option (Int × HP) :=
  if l1 < 0 then
    some (0, h)
  else
    if 64 ≤ l1 then
      some (0, h)
    else
      (xgP h (some l0) 7 10 1).bind fun v3 =>
      (xaI h v3 100 l1).bind fun v4 =>
      some (v4, h)
set_option maxRecDepth 100000 in
theorem SX7_oldAt {K : Ctx} {F : Nat} {r : Int} {hf : HP}     (l0 : Nat) (l1 : Int)  (h : HP) (E : X7_oldAt F   l0 l1 h = some (r, hf)) : Go K MX7_oldAt (QM K (some (vi r)) hf) hf 0 [(0, vr (some l0)), (1, vi l1)] [] h := by
  unfold X7_oldAt at E
  refine go_iload_n (j := 1) (n := 1) rfl rfl dX7_oldAt_0 rfl ?_
  refine go_if_lt (tgt := 19) (n := 4) dX7_oldAt_1 rfl rfl (fun c1 => ?_) (fun c1 => ?_)
  · rw [if_pos c1] at E
    refine go_iconst (z := 0) (n := 20) ⟨by decide, by decide⟩ dX7_oldAt_19 rfl ?_
    cases E
    exact go_ireturn rfl dX7_oldAt_20
  · rw [if_neg c1] at E
    refine go_iload_n (j := 1) (n := 5) rfl rfl dX7_oldAt_4 rfl ?_
    refine go_bipush (z := 64) (n := 7) ⟨by decide, by decide⟩ dX7_oldAt_5 rfl ?_
    refine go_icmp_ge (tgt := 19) (n := 10) dX7_oldAt_7 rfl rfl (fun c2 => ?_) (fun c2 => ?_)
    · rw [if_pos c2] at E
      refine go_iconst (z := 0) (n := 20) ⟨by decide, by decide⟩ dX7_oldAt_19 rfl ?_
      cases E
      exact go_ireturn rfl dX7_oldAt_20
    · rw [if_neg c2] at E
      refine go_aload_n (j := 0) (n := 11) rfl rfl dX7_oldAt_10 rfl ?_
      replace E := Option.bind_eq_some_iff.mp E; obtain ⟨v3, ev3, E⟩ := E
      refine go_getP (n := 14) ev3 fl_RX7_15 rfl dX7_oldAt_11 rfl ?_
      refine go_iload_n (j := 1) (n := 15) rfl rfl dX7_oldAt_14 rfl ?_
      replace E := Option.bind_eq_some_iff.mp E; obtain ⟨v4, ev4, E⟩ := E
      refine go_iaload (n := 16) ev4 dX7_oldAt_15 rfl ?_
      refine go_goto (tgt := 20) dX7_oldAt_16 rfl ?_
      cases E
      exact go_ireturn rfl dX7_oldAt_20
theorem OX7_oldAt {F : Nat} {l0 : Nat} {l1 : Int} {h hf : HP} {r : Int} (e : X7_oldAt F l0 l1 h = some (r, hf)) : Ok MX7_oldAt [vr (some l0), vi l1] (some (vi r)) h hf := fun K _ _ _ => SX7_oldAt l0 l1 h e
theorem wl_RX11_351 : Cond.constantLong RX11 351 (Int64.ofInt (-999999999)) ∈ BW := bw_of 1436 (by decide +kernel) rfl
theorem wl_RX11_353 : Cond.constantLong RX11 353 (Int64.ofInt 999999999) ∈ BW := bw_of 1437 (by decide +kernel) rfl
abbrev MX11_outOfBounds : MI := (RX11, cX11_outOfBounds, 2, (some .boolean), 2, none, "outOfBounds")
noncomputable def X11_outOfBounds_L16 (F : Nat)     (h : HP) : Option (Int × HP) :=
  some (1, h)
set_option maxRecDepth 100000 in
theorem SX11_outOfBounds_L16 {K : Ctx} {F : Nat} {r : Int} {hf : HP}       (h : HP) (E : X11_outOfBounds_L16 F    h = some (r, hf)) : Go K MX11_outOfBounds (QM K (some (vi r)) hf) hf 16 [] [] h := by
  unfold X11_outOfBounds_L16 at E
  refine go_iconst (z := 1) (n := 17) ⟨by decide, by decide⟩ dX11_outOfBounds_16 rfl ?_
  refine go_goto (tgt := 21) dX11_outOfBounds_17 rfl ?_
  cases E
  exact go_zreturn rfl (Or.inr rfl) dX11_outOfBounds_21
noncomputable def X11_outOfBounds (F : Nat)   (l0 : Int)  (h : HP) : Option (Int × HP) :=
  if (xcmp l0 (-999999999)) < 0 then
    X11_outOfBounds_L16 F h
  else
    if (xcmp l0 999999999) ≤ 0 then
      some (0, h)
    else
      X11_outOfBounds_L16 F h
set_option maxRecDepth 100000 in
theorem SX11_outOfBounds {K : Ctx} {F : Nat} {r : Int} {hf : HP}     (l0 : Int)  (h : HP) (E : X11_outOfBounds F   l0 h = some (r, hf)) : Go K MX11_outOfBounds (QM K (some (vi r)) hf) hf 0 [(0, vl l0)] [] h := by
  unfold X11_outOfBounds at E
  refine go_lload_n (j := 0) (n := 1) rfl rfl dX11_outOfBounds_0 rfl ?_
  refine go_ldc2 (z := (-999999999)) (n := 4) ⟨by decide, by decide⟩ wl_RX11_351 dX11_outOfBounds_1 rfl ?_
  refine go_lcmp (n := 5) dX11_outOfBounds_4 rfl ?_
  refine go_if_lt (tgt := 16) (n := 8) dX11_outOfBounds_5 rfl rfl (fun c1 => ?_) (fun c1 => ?_)
  · rw [if_pos c1] at E
    refine go_pick (lv' := []) [] rfl ?_
    exact SX11_outOfBounds_L16       _ E
  · rw [if_neg c1] at E
    refine go_lload_n (j := 0) (n := 9) rfl rfl dX11_outOfBounds_8 rfl ?_
    refine go_ldc2 (z := 999999999) (n := 12) ⟨by decide, by decide⟩ wl_RX11_353 dX11_outOfBounds_9 rfl ?_
    refine go_lcmp (n := 13) dX11_outOfBounds_12 rfl ?_
    refine go_if_le (tgt := 20) (n := 16) dX11_outOfBounds_13 rfl rfl (fun c2 => ?_) (fun c2 => ?_)
    · rw [if_pos c2] at E
      refine go_iconst (z := 0) (n := 21) ⟨by decide, by decide⟩ dX11_outOfBounds_20 rfl ?_
      cases E
      exact go_zreturn rfl (Or.inl rfl) dX11_outOfBounds_21
    · rw [if_neg c2] at E
      refine go_pick (lv' := []) [] rfl ?_
      exact SX11_outOfBounds_L16       _ E
theorem OX11_outOfBounds {F : Nat} {l0 : Int} {h hf : HP} {r : Int} (e : X11_outOfBounds F l0 h = some (r, hf)) : Ok MX11_outOfBounds [vl l0] (some (vi r)) h hf := fun K _ _ _ => SX11_outOfBounds l0 h e
abbrev MX7_hasFailed : MI := (RX7, cX7_hasFailed, 3, (some .boolean), 2, none, "hasFailed")
noncomputable def X7_hasFailed (F : Nat)   (l0 : Nat) (l1 : Int) (l2 : Int)  (h : HP) : Option (Int × HP) :=
  (xgP h (some l0) 7 10 3).bind fun v1 =>
  (xaI h v1 100 l1).bind fun v2 =>
  if v2 = 0 then
    some (0, h)
  else
    (xgP h (some l0) 7 10 2).bind fun v4 =>
    (xaI h v4 100 l1).bind fun v5 =>
    some (if l2 < v5 then 0 else 1, h)
set_option maxRecDepth 100000 in
theorem SX7_hasFailed {K : Ctx} {F : Nat} {r : Int} {hf : HP}     (l0 : Nat) (l1 : Int) (l2 : Int)  (h : HP) (E : X7_hasFailed F   l0 l1 l2 h = some (r, hf)) : Go K MX7_hasFailed (QM K (some (vi r)) hf) hf 0 [(0, vr (some l0)), (1, vi l1), (2, vi l2)] [] h := by
  unfold X7_hasFailed at E
  refine go_aload_n (j := 0) (n := 1) rfl rfl dX7_hasFailed_0 rfl ?_
  replace E := Option.bind_eq_some_iff.mp E; obtain ⟨v1, ev1, E⟩ := E
  refine go_getP (n := 4) ev1 fl_RX7_21 rfl dX7_hasFailed_1 rfl ?_
  refine go_iload_n (j := 1) (n := 5) rfl rfl dX7_hasFailed_4 rfl ?_
  replace E := Option.bind_eq_some_iff.mp E; obtain ⟨v2, ev2, E⟩ := E
  refine go_iaload (n := 6) ev2 dX7_hasFailed_5 rfl ?_
  refine go_if_eq (tgt := 23) (n := 9) dX7_hasFailed_6 rfl rfl (fun c3 => ?_) (fun c3 => ?_)
  · rw [if_pos c3] at E
    refine go_iconst (z := 0) (n := 24) ⟨by decide, by decide⟩ dX7_hasFailed_23 rfl ?_
    cases E
    exact go_zreturn rfl (Or.inl rfl) dX7_hasFailed_24
  · rw [if_neg c3] at E
    refine go_aload_n (j := 0) (n := 10) rfl rfl dX7_hasFailed_9 rfl ?_
    replace E := Option.bind_eq_some_iff.mp E; obtain ⟨v4, ev4, E⟩ := E
    refine go_getP (n := 13) ev4 fl_RX7_18 rfl dX7_hasFailed_10 rfl ?_
    refine go_iload_n (j := 1) (n := 14) rfl rfl dX7_hasFailed_13 rfl ?_
    replace E := Option.bind_eq_some_iff.mp E; obtain ⟨v5, ev5, E⟩ := E
    refine go_iaload (n := 15) ev5 dX7_hasFailed_14 rfl ?_
    refine go_iload_n (j := 2) (n := 16) rfl rfl dX7_hasFailed_15 rfl ?_
    refine go_icmp_gt (tgt := 23) (n := 19) dX7_hasFailed_16 rfl rfl (fun c6 => ?_) (fun c6 => ?_)
    · simp only [if_pos c6] at E
      refine go_iconst (z := 0) (n := 24) ⟨by decide, by decide⟩ dX7_hasFailed_23 rfl ?_
      cases E
      exact go_zreturn rfl (Or.inl rfl) dX7_hasFailed_24
    · simp only [if_neg c6] at E
      refine go_iconst (z := 1) (n := 20) ⟨by decide, by decide⟩ dX7_hasFailed_19 rfl ?_
      refine go_goto (tgt := 24) dX7_hasFailed_20 rfl ?_
      cases E
      exact go_zreturn rfl (Or.inr rfl) dX7_hasFailed_24
theorem OX7_hasFailed {F : Nat} {l0 : Nat} {l1 : Int} {l2 : Int} {h hf : HP} {r : Int} (e : X7_hasFailed F l0 l1 l2 h = some (r, hf)) : Ok MX7_hasFailed [vr (some l0), vi l1, vi l2] (some (vi r)) h hf := fun K _ _ _ => SX7_hasFailed l0 l1 l2 h e
theorem wk_RX7_51 : Cond.constant RX7 51 (Int32.ofInt (-2097153)) ∈ BW := bw_of 1016 (by decide +kernel) rfl
theorem yw_X7_hasFailed : YW yX7_hasFailed cX7_hasFailed 3 (some .boolean) 2 := ⟨bw_of 1015 (by decide +kernel) rfl, bw_of 121 (by decide +kernel) rfl, ⟨by decide +kernel, by decide +kernel, by decide +kernel⟩, by decide +kernel⟩
theorem wml_RX7_44 : Cond.methodLink RX7 44 yX7_hasFailed ∈ BW := bw_of 1012 (by decide +kernel) rfl
theorem wim_X7_hasFailed : Cond.instanceMethod yX7_hasFailed ∈ BW := bw_of 1014 (by decide +kernel) rfl
theorem wse_X7_hasFailed : Cond.selects RX7 yX7_hasFailed yX7_hasFailed ∈ BW := bw_of 8 (by decide +kernel) rfl
abbrev MX7_write : MI := (RX7, cX7_write, 6, none, 3, none, "write")
noncomputable def X7_write_L138 (F : Nat)   (l0 : Nat)  (h : HP) : Option (Unit × HP) :=
  (xgI h (some l0) 7 10 9).bind fun v1 =>
  (xpI h (some l0) 7 10 9 (xand v1 (-2097153))).bind fun h2 =>
  some ((), h2)
set_option maxRecDepth 100000 in
theorem SX7_write_L138 {K : Ctx} {F : Nat} {r : Unit} {hf : HP}     (l0 : Nat)  (h : HP) (E : X7_write_L138 F   l0 h = some (r, hf)) : Go K MX7_write (QM K none hf) hf 138 [(0, vr (some l0))] [] h := by
  unfold X7_write_L138 at E
  refine go_aload_n (j := 0) (n := 139) rfl rfl dX7_write_138 rfl ?_
  refine go_dup (n := 140) rfl dX7_write_139 rfl ?_
  replace E := Option.bind_eq_some_iff.mp E; obtain ⟨v1, ev1, E⟩ := E
  refine go_getI (n := 143) ev1 fl_RX7_36 rfl dX7_write_140 rfl ?_
  refine go_ldc (z := (-2097153)) (n := 145) ⟨by decide, by decide⟩ wk_RX7_51 dX7_write_143 rfl ?_
  refine go_iand (n := 146) dX7_write_145 rfl ?_
  replace E := Option.bind_eq_some_iff.mp E; obtain ⟨h2, eh2, E⟩ := E
  refine go_putI (n := 149) eh2 fl_RX7_36 rfl dX7_write_146 rfl ?_
  cases E
  exact go_return rfl dX7_write_149
noncomputable def X7_write_L65 (F : Nat)   (l0 : Nat) (l1 : Int) (s0 : Int) (h : HP) : Option (Unit × HP) :=
  (xgP h (some l0) 7 10 0).bind fun v1 =>
  (xsI h v1 l1 s0).bind fun h2 =>
  (xgI h2 (some l0) 7 10 7).bind fun v3 =>
  if v3 < 0 then
    X7_write_L138 F l0 h2
  else
    (xgI h2 (some l0) 7 10 7).bind fun v5 =>
    if 5120 ≤ v5 then
      X7_write_L138 F l0 h2
    else
      (xgP h2 (some l0) 7 10 4).bind fun v7 =>
      (xgI h2 (some l0) 7 10 7).bind fun v8 =>
      (xsI h2 v7 v8 s0).bind fun h9 =>
      (xgP h9 (some l0) 7 10 5).bind fun v10 =>
      (xgI h9 (some l0) 7 10 7).bind fun v11 =>
      (xsI h9 v10 v11 0).bind fun h12 =>
      (xgP h12 (some l0) 7 10 6).bind fun v13 =>
      (xgI h12 (some l0) 7 10 7).bind fun v14 =>
      (xgI h12 (some l0) 7 10 9).bind fun v15 =>
      (xsI h12 v13 v14 (xor_ v15 l1)).bind fun h16 =>
      (xgI h16 (some l0) 7 10 7).bind fun v17 =>
      (xpI h16 (some l0) 7 10 7 (w32 (v17 + 1))).bind fun h18 =>
      X7_write_L138 F l0 h18
set_option maxRecDepth 100000 in
theorem SX7_write_L65 {K : Ctx} {F : Nat} {r : Unit} {hf : HP}     (l0 : Nat) (l1 : Int) (s0 : Int) (h : HP) (E : X7_write_L65 F   l0 l1 s0 h = some (r, hf)) : Go K MX7_write (QM K none hf) hf 65 [(0, vr (some l0)), (1, vi l1)] [vi s0] h := by
  unfold X7_write_L65 at E
  refine go_istore (n := 67) (lv' := [(5, vi s0), (0, vr (some l0)), (1, vi l1)]) dX7_write_65 rfl (Nat.le_of_ble_eq_true rfl) rfl ?_
  refine go_aload_n (j := 1) (n := 68) rfl rfl dX7_write_67 rfl ?_
  replace E := Option.bind_eq_some_iff.mp E; obtain ⟨v1, ev1, E⟩ := E
  refine go_getP (n := 71) ev1 fl_RX7_9 rfl dX7_write_68 rfl ?_
  refine go_iload_n (j := 2) (n := 72) rfl rfl dX7_write_71 rfl ?_
  refine go_iload (j := 0) (n := 74) rfl dX7_write_72 rfl ?_
  replace E := Option.bind_eq_some_iff.mp E; obtain ⟨h2, eh2, E⟩ := E
  refine go_iastore (n := 75) eh2 dX7_write_74 rfl ?_
  refine go_aload_n (j := 1) (n := 76) rfl rfl dX7_write_75 rfl ?_
  replace E := Option.bind_eq_some_iff.mp E; obtain ⟨v3, ev3, E⟩ := E
  refine go_getI (n := 79) ev3 fl_RX7_48 rfl dX7_write_76 rfl ?_
  refine go_if_lt (tgt := 138) (n := 82) dX7_write_79 rfl rfl (fun c4 => ?_) (fun c4 => ?_)
  · rw [if_pos c4] at E
    refine go_pick (lv' := [(0, vr (some l0))]) [1] rfl ?_
    exact SX7_write_L138     _  _ E
  · rw [if_neg c4] at E
    refine go_aload_n (j := 1) (n := 83) rfl rfl dX7_write_82 rfl ?_
    replace E := Option.bind_eq_some_iff.mp E; obtain ⟨v5, ev5, E⟩ := E
    refine go_getI (n := 86) ev5 fl_RX7_48 rfl dX7_write_83 rfl ?_
    refine go_sipush (z := 5120) (n := 89) ⟨by decide, by decide⟩ dX7_write_86 rfl ?_
    refine go_icmp_ge (tgt := 138) (n := 92) dX7_write_89 rfl rfl (fun c6 => ?_) (fun c6 => ?_)
    · rw [if_pos c6] at E
      refine go_pick (lv' := [(0, vr (some l0))]) [1] rfl ?_
      exact SX7_write_L138     _  _ E
    · rw [if_neg c6] at E
      refine go_aload_n (j := 1) (n := 93) rfl rfl dX7_write_92 rfl ?_
      replace E := Option.bind_eq_some_iff.mp E; obtain ⟨v7, ev7, E⟩ := E
      refine go_getP (n := 96) ev7 fl_RX7_24 rfl dX7_write_93 rfl ?_
      refine go_aload_n (j := 1) (n := 97) rfl rfl dX7_write_96 rfl ?_
      replace E := Option.bind_eq_some_iff.mp E; obtain ⟨v8, ev8, E⟩ := E
      refine go_getI (n := 100) ev8 fl_RX7_48 rfl dX7_write_97 rfl ?_
      refine go_iload (j := 0) (n := 102) rfl dX7_write_100 rfl ?_
      replace E := Option.bind_eq_some_iff.mp E; obtain ⟨h9, eh9, E⟩ := E
      refine go_iastore (n := 103) eh9 dX7_write_102 rfl ?_
      refine go_aload_n (j := 1) (n := 104) rfl rfl dX7_write_103 rfl ?_
      replace E := Option.bind_eq_some_iff.mp E; obtain ⟨v10, ev10, E⟩ := E
      refine go_getP (n := 107) ev10 fl_RX7_27 rfl dX7_write_104 rfl ?_
      refine go_aload_n (j := 1) (n := 108) rfl rfl dX7_write_107 rfl ?_
      replace E := Option.bind_eq_some_iff.mp E; obtain ⟨v11, ev11, E⟩ := E
      refine go_getI (n := 111) ev11 fl_RX7_48 rfl dX7_write_108 rfl ?_
      refine go_iconst (z := 0) (n := 112) ⟨by decide, by decide⟩ dX7_write_111 rfl ?_
      replace E := Option.bind_eq_some_iff.mp E; obtain ⟨h12, eh12, E⟩ := E
      refine go_iastore (n := 113) eh12 dX7_write_112 rfl ?_
      refine go_aload_n (j := 1) (n := 114) rfl rfl dX7_write_113 rfl ?_
      replace E := Option.bind_eq_some_iff.mp E; obtain ⟨v13, ev13, E⟩ := E
      refine go_getP (n := 117) ev13 fl_RX7_30 rfl dX7_write_114 rfl ?_
      refine go_aload_n (j := 1) (n := 118) rfl rfl dX7_write_117 rfl ?_
      replace E := Option.bind_eq_some_iff.mp E; obtain ⟨v14, ev14, E⟩ := E
      refine go_getI (n := 121) ev14 fl_RX7_48 rfl dX7_write_118 rfl ?_
      refine go_aload_n (j := 1) (n := 122) rfl rfl dX7_write_121 rfl ?_
      replace E := Option.bind_eq_some_iff.mp E; obtain ⟨v15, ev15, E⟩ := E
      refine go_getI (n := 125) ev15 fl_RX7_36 rfl dX7_write_122 rfl ?_
      refine go_iload_n (j := 2) (n := 126) rfl rfl dX7_write_125 rfl ?_
      refine go_ior (n := 127) dX7_write_126 rfl ?_
      replace E := Option.bind_eq_some_iff.mp E; obtain ⟨h16, eh16, E⟩ := E
      refine go_iastore (n := 128) eh16 dX7_write_127 rfl ?_
      refine go_aload_n (j := 1) (n := 129) rfl rfl dX7_write_128 rfl ?_
      refine go_dup (n := 130) rfl dX7_write_129 rfl ?_
      replace E := Option.bind_eq_some_iff.mp E; obtain ⟨v17, ev17, E⟩ := E
      refine go_getI (n := 133) ev17 fl_RX7_48 rfl dX7_write_130 rfl ?_
      refine go_iconst (z := 1) (n := 134) ⟨by decide, by decide⟩ dX7_write_133 rfl ?_
      refine go_iadd (n := 135) dX7_write_134 rfl ?_
      replace E := Option.bind_eq_some_iff.mp E; obtain ⟨h18, eh18, E⟩ := E
      refine go_putI (n := 138) eh18 fl_RX7_48 rfl dX7_write_135 rfl ?_
      refine go_pick (lv' := [(0, vr (some l0))]) [1] rfl ?_
      exact SX7_write_L138     _  _ E
noncomputable def X7_write_L46 (F : Nat)   (l0 : Nat) (l1 : Int) (l2 : Int) (l3 : Int) (s0 : Int) (h : HP) : Option (Unit × HP) :=
  if s0 = 0 then
    X7_write_L65 F l0 l1 l2 h
  else
    (xgP h (some l0) 7 10 3).bind fun v2 =>
    (xaI h v2 100 l3).bind fun v3 =>
    X7_write_L65 F l0 l1 (xxor l2 v3) h
set_option maxRecDepth 100000 in
theorem SX7_write_L46 {K : Ctx} {F : Nat} {r : Unit} {hf : HP}     (l0 : Nat) (l1 : Int) (l2 : Int) (l3 : Int) (s0 : Int) (h : HP) (E : X7_write_L46 F   l0 l1 l2 l3 s0 h = some (r, hf)) : Go K MX7_write (QM K none hf) hf 46 [(0, vr (some l0)), (1, vi l1), (2, vi l2), (3, vi l3)] [vi s0] h := by
  unfold X7_write_L46 at E
  refine go_istore (n := 48) (lv' := [(4, vi s0), (0, vr (some l0)), (1, vi l1), (2, vi l2), (3, vi l3)]) dX7_write_46 rfl (Nat.le_of_ble_eq_true rfl) rfl ?_
  refine go_iload (j := 0) (n := 50) rfl dX7_write_48 rfl ?_
  refine go_if_eq (tgt := 64) (n := 53) dX7_write_50 rfl rfl (fun c1 => ?_) (fun c1 => ?_)
  · rw [if_pos c1] at E
    refine go_iload_n (j := 3) (n := 65) rfl rfl dX7_write_64 rfl ?_
    refine go_pick (lv' := [(0, vr (some l0)), (1, vi l1)]) [1, 2] rfl ?_
    exact SX7_write_L65     _ _ _ _ E
  · rw [if_neg c1] at E
    refine go_iload_n (j := 3) (n := 54) rfl rfl dX7_write_53 rfl ?_
    refine go_aload_n (j := 1) (n := 55) rfl rfl dX7_write_54 rfl ?_
    replace E := Option.bind_eq_some_iff.mp E; obtain ⟨v2, ev2, E⟩ := E
    refine go_getP (n := 58) ev2 fl_RX7_21 rfl dX7_write_55 rfl ?_
    refine go_iload_n (j := 4) (n := 59) rfl rfl dX7_write_58 rfl ?_
    replace E := Option.bind_eq_some_iff.mp E; obtain ⟨v3, ev3, E⟩ := E
    refine go_iaload (n := 60) ev3 dX7_write_59 rfl ?_
    refine go_ixor (n := 61) dX7_write_60 rfl ?_
    refine go_goto (tgt := 65) dX7_write_61 rfl ?_
    refine go_pick (lv' := [(0, vr (some l0)), (1, vi l1)]) [1, 2] rfl ?_
    exact SX7_write_L65     _ _ _ _ E
noncomputable def X7_write_L45 (F : Nat)   (l0 : Nat) (l1 : Int) (l2 : Int) (l3 : Int)  (h : HP) : Option (Unit × HP) :=
  X7_write_L46 F l0 l1 l2 l3 0 h
set_option maxRecDepth 100000 in
theorem SX7_write_L45 {K : Ctx} {F : Nat} {r : Unit} {hf : HP}     (l0 : Nat) (l1 : Int) (l2 : Int) (l3 : Int)  (h : HP) (E : X7_write_L45 F   l0 l1 l2 l3 h = some (r, hf)) : Go K MX7_write (QM K none hf) hf 45 [(0, vr (some l0)), (1, vi l1), (2, vi l2), (3, vi l3)] [] h := by
  unfold X7_write_L45 at E
  refine go_iconst (z := 0) (n := 46) ⟨by decide, by decide⟩ dX7_write_45 rfl ?_
  exact SX7_write_L46     _ _ _ _ _ _ E
noncomputable def X7_write (F : Nat)   (l0 : Nat) (l1 : Int) (l2 : Int)  (h : HP) : Option (Unit × HP) :=
  if l1 < 0 then
    some ((), h)
  else
    if l1 < 64 then
      (xgI h (some l0) 7 10 9).bind fun v3 =>
      if (xand v3 524288) = 0 then
        X7_write_L45 F l0 l1 l2 (l1.tmod 16) h
      else
        (xgI h (some l0) 7 10 9).bind fun v5 =>
        xb (X7_minuteIn F v5 h) fun v6 h7 =>
        (xrc h7 (some l0) 7 10).bind fun a10 =>
        xb (X7_hasFailed F a10 (l1.tmod 16) v6 h7) fun v8 h9 =>
        if v8 = 0 then
          X7_write_L45 F l0 l1 l2 (l1.tmod 16) h9
        else
          X7_write_L46 F l0 l1 l2 (l1.tmod 16) 1 h9
    else
      some ((), h)
set_option maxRecDepth 100000 in
theorem SX7_write {K : Ctx} {F : Nat} {r : Unit} {hf : HP}     (l0 : Nat) (l1 : Int) (l2 : Int)  (h : HP) (E : X7_write F   l0 l1 l2 h = some (r, hf)) : Go K MX7_write (QM K none hf) hf 0 [(0, vr (some l0)), (1, vi l1), (2, vi l2)] [] h := by
  unfold X7_write at E
  refine go_iload_n (j := 1) (n := 1) rfl rfl dX7_write_0 rfl ?_
  refine go_if_lt (tgt := 10) (n := 4) dX7_write_1 rfl rfl (fun c1 => ?_) (fun c1 => ?_)
  · rw [if_pos c1] at E
    cases E
    exact go_return rfl dX7_write_10
  · rw [if_neg c1] at E
    refine go_iload_n (j := 1) (n := 5) rfl rfl dX7_write_4 rfl ?_
    refine go_bipush (z := 64) (n := 7) ⟨by decide, by decide⟩ dX7_write_5 rfl ?_
    refine go_icmp_lt (tgt := 11) (n := 10) dX7_write_7 rfl rfl (fun c2 => ?_) (fun c2 => ?_)
    · rw [if_pos c2] at E
      refine go_iload_n (j := 1) (n := 12) rfl rfl dX7_write_11 rfl ?_
      refine go_bipush (z := 16) (n := 14) ⟨by decide, by decide⟩ dX7_write_12 rfl ?_
      refine go_irem (n := 15) (by decide) dX7_write_14 rfl ?_
      refine go_istore_n (n := 16) (lv' := [(3, vi (l1.tmod 16)), (0, vr (some l0)), (1, vi l1), (2, vi l2)]) rfl dX7_write_15 rfl (Nat.le_of_ble_eq_true rfl) rfl ?_
      refine go_aload_n (j := 1) (n := 17) rfl rfl dX7_write_16 rfl ?_
      replace E := Option.bind_eq_some_iff.mp E; obtain ⟨v3, ev3, E⟩ := E
      refine go_getI (n := 20) ev3 fl_RX7_36 rfl dX7_write_17 rfl ?_
      refine go_ldc (z := 524288) (n := 22) ⟨by decide, by decide⟩ wk_RX7_34 dX7_write_20 rfl ?_
      refine go_iand (n := 23) dX7_write_22 rfl ?_
      refine go_if_eq (tgt := 45) (n := 26) dX7_write_23 rfl rfl (fun c4 => ?_) (fun c4 => ?_)
      · rw [if_pos c4] at E
        refine go_pick (lv' := [(0, vr (some l0)), (1, vi l1), (2, vi l2), (3, vi (l1.tmod 16))]) [1, 2, 3, 0] rfl ?_
        exact SX7_write_L45     _ _ _ _  _ E
      · rw [if_neg c4] at E
        refine go_aload_n (j := 1) (n := 27) rfl rfl dX7_write_26 rfl ?_
        refine go_iload_n (j := 0) (n := 28) rfl rfl dX7_write_27 rfl ?_
        refine go_aload_n (j := 1) (n := 29) rfl rfl dX7_write_28 rfl ?_
        replace E := Option.bind_eq_some_iff.mp E; obtain ⟨v5, ev5, E⟩ := E
        refine go_getI (n := 32) ev5 fl_RX7_36 rfl dX7_write_29 rfl ?_
        replace E := xb_some E; obtain ⟨v6, h7, ev6, E⟩ := E
        refine go_callS (y := yX7_minuteIn) (n := 35) (st := [vi (l1.tmod 16), vr (some l0)]) (as := [vi v5]) (stk9 := [vi v6, vi (l1.tmod 16), vr (some l0)]) (OX7_minuteIn ev6) yw_X7_minuteIn wml_RX7_40 wst_X7_minuteIn (Nat.le_of_ble_eq_true rfl) rfl ⟨Nat.le_of_ble_eq_true rfl, Nat.le_of_ble_eq_true rfl⟩ (Nat.le_of_ble_eq_true rfl) dX7_write_32 rfl rfl rfl ?_
        replace E := Option.bind_eq_some_iff.mp E; obtain ⟨a10, ea10, E⟩ := E
        obtain ⟨fa10, ga10⟩ := xrc_some ea10
        replace E := xb_some E; obtain ⟨v8, h9, ev8, E⟩ := E
        refine go_callV (y := yX7_hasFailed) (n := 38) (st := []) (as := [vi (l1.tmod 16), vi v6]) (stk9 := [vi v8]) (OX7_hasFailed ev8) yw_X7_hasFailed ci_7 ga10 wml_RX7_44 wim_X7_hasFailed wse_X7_hasFailed (Nat.le_of_ble_eq_true rfl) rfl ⟨Nat.le_of_ble_eq_true rfl, Nat.le_of_ble_eq_true rfl⟩ (Nat.le_of_ble_eq_true rfl) dX7_write_35 rfl (by cases fa10; rfl) rfl ?_
        refine go_if_eq (tgt := 45) (n := 41) dX7_write_38 rfl rfl (fun c11 => ?_) (fun c11 => ?_)
        · rw [if_pos c11] at E
          refine go_pick (lv' := [(0, vr (some l0)), (1, vi l1), (2, vi l2), (3, vi (l1.tmod 16))]) [1, 2, 3, 0] rfl ?_
          exact SX7_write_L45     _ _ _ _  _ E
        · rw [if_neg c11] at E
          refine go_iconst (z := 1) (n := 42) ⟨by decide, by decide⟩ dX7_write_41 rfl ?_
          refine go_goto (tgt := 46) dX7_write_42 rfl ?_
          refine go_pick (lv' := [(0, vr (some l0)), (1, vi l1), (2, vi l2), (3, vi (l1.tmod 16))]) [1, 2, 3, 0] rfl ?_
          exact SX7_write_L46     _ _ _ _ _ _ E
    · rw [if_neg c2] at E
      cases E
      exact go_return rfl dX7_write_10
theorem OX7_write {F : Nat} {l0 : Nat} {l1 : Int} {l2 : Int} {h hf : HP} {r : Unit} (e : X7_write F l0 l1 l2 h = some (r, hf)) : Ok MX7_write [vr (some l0), vi l1, vi l2] none h hf := fun K _ _ _ => SX7_write l0 l1 l2 h e
theorem yw_X11_outOfBounds : YW yX11_outOfBounds cX11_outOfBounds 2 (some .boolean) 1 := ⟨bw_of 1435 (by decide +kernel) rfl, bw_of 117 (by decide +kernel) rfl, ⟨by decide +kernel, by decide +kernel, by decide +kernel⟩, by decide +kernel⟩
theorem wst_X11_outOfBounds : Cond.static yX11_outOfBounds ∈ BW := bw_of 1434 (by decide +kernel) rfl
theorem fl_RX1_12 : FL RX1 12 1 8 0 true := ⟨RX1, TX1, ci_1, by decide, bw_of 265 (by decide +kernel) rfl, rfl, rfl⟩
theorem yw_X7_write : YW yX7_write cX7_write 6 none 2 := ⟨bw_of 1008 (by decide +kernel) rfl, bw_of 121 (by decide +kernel) rfl, ⟨by decide +kernel, by decide +kernel, by decide +kernel⟩, by decide +kernel⟩
theorem wml_RX1_93 : Cond.methodLink RX1 93 yX7_write ∈ BW := bw_of 1438 (by decide +kernel) rfl
theorem wim_X7_write : Cond.instanceMethod yX7_write ∈ BW := bw_of 1006 (by decide +kernel) rfl
theorem wse_X7_write : Cond.selects RX7 yX7_write yX7_write ∈ BW := bw_of 1007 (by decide +kernel) rfl
abbrev MX1_put : MI := (RX1, cX1_put, 4, (some .boolean), 4, none, "put")
noncomputable def X1_put (F : Nat)   (l0 : Nat) (l1 : Int) (l2 : Int)  (h : HP) : Option (Int × HP) :=
  xb (X11_outOfBounds F l2 h) fun v1 h2 =>
  if v1 = 0 then
    (xgP h2 (some l0) 1 8 0).bind fun v4 =>
    (xrc h2 v4 7 10).bind fun a7 =>
    xb (X7_write F a7 l1 (w32 l2) h2) fun v5 h6 =>
    some (1, h6)
  else
    some (0, h2)
set_option maxRecDepth 100000 in
theorem SX1_put {K : Ctx} {F : Nat} {r : Int} {hf : HP}     (l0 : Nat) (l1 : Int) (l2 : Int)  (h : HP) (E : X1_put F   l0 l1 l2 h = some (r, hf)) : Go K MX1_put (QM K (some (vi r)) hf) hf 0 [(0, vr (some l0)), (1, vi l1), (2, vl l2)] [] h := by
  unfold X1_put at E
  refine go_lload_n (j := 2) (n := 1) rfl rfl dX1_put_0 rfl ?_
  replace E := xb_some E; obtain ⟨v1, h2, ev1, E⟩ := E
  refine go_callSN (host := "TeaNight") (y := yX11_outOfBounds) (n := 4) (st := []) (as := [vl l2]) (stk9 := [vi v1]) (OX11_outOfBounds ev1) yw_X11_outOfBounds (by decide +kernel) wst_X11_outOfBounds (Nat.le_of_ble_eq_true rfl) rfl ⟨Nat.le_of_ble_eq_true rfl, Nat.le_of_ble_eq_true rfl⟩ (Nat.le_of_ble_eq_true rfl) dX1_put_1 rfl rfl rfl ?_
  refine go_if_eq (tgt := 9) (n := 7) dX1_put_4 rfl rfl (fun c3 => ?_) (fun c3 => ?_)
  · rw [if_pos c3] at E
    refine go_aload_n (j := 0) (n := 10) rfl rfl dX1_put_9 rfl ?_
    replace E := Option.bind_eq_some_iff.mp E; obtain ⟨v4, ev4, E⟩ := E
    refine go_getP (n := 13) ev4 fl_RX1_12 rfl dX1_put_10 rfl ?_
    refine go_iload_n (j := 1) (n := 14) rfl rfl dX1_put_13 rfl ?_
    refine go_lload_n (j := 2) (n := 15) rfl rfl dX1_put_14 rfl ?_
    refine go_l2i (n := 16) dX1_put_15 rfl ?_
    replace E := Option.bind_eq_some_iff.mp E; obtain ⟨a7, ea7, E⟩ := E
    obtain ⟨fa7, ga7⟩ := xrc_some ea7
    replace E := xb_some E; obtain ⟨v5, h6, ev5, E⟩ := E
    refine go_callV (y := yX7_write) (n := 19) (st := []) (as := [vi l1, vi (w32 l2)]) (stk9 := []) (OX7_write ev5) yw_X7_write ci_7 ga7 wml_RX1_93 wim_X7_write wse_X7_write (Nat.le_of_ble_eq_true rfl) rfl ⟨Nat.le_of_ble_eq_true rfl, Nat.le_of_ble_eq_true rfl⟩ (Nat.le_of_ble_eq_true rfl) dX1_put_16 rfl (by cases fa7; rfl) rfl ?_
    refine go_iconst (z := 1) (n := 20) ⟨by decide, by decide⟩ dX1_put_19 rfl ?_
    cases E
    exact go_zreturn rfl (Or.inr rfl) dX1_put_20
  · rw [if_neg c3] at E
    refine go_iconst (z := 0) (n := 8) ⟨by decide, by decide⟩ dX1_put_7 rfl ?_
    cases E
    exact go_zreturn rfl (Or.inl rfl) dX1_put_8
theorem OX1_put {F : Nat} {l0 : Nat} {l1 : Int} {l2 : Int} {h hf : HP} {r : Int} (e : X1_put F l0 l1 l2 h = some (r, hf)) : Ok MX1_put [vr (some l0), vi l1, vl l2] (some (vi r)) h hf := fun K _ _ _ => SX1_put l0 l1 l2 h e
theorem yw_X7_oldAt : YW yX7_oldAt cX7_oldAt 2 (some .int) 1 := ⟨bw_of 1428 (by decide +kernel) rfl, bw_of 121 (by decide +kernel) rfl, ⟨by decide +kernel, by decide +kernel, by decide +kernel⟩, by decide +kernel⟩
theorem wml_RX1_62 : Cond.methodLink RX1 62 yX7_oldAt ∈ BW := bw_of 1425 (by decide +kernel) rfl
theorem wim_X7_oldAt : Cond.instanceMethod yX7_oldAt ∈ BW := bw_of 1426 (by decide +kernel) rfl
theorem wse_X7_oldAt : Cond.selects RX7 yX7_oldAt yX7_oldAt ∈ BW := bw_of 1427 (by decide +kernel) rfl
theorem yw_X1_put : YW yX1_put cX1_put 4 (some .boolean) 2 := ⟨bw_of 1432 (by decide +kernel) rfl, bw_of 120 (by decide +kernel) rfl, ⟨by decide +kernel, by decide +kernel, by decide +kernel⟩, by decide +kernel⟩
theorem wml_RX1_66 : Cond.methodLink RX1 66 yX1_put ∈ BW := bw_of 1429 (by decide +kernel) rfl
theorem wim_X1_put : Cond.instanceMethod yX1_put ∈ BW := bw_of 1431 (by decide +kernel) rfl
theorem wse_X1_put : Cond.selects RX1 yX1_put yX1_put ∈ BW := bw_of 41 (by decide +kernel) rfl
abbrev MX1_doShortly : MI := (RX1, cX1_doShortly, 5, (some .boolean), 5, none, "doShortly")
noncomputable def X1_doShortly_L45 (F : Nat)  (rc3 : Nat → Int → Int → Int → HP → Option (Int × HP)) (l0 : Nat) (l1 : Int) (l3 : Int) (l4 : Int)  (h : HP) : Option (Int × HP) :=
  rc3 l0 l1 l3 (w32 (l4 + 1)) h
set_option maxRecDepth 100000 in
theorem SX1_doShortly_L45 {K : Ctx} {F : Nat} {r : Int} {hf : HP}   (rc3 : Nat → Int → Int → Int → HP → Option (Int × HP)) (hrc3 : ∀ l0 l1 l3 l4 h, rc3 l0 l1 l3 l4 h = some (r, hf) → Go K MX1_doShortly (QM K (some (vi r)) hf) hf 3 [(0, vr (some l0)), (1, vl l1), (3, vi l3), (4, vi l4)] [] h) (l0 : Nat) (l1 : Int) (l3 : Int) (l4 : Int)  (h : HP) (E : X1_doShortly_L45 F  rc3 l0 l1 l3 l4 h = some (r, hf)) : Go K MX1_doShortly (QM K (some (vi r)) hf) hf 45 [(0, vr (some l0)), (1, vl l1), (3, vi l3), (4, vi l4)] [] h := by
  unfold X1_doShortly_L45 at E
  refine go_iinc (j := 3) (n := 48) (lv' := [(4, vi (w32 (l4 + 1))), (0, vr (some l0)), (1, vl l1), (3, vi l3)]) rfl dX1_doShortly_45 rfl (Nat.le_of_ble_eq_true rfl) rfl ?_
  refine go_goto (tgt := 3) dX1_doShortly_48 rfl ?_
  refine go_pick (lv' := [(0, vr (some l0)), (1, vl l1), (3, vi l3), (4, vi (w32 (l4 + 1)))]) [1, 2, 3, 0] rfl ?_
  exact hrc3 _ _ _ _ _ E
noncomputable def X1_doShortly_L3 (F : Nat)   (k : Nat) : Nat → Int → Int → Int → HP → Option (Int × HP) :=
  Nat.rec (motive := fun _ => Nat → Int → Int → Int → HP → Option (Int × HP)) (fun _ _ _ _ _ => none) (fun _ rc3 l0 l1 l3 l4 h =>
    if 64 ≤ l4 then
      some (1, h)
    else
      if (xcmp (yand (yush l1 l4) 1) 0) = 0 then
        X1_doShortly_L45 F rc3 l0 l1 l3 l4 h
      else
        (xgP h (some l0) 1 8 0).bind fun v3 =>
        (xrc h v3 7 10).bind fun a6 =>
        xb (X7_oldAt F a6 l4 h) fun v4 h5 =>
        (xrc h5 (some l0) 1 8).bind fun a9 =>
        xb (X1_put F a9 l4 (w64 (v4 + l3)) h5) fun v7 h8 =>
        if v7 = 0 then
          some (0, h8)
        else
          X1_doShortly_L45 F rc3 l0 l1 l3 l4 h8) k
theorem X1_doShortly_L3_s (F : Nat)   (k : Nat) (l0 : Nat) (l1 : Int) (l3 : Int) (l4 : Int)  (h : HP) : X1_doShortly_L3 F   (k + 1) l0 l1 l3 l4 h =
    if 64 ≤ l4 then
      some (1, h)
    else
      if (xcmp (yand (yush l1 l4) 1) 0) = 0 then
        X1_doShortly_L45 F (X1_doShortly_L3 F k) l0 l1 l3 l4 h
      else
        (xgP h (some l0) 1 8 0).bind fun v3 =>
        (xrc h v3 7 10).bind fun a6 =>
        xb (X7_oldAt F a6 l4 h) fun v4 h5 =>
        (xrc h5 (some l0) 1 8).bind fun a9 =>
        xb (X1_put F a9 l4 (w64 (v4 + l3)) h5) fun v7 h8 =>
        if v7 = 0 then
          some (0, h8)
        else
          X1_doShortly_L45 F (X1_doShortly_L3 F k) l0 l1 l3 l4 h8 := rfl
set_option maxRecDepth 100000 in
theorem SX1_doShortly_L3 {K : Ctx} {F : Nat} {r : Int} {hf : HP}     : ∀ (k : Nat) (l0 : Nat) (l1 : Int) (l3 : Int) (l4 : Int)  (h : HP), X1_doShortly_L3 F   k l0 l1 l3 l4 h = some (r, hf) → Go K MX1_doShortly (QM K (some (vi r)) hf) hf 3 [(0, vr (some l0)), (1, vl l1), (3, vi l3), (4, vi l4)] [] h := by
  intro k
  induction k with
  | zero => intro l0 l1 l3 l4 h E; exact nomatch E
  | succ k hrc3 =>
    intro l0 l1 l3 l4 h E
    rw [X1_doShortly_L3_s] at E
    refine go_iload (j := 3) (n := 5) rfl dX1_doShortly_3 rfl ?_
    refine go_bipush (z := 64) (n := 7) ⟨by decide, by decide⟩ dX1_doShortly_5 rfl ?_
    refine go_icmp_ge (tgt := 51) (n := 10) dX1_doShortly_7 rfl rfl (fun c1 => ?_) (fun c1 => ?_)
    · rw [if_pos c1] at E
      refine go_iconst (z := 1) (n := 52) ⟨by decide, by decide⟩ dX1_doShortly_51 rfl ?_
      cases E
      exact go_zreturn rfl (Or.inr rfl) dX1_doShortly_52
    · rw [if_neg c1] at E
      refine go_lload_n (j := 1) (n := 11) rfl rfl dX1_doShortly_10 rfl ?_
      refine go_iload (j := 3) (n := 13) rfl dX1_doShortly_11 rfl ?_
      refine go_lushr (n := 14) dX1_doShortly_13 rfl ?_
      refine go_lconst (w := 1) (n := 15) rfl dX1_doShortly_14 rfl ?_
      refine go_land (n := 16) dX1_doShortly_15 rfl ?_
      refine go_lconst (w := 0) (n := 17) rfl dX1_doShortly_16 rfl ?_
      refine go_lcmp (n := 18) dX1_doShortly_17 rfl ?_
      refine go_if_eq (tgt := 45) (n := 21) dX1_doShortly_18 rfl rfl (fun c2 => ?_) (fun c2 => ?_)
      · rw [if_pos c2] at E
        exact SX1_doShortly_L45   _ hrc3 _ _ _ _  _ E
      · rw [if_neg c2] at E
        refine go_aload_n (j := 0) (n := 22) rfl rfl dX1_doShortly_21 rfl ?_
        refine go_iload (j := 3) (n := 24) rfl dX1_doShortly_22 rfl ?_
        refine go_aload_n (j := 0) (n := 25) rfl rfl dX1_doShortly_24 rfl ?_
        replace E := Option.bind_eq_some_iff.mp E; obtain ⟨v3, ev3, E⟩ := E
        refine go_getP (n := 28) ev3 fl_RX1_12 rfl dX1_doShortly_25 rfl ?_
        refine go_iload (j := 3) (n := 30) rfl dX1_doShortly_28 rfl ?_
        replace E := Option.bind_eq_some_iff.mp E; obtain ⟨a6, ea6, E⟩ := E
        obtain ⟨fa6, ga6⟩ := xrc_some ea6
        replace E := xb_some E; obtain ⟨v4, h5, ev4, E⟩ := E
        refine go_callV (y := yX7_oldAt) (n := 33) (st := [vi l4, vr (some l0)]) (as := [vi l4]) (stk9 := [vi v4, vi l4, vr (some l0)]) (OX7_oldAt ev4) yw_X7_oldAt ci_7 ga6 wml_RX1_62 wim_X7_oldAt wse_X7_oldAt (Nat.le_of_ble_eq_true rfl) rfl ⟨Nat.le_of_ble_eq_true rfl, Nat.le_of_ble_eq_true rfl⟩ (Nat.le_of_ble_eq_true rfl) dX1_doShortly_30 rfl (by cases fa6; rfl) rfl ?_
        refine go_i2l (n := 34) dX1_doShortly_33 rfl ?_
        refine go_iload_n (j := 2) (n := 35) rfl rfl dX1_doShortly_34 rfl ?_
        refine go_i2l (n := 36) dX1_doShortly_35 rfl ?_
        refine go_ladd (n := 37) dX1_doShortly_36 rfl ?_
        replace E := Option.bind_eq_some_iff.mp E; obtain ⟨a9, ea9, E⟩ := E
        obtain ⟨fa9, ga9⟩ := xrc_some ea9
        replace E := xb_some E; obtain ⟨v7, h8, ev7, E⟩ := E
        refine go_callV (y := yX1_put) (n := 40) (st := []) (as := [vi l4, vl (w64 (v4 + l3))]) (stk9 := [vi v7]) (OX1_put ev7) yw_X1_put ci_1 ga9 wml_RX1_66 wim_X1_put wse_X1_put (Nat.le_of_ble_eq_true rfl) rfl ⟨Nat.le_of_ble_eq_true rfl, Nat.le_of_ble_eq_true rfl⟩ (Nat.le_of_ble_eq_true rfl) dX1_doShortly_37 rfl (by cases fa9; rfl) rfl ?_
        refine go_if_ne (tgt := 45) (n := 43) dX1_doShortly_40 rfl rfl (fun c10 => ?_) (fun c10 => ?_)
        · rw [if_neg c10] at E
          exact SX1_doShortly_L45   _ hrc3 _ _ _ _  _ E
        · rw [if_pos c10] at E
          refine go_iconst (z := 0) (n := 44) ⟨by decide, by decide⟩ dX1_doShortly_43 rfl ?_
          cases E
          exact go_zreturn rfl (Or.inl rfl) dX1_doShortly_44
noncomputable def X1_doShortly (F : Nat)   (l0 : Nat) (l1 : Int) (l3 : Int)  (h : HP) : Option (Int × HP) :=
  X1_doShortly_L3 F F l0 l1 l3 0 h
set_option maxRecDepth 100000 in
theorem SX1_doShortly {K : Ctx} {F : Nat} {r : Int} {hf : HP}     (l0 : Nat) (l1 : Int) (l3 : Int)  (h : HP) (E : X1_doShortly F   l0 l1 l3 h = some (r, hf)) : Go K MX1_doShortly (QM K (some (vi r)) hf) hf 0 [(0, vr (some l0)), (1, vl l1), (3, vi l3)] [] h := by
  unfold X1_doShortly at E
  refine go_iconst (z := 0) (n := 1) ⟨by decide, by decide⟩ dX1_doShortly_0 rfl ?_
  refine go_istore (n := 3) (lv' := [(4, vi 0), (0, vr (some l0)), (1, vl l1), (3, vi l3)]) dX1_doShortly_1 rfl (Nat.le_of_ble_eq_true rfl) rfl ?_
  refine go_pick (lv' := [(0, vr (some l0)), (1, vl l1), (3, vi l3), (4, vi 0)]) [1, 2, 3, 0] rfl ?_
  exact SX1_doShortly_L3     F _ _ _ _ _ E
theorem OX1_doShortly {F : Nat} {l0 : Nat} {l1 : Int} {l3 : Int} {h hf : HP} {r : Int} (e : X1_doShortly F l0 l1 l3 h = some (r, hf)) : Ok MX1_doShortly [vr (some l0), vl l1, vi l3] (some (vi r)) h hf := fun K _ _ _ => SX1_doShortly l0 l1 l3 h e
theorem fl_RX9_7 : FL RX9 7 9 4 0 true := ⟨RX9, TX9, ci_9, by decide, bw_of 1251 (by decide +kernel) rfl, rfl, rfl⟩
abbrev MX9_codeAt : MI := (RX9, cX9_codeAt, 2, (some .int), 2, none, "codeAt")
noncomputable def X9_codeAt (F : Nat)   (l0 : Nat) (l1 : Int)  (h : HP) : Option (Int × HP) :=
  if l1 < 0 then
    some (0, h)
  else
    (xgP h (some l0) 9 4 0).bind fun v2 =>
    (xal h v2).bind fun v3 =>
    if v3 ≤ l1 then
      some (0, h)
    else
      (xgP h (some l0) 9 4 0).bind fun v5 =>
      (xaI h v5 100 l1).bind fun v6 =>
      some (v6, h)
set_option maxRecDepth 100000 in
theorem SX9_codeAt {K : Ctx} {F : Nat} {r : Int} {hf : HP}     (l0 : Nat) (l1 : Int)  (h : HP) (E : X9_codeAt F   l0 l1 h = some (r, hf)) : Go K MX9_codeAt (QM K (some (vi r)) hf) hf 0 [(0, vr (some l0)), (1, vi l1)] [] h := by
  unfold X9_codeAt at E
  refine go_iload_n (j := 1) (n := 1) rfl rfl dX9_codeAt_0 rfl ?_
  refine go_if_lt (tgt := 22) (n := 4) dX9_codeAt_1 rfl rfl (fun c1 => ?_) (fun c1 => ?_)
  · rw [if_pos c1] at E
    refine go_iconst (z := 0) (n := 23) ⟨by decide, by decide⟩ dX9_codeAt_22 rfl ?_
    cases E
    exact go_ireturn rfl dX9_codeAt_23
  · rw [if_neg c1] at E
    refine go_iload_n (j := 1) (n := 5) rfl rfl dX9_codeAt_4 rfl ?_
    refine go_aload_n (j := 0) (n := 6) rfl rfl dX9_codeAt_5 rfl ?_
    replace E := Option.bind_eq_some_iff.mp E; obtain ⟨v2, ev2, E⟩ := E
    refine go_getP (n := 9) ev2 fl_RX9_7 rfl dX9_codeAt_6 rfl ?_
    replace E := Option.bind_eq_some_iff.mp E; obtain ⟨v3, ev3, E⟩ := E
    refine go_alen (n := 10) ev3 dX9_codeAt_9 rfl ?_
    refine go_icmp_ge (tgt := 22) (n := 13) dX9_codeAt_10 rfl rfl (fun c4 => ?_) (fun c4 => ?_)
    · rw [if_pos c4] at E
      refine go_iconst (z := 0) (n := 23) ⟨by decide, by decide⟩ dX9_codeAt_22 rfl ?_
      cases E
      exact go_ireturn rfl dX9_codeAt_23
    · rw [if_neg c4] at E
      refine go_aload_n (j := 0) (n := 14) rfl rfl dX9_codeAt_13 rfl ?_
      replace E := Option.bind_eq_some_iff.mp E; obtain ⟨v5, ev5, E⟩ := E
      refine go_getP (n := 17) ev5 fl_RX9_7 rfl dX9_codeAt_14 rfl ?_
      refine go_iload_n (j := 1) (n := 18) rfl rfl dX9_codeAt_17 rfl ?_
      replace E := Option.bind_eq_some_iff.mp E; obtain ⟨v6, ev6, E⟩ := E
      refine go_iaload (n := 19) ev6 dX9_codeAt_18 rfl ?_
      refine go_goto (tgt := 23) dX9_codeAt_19 rfl ?_
      cases E
      exact go_ireturn rfl dX9_codeAt_23
theorem OX9_codeAt {F : Nat} {l0 : Nat} {l1 : Int} {h hf : HP} {r : Int} (e : X9_codeAt F l0 l1 h = some (r, hf)) : Ok MX9_codeAt [vr (some l0), vi l1] (some (vi r)) h hf := fun K _ _ _ => SX9_codeAt l0 l1 h e
theorem fl_RX1_22 : FL RX1 22 1 8 1 false := ⟨RX1, TX1, ci_1, by decide, bw_of 267 (by decide +kernel) rfl, rfl, rfl⟩
theorem fl_RX1_32 : FL RX1 32 1 8 2 false := ⟨RX1, TX1, ci_1, by decide, bw_of 268 (by decide +kernel) rfl, rfl, rfl⟩
theorem yw_X9_codeAt : YW yX9_codeAt cX9_codeAt 2 (some .int) 1 := ⟨bw_of 1450 (by decide +kernel) rfl, bw_of 140 (by decide +kernel) rfl, ⟨by decide +kernel, by decide +kernel, by decide +kernel⟩, by decide +kernel⟩
theorem wml_RX1_103 : Cond.methodLink RX1 103 yX9_codeAt ∈ BW := bw_of 1447 (by decide +kernel) rfl
theorem wim_X9_codeAt : Cond.instanceMethod yX9_codeAt ∈ BW := bw_of 1448 (by decide +kernel) rfl
theorem wse_X9_codeAt : Cond.selects RX9 yX9_codeAt yX9_codeAt ∈ BW := bw_of 1449 (by decide +kernel) rfl
abbrev MX1_nextCode : MI := (RX1, cX1_nextCode, 2, (some .int), 3, none, "nextCode")
noncomputable def X1_nextCode_L22 (F : Nat)   (l0 : Nat) (s0 : Int) (h : HP) : Option (Int × HP) :=
  (xgI h (some l0) 1 8 2).bind fun v1 =>
  (xpI h (some l0) 1 8 2 (w32 (v1 + 1))).bind fun h2 =>
  some (s0, h2)
set_option maxRecDepth 100000 in
theorem SX1_nextCode_L22 {K : Ctx} {F : Nat} {r : Int} {hf : HP}     (l0 : Nat) (s0 : Int) (h : HP) (E : X1_nextCode_L22 F   l0 s0 h = some (r, hf)) : Go K MX1_nextCode (QM K (some (vi r)) hf) hf 22 [(0, vr (some l0))] [vi s0] h := by
  unfold X1_nextCode_L22 at E
  refine go_istore_n (n := 23) (lv' := [(1, vi s0), (0, vr (some l0))]) rfl dX1_nextCode_22 rfl (Nat.le_of_ble_eq_true rfl) rfl ?_
  refine go_aload_n (j := 1) (n := 24) rfl rfl dX1_nextCode_23 rfl ?_
  refine go_dup (n := 25) rfl dX1_nextCode_24 rfl ?_
  replace E := Option.bind_eq_some_iff.mp E; obtain ⟨v1, ev1, E⟩ := E
  refine go_getI (n := 28) ev1 fl_RX1_32 rfl dX1_nextCode_25 rfl ?_
  refine go_iconst (z := 1) (n := 29) ⟨by decide, by decide⟩ dX1_nextCode_28 rfl ?_
  refine go_iadd (n := 30) dX1_nextCode_29 rfl ?_
  replace E := Option.bind_eq_some_iff.mp E; obtain ⟨h2, eh2, E⟩ := E
  refine go_putI (n := 33) eh2 fl_RX1_32 rfl dX1_nextCode_30 rfl ?_
  refine go_iload_n (j := 0) (n := 34) rfl rfl dX1_nextCode_33 rfl ?_
  cases E
  exact go_ireturn rfl dX1_nextCode_34
noncomputable def X1_nextCode (F : Nat)   (l0 : Nat)  (h : HP) : Option (Int × HP) :=
  (xgP h (some l0) 1 8 1).bind fun v1 =>
  if v1 = none then
    X1_nextCode_L22 F l0 0 h
  else
    (xgP h (some l0) 1 8 1).bind fun v3 =>
    (xgI h (some l0) 1 8 2).bind fun v4 =>
    (xrc h v3 9 4).bind fun a7 =>
    xb (X9_codeAt F a7 v4 h) fun v5 h6 =>
    X1_nextCode_L22 F l0 v5 h6
set_option maxRecDepth 100000 in
theorem SX1_nextCode {K : Ctx} {F : Nat} {r : Int} {hf : HP}     (l0 : Nat)  (h : HP) (E : X1_nextCode F   l0 h = some (r, hf)) : Go K MX1_nextCode (QM K (some (vi r)) hf) hf 0 [(0, vr (some l0))] [] h := by
  unfold X1_nextCode at E
  refine go_aload_n (j := 0) (n := 1) rfl rfl dX1_nextCode_0 rfl ?_
  replace E := Option.bind_eq_some_iff.mp E; obtain ⟨v1, ev1, E⟩ := E
  refine go_getP (n := 4) ev1 fl_RX1_22 rfl dX1_nextCode_1 rfl ?_
  refine go_ifnonnull (tgt := 11) (n := 7) dX1_nextCode_4 rfl rfl (fun c2 => ?_) (fun c2 => ?_)
  · rw [if_neg c2] at E
    refine go_aload_n (j := 0) (n := 12) rfl rfl dX1_nextCode_11 rfl ?_
    replace E := Option.bind_eq_some_iff.mp E; obtain ⟨v3, ev3, E⟩ := E
    refine go_getP (n := 15) ev3 fl_RX1_22 rfl dX1_nextCode_12 rfl ?_
    refine go_aload_n (j := 0) (n := 16) rfl rfl dX1_nextCode_15 rfl ?_
    replace E := Option.bind_eq_some_iff.mp E; obtain ⟨v4, ev4, E⟩ := E
    refine go_getI (n := 19) ev4 fl_RX1_32 rfl dX1_nextCode_16 rfl ?_
    replace E := Option.bind_eq_some_iff.mp E; obtain ⟨a7, ea7, E⟩ := E
    obtain ⟨fa7, ga7⟩ := xrc_some ea7
    replace E := xb_some E; obtain ⟨v5, h6, ev5, E⟩ := E
    refine go_callV (y := yX9_codeAt) (n := 22) (st := []) (as := [vi v4]) (stk9 := [vi v5]) (OX9_codeAt ev5) yw_X9_codeAt ci_9 ga7 wml_RX1_103 wim_X9_codeAt wse_X9_codeAt (Nat.le_of_ble_eq_true rfl) rfl ⟨Nat.le_of_ble_eq_true rfl, Nat.le_of_ble_eq_true rfl⟩ (Nat.le_of_ble_eq_true rfl) dX1_nextCode_19 rfl (by cases fa7; rfl) rfl ?_
    exact SX1_nextCode_L22     _ _ _ E
  · rw [if_pos c2] at E
    refine go_iconst (z := 0) (n := 8) ⟨by decide, by decide⟩ dX1_nextCode_7 rfl ?_
    refine go_goto (tgt := 22) dX1_nextCode_8 rfl ?_
    exact SX1_nextCode_L22     _ _ _ E
theorem OX1_nextCode {F : Nat} {l0 : Nat} {h hf : HP} {r : Int} (e : X1_nextCode F l0 h = some (r, hf)) : Ok MX1_nextCode [vr (some l0)] (some (vi r)) h hf := fun K _ _ _ => SX1_nextCode l0 h e
theorem wml_RX1_82 : Cond.methodLink RX1 82 yX7_wordAt ∈ BW := bw_of 1463 (by decide +kernel) rfl
theorem fl_RX1_78 : FL RX1 78 1 8 6 false := ⟨RX1, TX1, ci_1, by decide, bw_of 272 (by decide +kernel) rfl, rfl, rfl⟩
theorem fl_RX1_26 : FL RX1 26 1 8 3 false := ⟨RX1, TX1, ci_1, by decide, bw_of 269 (by decide +kernel) rfl, rfl, rfl⟩
theorem fl_RX1_29 : FL RX1 29 1 8 4 false := ⟨RX1, TX1, ci_1, by decide, bw_of 270 (by decide +kernel) rfl, rfl, rfl⟩
abbrev MX1_atom : MI := (RX1, cX1_atom, 3, (some .long), 3, none, "atom")
noncomputable def X1_atom (F : Nat)   (l0 : Nat) (l1 : Int) (l2 : Int)  (h : HP) : Option (Int × HP) :=
  if l1 = (-2) then
    some (l2, h)
  else
    if l1 = 269 then
      (xgI h (some l0) 1 8 5).bind fun v1 =>
      if l2 = v1 then
        (xgJ h (some l0) 1 8 6).bind fun v7 =>
        some (v7, h)
      else
        (xgP h (some l0) 1 8 0).bind fun v3 =>
        (xrc h v3 7 10).bind fun a6 =>
        xb (X7_wordAt F a6 l2 h) fun v4 h5 =>
        some (v4, h5)
    else
      if l1 = 270 then
        (xgP h (some l0) 1 8 0).bind fun v8 =>
        (xrc h v8 7 10).bind fun a11 =>
        xb (X7_oldAt F a11 l2 h) fun v9 h10 =>
        some (v9, h10)
      else
        if l1 = 271 then
          (xgI h (some l0) 1 8 3).bind fun v12 =>
          some (v12, h)
        else
          if l1 = 272 then
            (xgI h (some l0) 1 8 4).bind fun v13 =>
            some (v13, h)
          else
            some (0, h)
set_option maxRecDepth 100000 in
theorem SX1_atom {K : Ctx} {F : Nat} {r : Int} {hf : HP}     (l0 : Nat) (l1 : Int) (l2 : Int)  (h : HP) (E : X1_atom F   l0 l1 l2 h = some (r, hf)) : Go K MX1_atom (QM K (some (vl r)) hf) hf 0 [(0, vr (some l0)), (1, vi l1), (2, vi l2)] [] h := by
  unfold X1_atom at E
  refine go_iload_n (j := 1) (n := 1) rfl rfl dX1_atom_0 rfl ?_
  by_cases c14 : l1 = (-2)
  · rw [if_pos c14] at E
    refine go_lookup (tgt := 52) (off := 51) dX1_atom_1 (by decide) (by rw [c14]; rfl) rfl ?_
    refine go_iload_n (j := 2) (n := 53) rfl rfl dX1_atom_52 rfl ?_
    refine go_i2l (n := 54) dX1_atom_53 rfl ?_
    cases E
    exact go_lreturn rfl dX1_atom_54
  rw [if_neg c14] at E
  by_cases c15 : l1 = 269
  · rw [if_pos c15] at E
    refine go_lookup (tgt := 55) (off := 54) dX1_atom_1 (by decide) (by rw [c15]; rfl) rfl ?_
    refine go_iload_n (j := 2) (n := 56) rfl rfl dX1_atom_55 rfl ?_
    refine go_aload_n (j := 0) (n := 57) rfl rfl dX1_atom_56 rfl ?_
    replace E := Option.bind_eq_some_iff.mp E; obtain ⟨v1, ev1, E⟩ := E
    refine go_getI (n := 60) ev1 fl_RX1_18 rfl dX1_atom_57 rfl ?_
    refine go_icmp_ne (tgt := 70) (n := 63) dX1_atom_60 rfl rfl (fun c2 => ?_) (fun c2 => ?_)
    · rw [if_neg c2] at E
      refine go_aload_n (j := 0) (n := 71) rfl rfl dX1_atom_70 rfl ?_
      replace E := Option.bind_eq_some_iff.mp E; obtain ⟨v3, ev3, E⟩ := E
      refine go_getP (n := 74) ev3 fl_RX1_12 rfl dX1_atom_71 rfl ?_
      refine go_iload_n (j := 2) (n := 75) rfl rfl dX1_atom_74 rfl ?_
      replace E := Option.bind_eq_some_iff.mp E; obtain ⟨a6, ea6, E⟩ := E
      obtain ⟨fa6, ga6⟩ := xrc_some ea6
      replace E := xb_some E; obtain ⟨v4, h5, ev4, E⟩ := E
      refine go_callV (y := yX7_wordAt) (n := 78) (st := []) (as := [vi l2]) (stk9 := [vi v4]) (OX7_wordAt ev4) yw_X7_wordAt ci_7 ga6 wml_RX1_82 wim_X7_wordAt wse_X7_wordAt (Nat.le_of_ble_eq_true rfl) rfl ⟨Nat.le_of_ble_eq_true rfl, Nat.le_of_ble_eq_true rfl⟩ (Nat.le_of_ble_eq_true rfl) dX1_atom_75 rfl (by cases fa6; rfl) rfl ?_
      refine go_i2l (n := 79) dX1_atom_78 rfl ?_
      cases E
      exact go_lreturn rfl dX1_atom_79
    · rw [if_pos c2] at E
      refine go_aload_n (j := 0) (n := 64) rfl rfl dX1_atom_63 rfl ?_
      replace E := Option.bind_eq_some_iff.mp E; obtain ⟨v7, ev7, E⟩ := E
      refine go_getJ (n := 67) ev7 fl_RX1_78 rfl dX1_atom_64 rfl ?_
      refine go_goto (tgt := 79) dX1_atom_67 rfl ?_
      cases E
      exact go_lreturn rfl dX1_atom_79
  rw [if_neg c15] at E
  by_cases c16 : l1 = 270
  · rw [if_pos c16] at E
    refine go_lookup (tgt := 80) (off := 79) dX1_atom_1 (by decide) (by rw [c16]; rfl) rfl ?_
    refine go_aload_n (j := 0) (n := 81) rfl rfl dX1_atom_80 rfl ?_
    replace E := Option.bind_eq_some_iff.mp E; obtain ⟨v8, ev8, E⟩ := E
    refine go_getP (n := 84) ev8 fl_RX1_12 rfl dX1_atom_81 rfl ?_
    refine go_iload_n (j := 2) (n := 85) rfl rfl dX1_atom_84 rfl ?_
    replace E := Option.bind_eq_some_iff.mp E; obtain ⟨a11, ea11, E⟩ := E
    obtain ⟨fa11, ga11⟩ := xrc_some ea11
    replace E := xb_some E; obtain ⟨v9, h10, ev9, E⟩ := E
    refine go_callV (y := yX7_oldAt) (n := 88) (st := []) (as := [vi l2]) (stk9 := [vi v9]) (OX7_oldAt ev9) yw_X7_oldAt ci_7 ga11 wml_RX1_62 wim_X7_oldAt wse_X7_oldAt (Nat.le_of_ble_eq_true rfl) rfl ⟨Nat.le_of_ble_eq_true rfl, Nat.le_of_ble_eq_true rfl⟩ (Nat.le_of_ble_eq_true rfl) dX1_atom_85 rfl (by cases fa11; rfl) rfl ?_
    refine go_i2l (n := 89) dX1_atom_88 rfl ?_
    cases E
    exact go_lreturn rfl dX1_atom_89
  rw [if_neg c16] at E
  by_cases c17 : l1 = 271
  · rw [if_pos c17] at E
    refine go_lookup (tgt := 90) (off := 89) dX1_atom_1 (by decide) (by rw [c17]; rfl) rfl ?_
    refine go_aload_n (j := 0) (n := 91) rfl rfl dX1_atom_90 rfl ?_
    replace E := Option.bind_eq_some_iff.mp E; obtain ⟨v12, ev12, E⟩ := E
    refine go_getI (n := 94) ev12 fl_RX1_26 rfl dX1_atom_91 rfl ?_
    refine go_i2l (n := 95) dX1_atom_94 rfl ?_
    cases E
    exact go_lreturn rfl dX1_atom_95
  rw [if_neg c17] at E
  by_cases c18 : l1 = 272
  · rw [if_pos c18] at E
    refine go_lookup (tgt := 96) (off := 95) dX1_atom_1 (by decide) (by rw [c18]; rfl) rfl ?_
    refine go_aload_n (j := 0) (n := 97) rfl rfl dX1_atom_96 rfl ?_
    replace E := Option.bind_eq_some_iff.mp E; obtain ⟨v13, ev13, E⟩ := E
    refine go_getI (n := 100) ev13 fl_RX1_29 rfl dX1_atom_97 rfl ?_
    refine go_i2l (n := 101) dX1_atom_100 rfl ?_
    cases E
    exact go_lreturn rfl dX1_atom_101
  rw [if_neg c18] at E
  refine go_lookup (tgt := 102) (off := 101) dX1_atom_1 (by decide) (by simp [Op.lookupswitch.offset, List.find?, Ne.symm c14, Ne.symm c15, Ne.symm c16, Ne.symm c17, Ne.symm c18, c14, c15, c16, c17, c18]) rfl ?_
  refine go_lconst (w := 0) (n := 103) rfl dX1_atom_102 rfl ?_
  cases E
  exact go_lreturn rfl dX1_atom_103
theorem OX1_atom {F : Nat} {l0 : Nat} {l1 : Int} {l2 : Int} {h hf : HP} {r : Int} (e : X1_atom F l0 l1 l2 h = some (r, hf)) : Ok MX1_atom [vr (some l0), vi l1, vi l2] (some (vl r)) h hf := fun K _ _ _ => SX1_atom l0 l1 l2 h e
theorem yw_X1_nextCode : YW yX1_nextCode cX1_nextCode 2 (some .int) 0 := ⟨bw_of 1446 (by decide +kernel) rfl, bw_of 120 (by decide +kernel) rfl, ⟨by decide +kernel, by decide +kernel, by decide +kernel⟩, by decide +kernel⟩
theorem wml_RX1_43 : Cond.methodLink RX1 43 yX1_nextCode ∈ BW := bw_of 1443 (by decide +kernel) rfl
theorem wim_X1_nextCode : Cond.instanceMethod yX1_nextCode ∈ BW := bw_of 1445 (by decide +kernel) rfl
theorem wse_X1_nextCode : Cond.selects RX1 yX1_nextCode yX1_nextCode ∈ BW := bw_of 42 (by decide +kernel) rfl
theorem yw_X1_atom : YW yX1_atom cX1_atom 3 (some .long) 2 := ⟨bw_of 1462 (by decide +kernel) rfl, bw_of 120 (by decide +kernel) rfl, ⟨by decide +kernel, by decide +kernel, by decide +kernel⟩, by decide +kernel⟩
theorem wml_RX1_99 : Cond.methodLink RX1 99 yX1_atom ∈ BW := bw_of 1459 (by decide +kernel) rfl
theorem wim_X1_atom : Cond.instanceMethod yX1_atom ∈ BW := bw_of 1461 (by decide +kernel) rfl
theorem wse_X1_atom : Cond.selects RX1 yX1_atom yX1_atom ∈ BW := bw_of 45 (by decide +kernel) rfl
abbrev MX1_sum : MI := (RX1, cX1_sum, 8, (some .long), 4, none, "sum")
noncomputable def X1_sum_L10 (F : Nat)   (k : Nat) : Nat → Int → Int → Int → HP → Option (Int × HP) :=
  Nat.rec (motive := fun _ => Nat → Int → Int → Int → HP → Option (Int × HP)) (fun _ _ _ _ _ => none) (fun _ rc10 l0 l1 l2 l4 h =>
    if l1 ≤ l4 then
      some (l2, h)
    else
      if 400 ≤ l4 then
        some (l2, h)
      else
        (xrc h (some l0) 1 8).bind fun a5 =>
        xb (X1_nextCode F a5 h) fun v3 h4 =>
        (xrc h4 (some l0) 1 8).bind fun a8 =>
        xb (X1_nextCode F a8 h4) fun v6 h7 =>
        (xrc h7 (some l0) 1 8).bind fun a11 =>
        xb (X1_nextCode F a11 h7) fun v9 h10 =>
        (xrc h10 (some l0) 1 8).bind fun a14 =>
        xb (X1_atom F a14 v6 v9 h10) fun v12 h13 =>
        rc10 l0 l1 (w64 (l2 + (w64 (v3 * v12)))) (w32 (l4 + 1)) h13) k
theorem X1_sum_L10_s (F : Nat)   (k : Nat) (l0 : Nat) (l1 : Int) (l2 : Int) (l4 : Int)  (h : HP) : X1_sum_L10 F   (k + 1) l0 l1 l2 l4 h =
    if l1 ≤ l4 then
      some (l2, h)
    else
      if 400 ≤ l4 then
        some (l2, h)
      else
        (xrc h (some l0) 1 8).bind fun a5 =>
        xb (X1_nextCode F a5 h) fun v3 h4 =>
        (xrc h4 (some l0) 1 8).bind fun a8 =>
        xb (X1_nextCode F a8 h4) fun v6 h7 =>
        (xrc h7 (some l0) 1 8).bind fun a11 =>
        xb (X1_nextCode F a11 h7) fun v9 h10 =>
        (xrc h10 (some l0) 1 8).bind fun a14 =>
        xb (X1_atom F a14 v6 v9 h10) fun v12 h13 =>
        (X1_sum_L10 F k) l0 l1 (w64 (l2 + (w64 (v3 * v12)))) (w32 (l4 + 1)) h13 := rfl
set_option maxRecDepth 100000 in
theorem SX1_sum_L10 {K : Ctx} {F : Nat} {r : Int} {hf : HP}     : ∀ (k : Nat) (l0 : Nat) (l1 : Int) (l2 : Int) (l4 : Int)  (h : HP), X1_sum_L10 F   k l0 l1 l2 l4 h = some (r, hf) → Go K MX1_sum (QM K (some (vl r)) hf) hf 10 [(0, vr (some l0)), (1, vi l1), (2, vl l2), (4, vi l4)] [] h := by
  intro k
  induction k with
  | zero => intro l0 l1 l2 l4 h E; exact nomatch E
  | succ k hrc10 =>
    intro l0 l1 l2 l4 h E
    rw [X1_sum_L10_s] at E
    refine go_iload (j := 3) (n := 12) rfl dX1_sum_10 rfl ?_
    refine go_iload_n (j := 1) (n := 13) rfl rfl dX1_sum_12 rfl ?_
    refine go_icmp_ge (tgt := 59) (n := 16) dX1_sum_13 rfl rfl (fun c1 => ?_) (fun c1 => ?_)
    · rw [if_pos c1] at E
      refine go_lload_n (j := 2) (n := 60) rfl rfl dX1_sum_59 rfl ?_
      cases E
      exact go_lreturn rfl dX1_sum_60
    · rw [if_neg c1] at E
      refine go_iload (j := 3) (n := 18) rfl dX1_sum_16 rfl ?_
      refine go_sipush (z := 400) (n := 21) ⟨by decide, by decide⟩ dX1_sum_18 rfl ?_
      refine go_icmp_ge (tgt := 59) (n := 24) dX1_sum_21 rfl rfl (fun c2 => ?_) (fun c2 => ?_)
      · rw [if_pos c2] at E
        refine go_lload_n (j := 2) (n := 60) rfl rfl dX1_sum_59 rfl ?_
        cases E
        exact go_lreturn rfl dX1_sum_60
      · rw [if_neg c2] at E
        refine go_aload_n (j := 0) (n := 25) rfl rfl dX1_sum_24 rfl ?_
        replace E := Option.bind_eq_some_iff.mp E; obtain ⟨a5, ea5, E⟩ := E
        obtain ⟨fa5, ga5⟩ := xrc_some ea5
        replace E := xb_some E; obtain ⟨v3, h4, ev3, E⟩ := E
        refine go_callV (y := yX1_nextCode) (n := 28) (st := []) (as := []) (stk9 := [vi v3]) (OX1_nextCode ev3) yw_X1_nextCode ci_1 ga5 wml_RX1_43 wim_X1_nextCode wse_X1_nextCode (Nat.le_of_ble_eq_true rfl) rfl ⟨Nat.le_of_ble_eq_true rfl, Nat.le_of_ble_eq_true rfl⟩ (Nat.le_of_ble_eq_true rfl) dX1_sum_25 rfl (by cases fa5; rfl) rfl ?_
        refine go_i2l (n := 29) dX1_sum_28 rfl ?_
        refine go_lstore (n := 31) (lv' := [(5, vl v3), (0, vr (some l0)), (1, vi l1), (2, vl l2), (4, vi l4)]) dX1_sum_29 rfl (Nat.le_of_ble_eq_true rfl) rfl ?_
        refine go_aload_n (j := 1) (n := 32) rfl rfl dX1_sum_31 rfl ?_
        replace E := Option.bind_eq_some_iff.mp E; obtain ⟨a8, ea8, E⟩ := E
        obtain ⟨fa8, ga8⟩ := xrc_some ea8
        replace E := xb_some E; obtain ⟨v6, h7, ev6, E⟩ := E
        refine go_callV (y := yX1_nextCode) (n := 35) (st := []) (as := []) (stk9 := [vi v6]) (OX1_nextCode ev6) yw_X1_nextCode ci_1 ga8 wml_RX1_43 wim_X1_nextCode wse_X1_nextCode (Nat.le_of_ble_eq_true rfl) rfl ⟨Nat.le_of_ble_eq_true rfl, Nat.le_of_ble_eq_true rfl⟩ (Nat.le_of_ble_eq_true rfl) dX1_sum_32 rfl (by cases fa8; rfl) rfl ?_
        refine go_istore (n := 37) (lv' := [(7, vi v6), (5, vl v3), (0, vr (some l0)), (1, vi l1), (2, vl l2), (4, vi l4)]) dX1_sum_35 rfl (Nat.le_of_ble_eq_true rfl) rfl ?_
        refine go_lload_n (j := 4) (n := 38) rfl rfl dX1_sum_37 rfl ?_
        refine go_lload (j := 1) (n := 40) rfl dX1_sum_38 rfl ?_
        refine go_aload_n (j := 2) (n := 41) rfl rfl dX1_sum_40 rfl ?_
        refine go_iload (j := 0) (n := 43) rfl dX1_sum_41 rfl ?_
        refine go_aload_n (j := 2) (n := 44) rfl rfl dX1_sum_43 rfl ?_
        replace E := Option.bind_eq_some_iff.mp E; obtain ⟨a11, ea11, E⟩ := E
        obtain ⟨fa11, ga11⟩ := xrc_some ea11
        replace E := xb_some E; obtain ⟨v9, h10, ev9, E⟩ := E
        refine go_callV (y := yX1_nextCode) (n := 47) (st := [vi v6, vr (some l0), vl v3, vl l2]) (as := []) (stk9 := [vi v9, vi v6, vr (some l0), vl v3, vl l2]) (OX1_nextCode ev9) yw_X1_nextCode ci_1 ga11 wml_RX1_43 wim_X1_nextCode wse_X1_nextCode (Nat.le_of_ble_eq_true rfl) rfl ⟨Nat.le_of_ble_eq_true rfl, Nat.le_of_ble_eq_true rfl⟩ (Nat.le_of_ble_eq_true rfl) dX1_sum_44 rfl (by cases fa11; rfl) rfl ?_
        replace E := Option.bind_eq_some_iff.mp E; obtain ⟨a14, ea14, E⟩ := E
        obtain ⟨fa14, ga14⟩ := xrc_some ea14
        replace E := xb_some E; obtain ⟨v12, h13, ev12, E⟩ := E
        refine go_callV (y := yX1_atom) (n := 50) (st := [vl v3, vl l2]) (as := [vi v6, vi v9]) (stk9 := [vl v12, vl v3, vl l2]) (OX1_atom ev12) yw_X1_atom ci_1 ga14 wml_RX1_99 wim_X1_atom wse_X1_atom (Nat.le_of_ble_eq_true rfl) rfl ⟨Nat.le_of_ble_eq_true rfl, Nat.le_of_ble_eq_true rfl⟩ (Nat.le_of_ble_eq_true rfl) dX1_sum_47 rfl (by cases fa14; rfl) rfl ?_
        refine go_lmul (n := 51) dX1_sum_50 rfl ?_
        refine go_ladd (n := 52) dX1_sum_51 rfl ?_
        refine go_lstore_n (n := 53) (lv' := [(2, vl (w64 (l2 + (w64 (v3 * v12))))), (7, vi v6), (5, vl v3), (0, vr (some l0)), (1, vi l1), (4, vi l4)]) rfl dX1_sum_52 rfl (Nat.le_of_ble_eq_true rfl) rfl ?_
        refine go_iinc (j := 5) (n := 56) (lv' := [(4, vi (w32 (l4 + 1))), (2, vl (w64 (l2 + (w64 (v3 * v12))))), (7, vi v6), (5, vl v3), (0, vr (some l0)), (1, vi l1)]) rfl dX1_sum_53 rfl (Nat.le_of_ble_eq_true rfl) rfl ?_
        refine go_goto (tgt := 10) dX1_sum_56 rfl ?_
        refine go_pick (lv' := [(0, vr (some l0)), (1, vi l1), (2, vl (w64 (l2 + (w64 (v3 * v12))))), (4, vi (w32 (l4 + 1)))]) [4, 5, 1, 0] rfl ?_
        exact hrc10 _ _ _ _ _ E
noncomputable def X1_sum (F : Nat)   (l0 : Nat)  (h : HP) : Option (Int × HP) :=
  (xrc h (some l0) 1 8).bind fun a3 =>
  xb (X1_nextCode F a3 h) fun v1 h2 =>
  X1_sum_L10 F F l0 v1 0 0 h2
set_option maxRecDepth 100000 in
theorem SX1_sum {K : Ctx} {F : Nat} {r : Int} {hf : HP}     (l0 : Nat)  (h : HP) (E : X1_sum F   l0 h = some (r, hf)) : Go K MX1_sum (QM K (some (vl r)) hf) hf 0 [(0, vr (some l0))] [] h := by
  unfold X1_sum at E
  refine go_aload_n (j := 0) (n := 1) rfl rfl dX1_sum_0 rfl ?_
  replace E := Option.bind_eq_some_iff.mp E; obtain ⟨a3, ea3, E⟩ := E
  obtain ⟨fa3, ga3⟩ := xrc_some ea3
  replace E := xb_some E; obtain ⟨v1, h2, ev1, E⟩ := E
  refine go_callV (y := yX1_nextCode) (n := 4) (st := []) (as := []) (stk9 := [vi v1]) (OX1_nextCode ev1) yw_X1_nextCode ci_1 ga3 wml_RX1_43 wim_X1_nextCode wse_X1_nextCode (Nat.le_of_ble_eq_true rfl) rfl ⟨Nat.le_of_ble_eq_true rfl, Nat.le_of_ble_eq_true rfl⟩ (Nat.le_of_ble_eq_true rfl) dX1_sum_1 rfl (by cases fa3; rfl) rfl ?_
  refine go_istore_n (n := 5) (lv' := [(1, vi v1), (0, vr (some l0))]) rfl dX1_sum_4 rfl (Nat.le_of_ble_eq_true rfl) rfl ?_
  refine go_lconst (w := 0) (n := 6) rfl dX1_sum_5 rfl ?_
  refine go_lstore_n (n := 7) (lv' := [(2, vl 0), (1, vi v1), (0, vr (some l0))]) rfl dX1_sum_6 rfl (Nat.le_of_ble_eq_true rfl) rfl ?_
  refine go_iconst (z := 0) (n := 8) ⟨by decide, by decide⟩ dX1_sum_7 rfl ?_
  refine go_istore (n := 10) (lv' := [(4, vi 0), (2, vl 0), (1, vi v1), (0, vr (some l0))]) dX1_sum_8 rfl (Nat.le_of_ble_eq_true rfl) rfl ?_
  refine go_pick (lv' := [(0, vr (some l0)), (1, vi v1), (2, vl 0), (4, vi 0)]) [3, 2, 1, 0] rfl ?_
  exact SX1_sum_L10     F _ _ _ _ _ E
theorem OX1_sum {F : Nat} {l0 : Nat} {h hf : HP} {r : Int} (e : X1_sum F l0 h = some (r, hf)) : Ok MX1_sum [vr (some l0)] (some (vl r)) h hf := fun K _ _ _ => SX1_sum l0 h e
theorem yw_X1_sum : YW yX1_sum cX1_sum 8 (some .long) 0 := ⟨bw_of 1458 (by decide +kernel) rfl, bw_of 120 (by decide +kernel) rfl, ⟨by decide +kernel, by decide +kernel, by decide +kernel⟩, by decide +kernel⟩
theorem wml_RX1_70 : Cond.methodLink RX1 70 yX1_sum ∈ BW := bw_of 1455 (by decide +kernel) rfl
theorem wim_X1_sum : Cond.instanceMethod yX1_sum ∈ BW := bw_of 1457 (by decide +kernel) rfl
theorem wse_X1_sum : Cond.selects RX1 yX1_sum yX1_sum ∈ BW := bw_of 44 (by decide +kernel) rfl
abbrev MX1_doSet : MI := (RX1, cX1_doSet, 8, (some .boolean), 5, none, "doSet")
noncomputable def X1_doSet_L68 (F : Nat)   (l0 : Nat) (l1 : Int) (l4 : Int) (l6 : Int)  (h : HP) : Option (Int × HP) :=
  (xpI h (some l0) 1 8 5 (-1)).bind fun h1 =>
  if l6 = 0 then
    some (0, h1)
  else
    (xrc h1 (some l0) 1 8).bind fun a5 =>
    xb (X1_put F a5 l1 l4 h1) fun v3 h4 =>
    some (if v3 = 0 then 0 else 1, h4)
set_option maxRecDepth 100000 in
theorem SX1_doSet_L68 {K : Ctx} {F : Nat} {r : Int} {hf : HP}     (l0 : Nat) (l1 : Int) (l4 : Int) (l6 : Int)  (h : HP) (E : X1_doSet_L68 F   l0 l1 l4 l6 h = some (r, hf)) : Go K MX1_doSet (QM K (some (vi r)) hf) hf 68 [(0, vr (some l0)), (1, vi l1), (4, vl l4), (6, vi l6)] [] h := by
  unfold X1_doSet_L68 at E
  refine go_aload_n (j := 0) (n := 69) rfl rfl dX1_doSet_68 rfl ?_
  refine go_iconst (z := (-1)) (n := 70) ⟨by decide, by decide⟩ dX1_doSet_69 rfl ?_
  replace E := Option.bind_eq_some_iff.mp E; obtain ⟨h1, eh1, E⟩ := E
  refine go_putI (n := 73) eh1 fl_RX1_18 rfl dX1_doSet_70 rfl ?_
  refine go_iload (j := 3) (n := 75) rfl dX1_doSet_73 rfl ?_
  refine go_if_eq (tgt := 92) (n := 78) dX1_doSet_75 rfl rfl (fun c2 => ?_) (fun c2 => ?_)
  · rw [if_pos c2] at E
    refine go_iconst (z := 0) (n := 93) ⟨by decide, by decide⟩ dX1_doSet_92 rfl ?_
    cases E
    exact go_zreturn rfl (Or.inl rfl) dX1_doSet_93
  · rw [if_neg c2] at E
    refine go_aload_n (j := 0) (n := 79) rfl rfl dX1_doSet_78 rfl ?_
    refine go_iload_n (j := 1) (n := 80) rfl rfl dX1_doSet_79 rfl ?_
    refine go_lload (j := 2) (n := 82) rfl dX1_doSet_80 rfl ?_
    replace E := Option.bind_eq_some_iff.mp E; obtain ⟨a5, ea5, E⟩ := E
    obtain ⟨fa5, ga5⟩ := xrc_some ea5
    replace E := xb_some E; obtain ⟨v3, h4, ev3, E⟩ := E
    refine go_callV (y := yX1_put) (n := 85) (st := []) (as := [vi l1, vl l4]) (stk9 := [vi v3]) (OX1_put ev3) yw_X1_put ci_1 ga5 wml_RX1_66 wim_X1_put wse_X1_put (Nat.le_of_ble_eq_true rfl) rfl ⟨Nat.le_of_ble_eq_true rfl, Nat.le_of_ble_eq_true rfl⟩ (Nat.le_of_ble_eq_true rfl) dX1_doSet_82 rfl (by cases fa5; rfl) rfl ?_
    refine go_if_eq (tgt := 92) (n := 88) dX1_doSet_85 rfl rfl (fun c6 => ?_) (fun c6 => ?_)
    · simp only [if_pos c6] at E
      refine go_iconst (z := 0) (n := 93) ⟨by decide, by decide⟩ dX1_doSet_92 rfl ?_
      cases E
      exact go_zreturn rfl (Or.inl rfl) dX1_doSet_93
    · simp only [if_neg c6] at E
      refine go_iconst (z := 1) (n := 89) ⟨by decide, by decide⟩ dX1_doSet_88 rfl ?_
      refine go_goto (tgt := 93) dX1_doSet_89 rfl ?_
      cases E
      exact go_zreturn rfl (Or.inr rfl) dX1_doSet_93
noncomputable def X1_doSet_L49 (F : Nat)  (rc14 : Nat → Int → Int → Int → Int → Int → Int → HP → Option (Int × HP)) (l0 : Nat) (l1 : Int) (l2 : Int) (l3 : Int) (l4 : Int) (l7 : Int) (s0 : Int) (h : HP) : Option (Int × HP) :=
  (xpI h (some l0) 1 8 5 l1).bind fun h1 =>
  (xpJ h1 (some l0) 1 8 6 l4).bind fun h2 =>
  rc14 l0 l1 l2 l3 l4 s0 (w32 (l7 + 1)) h2
set_option maxRecDepth 100000 in
theorem SX1_doSet_L49 {K : Ctx} {F : Nat} {r : Int} {hf : HP}   (rc14 : Nat → Int → Int → Int → Int → Int → Int → HP → Option (Int × HP)) (hrc14 : ∀ l0 l1 l2 l3 l4 l6 l7 h, rc14 l0 l1 l2 l3 l4 l6 l7 h = some (r, hf) → Go K MX1_doSet (QM K (some (vi r)) hf) hf 14 [(0, vr (some l0)), (1, vi l1), (2, vi l2), (3, vi l3), (4, vl l4), (6, vi l6), (7, vi l7)] [] h) (l0 : Nat) (l1 : Int) (l2 : Int) (l3 : Int) (l4 : Int) (l7 : Int) (s0 : Int) (h : HP) (E : X1_doSet_L49 F  rc14 l0 l1 l2 l3 l4 l7 s0 h = some (r, hf)) : Go K MX1_doSet (QM K (some (vi r)) hf) hf 49 [(0, vr (some l0)), (1, vi l1), (2, vi l2), (3, vi l3), (4, vl l4), (7, vi l7)] [vi s0] h := by
  unfold X1_doSet_L49 at E
  refine go_istore (n := 51) (lv' := [(6, vi s0), (0, vr (some l0)), (1, vi l1), (2, vi l2), (3, vi l3), (4, vl l4), (7, vi l7)]) dX1_doSet_49 rfl (Nat.le_of_ble_eq_true rfl) rfl ?_
  refine go_aload_n (j := 1) (n := 52) rfl rfl dX1_doSet_51 rfl ?_
  refine go_iload_n (j := 2) (n := 53) rfl rfl dX1_doSet_52 rfl ?_
  replace E := Option.bind_eq_some_iff.mp E; obtain ⟨h1, eh1, E⟩ := E
  refine go_putI (n := 56) eh1 fl_RX1_18 rfl dX1_doSet_53 rfl ?_
  refine go_aload_n (j := 1) (n := 57) rfl rfl dX1_doSet_56 rfl ?_
  refine go_lload (j := 5) (n := 59) rfl dX1_doSet_57 rfl ?_
  replace E := Option.bind_eq_some_iff.mp E; obtain ⟨h2, eh2, E⟩ := E
  refine go_putJ (n := 62) eh2 fl_RX1_78 rfl dX1_doSet_59 rfl ?_
  refine go_iinc (j := 6) (n := 65) (lv' := [(7, vi (w32 (l7 + 1))), (6, vi s0), (0, vr (some l0)), (1, vi l1), (2, vi l2), (3, vi l3), (4, vl l4)]) rfl dX1_doSet_62 rfl (Nat.le_of_ble_eq_true rfl) rfl ?_
  refine go_goto (tgt := 14) dX1_doSet_65 rfl ?_
  refine go_pick (lv' := [(0, vr (some l0)), (1, vi l1), (2, vi l2), (3, vi l3), (4, vl l4), (6, vi s0), (7, vi (w32 (l7 + 1)))]) [2, 3, 4, 5, 6, 1, 0] rfl ?_
  exact hrc14 _ _ _ _ _ _ _ _ E
noncomputable def X1_doSet_L14 (F : Nat)   (k : Nat) : Nat → Int → Int → Int → Int → Int → Int → HP → Option (Int × HP) :=
  Nat.rec (motive := fun _ => Nat → Int → Int → Int → Int → Int → Int → HP → Option (Int × HP)) (fun _ _ _ _ _ _ _ _ => none) (fun _ rc14 l0 l1 l2 l3 l4 l6 l7 h =>
    if l2 ≤ l7 then
      X1_doSet_L68 F l0 l1 l4 l6 h
    else
      if l6 = 0 then
        X1_doSet_L68 F l0 l1 l4 l6 h
      else
        (xpI h (some l0) 1 8 2 l3).bind fun h3 =>
        (xrc h3 (some l0) 1 8).bind fun a6 =>
        xb (X1_sum F a6 h3) fun v4 h5 =>
        xb (X11_outOfBounds F v4 h5) fun v7 h8 =>
        X1_doSet_L49 F rc14 l0 l1 l2 l3 v4 l7 (if v7 = 0 then 1 else 0) h8) k
theorem X1_doSet_L14_s (F : Nat)   (k : Nat) (l0 : Nat) (l1 : Int) (l2 : Int) (l3 : Int) (l4 : Int) (l6 : Int) (l7 : Int)  (h : HP) : X1_doSet_L14 F   (k + 1) l0 l1 l2 l3 l4 l6 l7 h =
    if l2 ≤ l7 then
      X1_doSet_L68 F l0 l1 l4 l6 h
    else
      if l6 = 0 then
        X1_doSet_L68 F l0 l1 l4 l6 h
      else
        (xpI h (some l0) 1 8 2 l3).bind fun h3 =>
        (xrc h3 (some l0) 1 8).bind fun a6 =>
        xb (X1_sum F a6 h3) fun v4 h5 =>
        xb (X11_outOfBounds F v4 h5) fun v7 h8 =>
        X1_doSet_L49 F (X1_doSet_L14 F k) l0 l1 l2 l3 v4 l7 (if v7 = 0 then 1 else 0) h8 := rfl
set_option maxRecDepth 100000 in
theorem SX1_doSet_L14 {K : Ctx} {F : Nat} {r : Int} {hf : HP}     : ∀ (k : Nat) (l0 : Nat) (l1 : Int) (l2 : Int) (l3 : Int) (l4 : Int) (l6 : Int) (l7 : Int)  (h : HP), X1_doSet_L14 F   k l0 l1 l2 l3 l4 l6 l7 h = some (r, hf) → Go K MX1_doSet (QM K (some (vi r)) hf) hf 14 [(0, vr (some l0)), (1, vi l1), (2, vi l2), (3, vi l3), (4, vl l4), (6, vi l6), (7, vi l7)] [] h := by
  intro k
  induction k with
  | zero => intro l0 l1 l2 l3 l4 l6 l7 h E; exact nomatch E
  | succ k hrc14 =>
    intro l0 l1 l2 l3 l4 l6 l7 h E
    rw [X1_doSet_L14_s] at E
    refine go_iload (j := 6) (n := 16) rfl dX1_doSet_14 rfl ?_
    refine go_iload_n (j := 2) (n := 17) rfl rfl dX1_doSet_16 rfl ?_
    refine go_icmp_ge (tgt := 68) (n := 20) dX1_doSet_17 rfl rfl (fun c1 => ?_) (fun c1 => ?_)
    · rw [if_pos c1] at E
      refine go_pick (lv' := [(0, vr (some l0)), (1, vi l1), (4, vl l4), (6, vi l6)]) [0, 1, 4, 5] rfl ?_
      exact SX1_doSet_L68     _ _ _ _  _ E
    · rw [if_neg c1] at E
      refine go_iload (j := 5) (n := 22) rfl dX1_doSet_20 rfl ?_
      refine go_if_eq (tgt := 68) (n := 25) dX1_doSet_22 rfl rfl (fun c2 => ?_) (fun c2 => ?_)
      · rw [if_pos c2] at E
        refine go_pick (lv' := [(0, vr (some l0)), (1, vi l1), (4, vl l4), (6, vi l6)]) [0, 1, 4, 5] rfl ?_
        exact SX1_doSet_L68     _ _ _ _  _ E
      · rw [if_neg c2] at E
        refine go_aload_n (j := 0) (n := 26) rfl rfl dX1_doSet_25 rfl ?_
        refine go_iload_n (j := 3) (n := 27) rfl rfl dX1_doSet_26 rfl ?_
        replace E := Option.bind_eq_some_iff.mp E; obtain ⟨h3, eh3, E⟩ := E
        refine go_putI (n := 30) eh3 fl_RX1_32 rfl dX1_doSet_27 rfl ?_
        refine go_aload_n (j := 0) (n := 31) rfl rfl dX1_doSet_30 rfl ?_
        replace E := Option.bind_eq_some_iff.mp E; obtain ⟨a6, ea6, E⟩ := E
        obtain ⟨fa6, ga6⟩ := xrc_some ea6
        replace E := xb_some E; obtain ⟨v4, h5, ev4, E⟩ := E
        refine go_callV (y := yX1_sum) (n := 34) (st := []) (as := []) (stk9 := [vl v4]) (OX1_sum ev4) yw_X1_sum ci_1 ga6 wml_RX1_70 wim_X1_sum wse_X1_sum (Nat.le_of_ble_eq_true rfl) rfl ⟨Nat.le_of_ble_eq_true rfl, Nat.le_of_ble_eq_true rfl⟩ (Nat.le_of_ble_eq_true rfl) dX1_doSet_31 rfl (by cases fa6; rfl) rfl ?_
        refine go_lstore (n := 36) (lv' := [(4, vl v4), (0, vr (some l0)), (1, vi l1), (2, vi l2), (3, vi l3), (6, vi l6), (7, vi l7)]) dX1_doSet_34 rfl (Nat.le_of_ble_eq_true rfl) rfl ?_
        refine go_lload (j := 0) (n := 38) rfl dX1_doSet_36 rfl ?_
        replace E := xb_some E; obtain ⟨v7, h8, ev7, E⟩ := E
        refine go_callSN (host := "TeaNight") (y := yX11_outOfBounds) (n := 41) (st := []) (as := [vl v4]) (stk9 := [vi v7]) (OX11_outOfBounds ev7) yw_X11_outOfBounds (by decide +kernel) wst_X11_outOfBounds (Nat.le_of_ble_eq_true rfl) rfl ⟨Nat.le_of_ble_eq_true rfl, Nat.le_of_ble_eq_true rfl⟩ (Nat.le_of_ble_eq_true rfl) dX1_doSet_38 rfl rfl rfl ?_
        refine go_if_ne (tgt := 48) (n := 44) dX1_doSet_41 rfl rfl (fun c9 => ?_) (fun c9 => ?_)
        · simp only [if_neg c9] at E
          refine go_iconst (z := 0) (n := 49) ⟨by decide, by decide⟩ dX1_doSet_48 rfl ?_
          refine go_pick (lv' := [(0, vr (some l0)), (1, vi l1), (2, vi l2), (3, vi l3), (4, vl v4), (7, vi l7)]) [1, 2, 3, 4, 0, 6] rfl ?_
          exact SX1_doSet_L49   _ hrc14 _ _ _ _ _ _ _ _ E
        · simp only [if_pos c9] at E
          refine go_iconst (z := 1) (n := 45) ⟨by decide, by decide⟩ dX1_doSet_44 rfl ?_
          refine go_goto (tgt := 49) dX1_doSet_45 rfl ?_
          refine go_pick (lv' := [(0, vr (some l0)), (1, vi l1), (2, vi l2), (3, vi l3), (4, vl v4), (7, vi l7)]) [1, 2, 3, 4, 0, 6] rfl ?_
          exact SX1_doSet_L49   _ hrc14 _ _ _ _ _ _ _ _ E
noncomputable def X1_doSet (F : Nat)   (l0 : Nat) (l1 : Int) (l2 : Int)  (h : HP) : Option (Int × HP) :=
  (xgI h (some l0) 1 8 2).bind fun v1 =>
  X1_doSet_L14 F F l0 l1 l2 v1 0 1 0 h
set_option maxRecDepth 100000 in
theorem SX1_doSet {K : Ctx} {F : Nat} {r : Int} {hf : HP}     (l0 : Nat) (l1 : Int) (l2 : Int)  (h : HP) (E : X1_doSet F   l0 l1 l2 h = some (r, hf)) : Go K MX1_doSet (QM K (some (vi r)) hf) hf 0 [(0, vr (some l0)), (1, vi l1), (2, vi l2)] [] h := by
  unfold X1_doSet at E
  refine go_aload_n (j := 0) (n := 1) rfl rfl dX1_doSet_0 rfl ?_
  replace E := Option.bind_eq_some_iff.mp E; obtain ⟨v1, ev1, E⟩ := E
  refine go_getI (n := 4) ev1 fl_RX1_32 rfl dX1_doSet_1 rfl ?_
  refine go_istore_n (n := 5) (lv' := [(3, vi v1), (0, vr (some l0)), (1, vi l1), (2, vi l2)]) rfl dX1_doSet_4 rfl (Nat.le_of_ble_eq_true rfl) rfl ?_
  refine go_lconst (w := 0) (n := 6) rfl dX1_doSet_5 rfl ?_
  refine go_lstore (n := 8) (lv' := [(4, vl 0), (3, vi v1), (0, vr (some l0)), (1, vi l1), (2, vi l2)]) dX1_doSet_6 rfl (Nat.le_of_ble_eq_true rfl) rfl ?_
  refine go_iconst (z := 1) (n := 9) ⟨by decide, by decide⟩ dX1_doSet_8 rfl ?_
  refine go_istore (n := 11) (lv' := [(6, vi 1), (4, vl 0), (3, vi v1), (0, vr (some l0)), (1, vi l1), (2, vi l2)]) dX1_doSet_9 rfl (Nat.le_of_ble_eq_true rfl) rfl ?_
  refine go_iconst (z := 0) (n := 12) ⟨by decide, by decide⟩ dX1_doSet_11 rfl ?_
  refine go_istore (n := 14) (lv' := [(7, vi 0), (6, vi 1), (4, vl 0), (3, vi v1), (0, vr (some l0)), (1, vi l1), (2, vi l2)]) dX1_doSet_12 rfl (Nat.le_of_ble_eq_true rfl) rfl ?_
  refine go_pick (lv' := [(0, vr (some l0)), (1, vi l1), (2, vi l2), (3, vi v1), (4, vl 0), (6, vi 1), (7, vi 0)]) [4, 5, 6, 3, 2, 1, 0] rfl ?_
  exact SX1_doSet_L14     F _ _ _ _ _ _ _ _ E
theorem OX1_doSet {F : Nat} {l0 : Nat} {l1 : Int} {l2 : Int} {h hf : HP} {r : Int} (e : X1_doSet F l0 l1 l2 h = some (r, hf)) : Ok MX1_doSet [vr (some l0), vi l1, vi l2] (some (vi r)) h hf := fun K _ _ _ => SX1_doSet l0 l1 l2 h e
abbrev MX1_doTotal : MI := (RX1, cX1_doTotal, 7, (some .boolean), 5, none, "doTotal")
noncomputable def X1_doTotal_L40 (F : Nat)   (l0 : Nat) (l1 : Int) (l4 : Int)  (h : HP) : Option (Int × HP) :=
  (xrc h (some l0) 1 8).bind fun a3 =>
  xb (X1_put F a3 l1 l4 h) fun v1 h2 =>
  xz v1 h2
set_option maxRecDepth 100000 in
theorem SX1_doTotal_L40 {K : Ctx} {F : Nat} {r : Int} {hf : HP}     (l0 : Nat) (l1 : Int) (l4 : Int)  (h : HP) (E : X1_doTotal_L40 F   l0 l1 l4 h = some (r, hf)) : Go K MX1_doTotal (QM K (some (vi r)) hf) hf 40 [(0, vr (some l0)), (1, vi l1), (4, vl l4)] [] h := by
  unfold X1_doTotal_L40 at E
  refine go_aload_n (j := 0) (n := 41) rfl rfl dX1_doTotal_40 rfl ?_
  refine go_iload_n (j := 1) (n := 42) rfl rfl dX1_doTotal_41 rfl ?_
  refine go_lload (j := 2) (n := 44) rfl dX1_doTotal_42 rfl ?_
  replace E := Option.bind_eq_some_iff.mp E; obtain ⟨a3, ea3, E⟩ := E
  obtain ⟨fa3, ga3⟩ := xrc_some ea3
  replace E := xb_some E; obtain ⟨v1, h2, ev1, E⟩ := E
  refine go_callV (y := yX1_put) (n := 47) (st := []) (as := [vi l1, vl l4]) (stk9 := [vi v1]) (OX1_put ev1) yw_X1_put ci_1 ga3 wml_RX1_66 wim_X1_put wse_X1_put (Nat.le_of_ble_eq_true rfl) rfl ⟨Nat.le_of_ble_eq_true rfl, Nat.le_of_ble_eq_true rfl⟩ (Nat.le_of_ble_eq_true rfl) dX1_doTotal_44 rfl (by cases fa3; rfl) rfl ?_
  unfold xz at E
  split at E
  · next c4 =>
    cases E
    exact go_zreturn rfl c4 dX1_doTotal_47
  · cases E
noncomputable def X1_doTotal_L6 (F : Nat)   (k : Nat) : Nat → Int → Int → Int → Int → HP → Option (Int × HP) :=
  Nat.rec (motive := fun _ => Nat → Int → Int → Int → Int → HP → Option (Int × HP)) (fun _ _ _ _ _ _ => none) (fun _ rc6 l0 l1 l3 l4 l6 h =>
    if l3 < l6 then
      X1_doTotal_L40 F l0 l1 l4 h
    else
      if 64 ≤ l6 then
        X1_doTotal_L40 F l0 l1 l4 h
      else
        (xgP h (some l0) 1 8 0).bind fun v3 =>
        (xrc h v3 7 10).bind fun a6 =>
        xb (X7_wordAt F a6 l6 h) fun v4 h5 =>
        rc6 l0 l1 l3 (w64 (l4 + v4)) (w32 (l6 + 1)) h5) k
theorem X1_doTotal_L6_s (F : Nat)   (k : Nat) (l0 : Nat) (l1 : Int) (l3 : Int) (l4 : Int) (l6 : Int)  (h : HP) : X1_doTotal_L6 F   (k + 1) l0 l1 l3 l4 l6 h =
    if l3 < l6 then
      X1_doTotal_L40 F l0 l1 l4 h
    else
      if 64 ≤ l6 then
        X1_doTotal_L40 F l0 l1 l4 h
      else
        (xgP h (some l0) 1 8 0).bind fun v3 =>
        (xrc h v3 7 10).bind fun a6 =>
        xb (X7_wordAt F a6 l6 h) fun v4 h5 =>
        (X1_doTotal_L6 F k) l0 l1 l3 (w64 (l4 + v4)) (w32 (l6 + 1)) h5 := rfl
set_option maxRecDepth 100000 in
theorem SX1_doTotal_L6 {K : Ctx} {F : Nat} {r : Int} {hf : HP}     : ∀ (k : Nat) (l0 : Nat) (l1 : Int) (l3 : Int) (l4 : Int) (l6 : Int)  (h : HP), X1_doTotal_L6 F   k l0 l1 l3 l4 l6 h = some (r, hf) → Go K MX1_doTotal (QM K (some (vi r)) hf) hf 6 [(0, vr (some l0)), (1, vi l1), (3, vi l3), (4, vl l4), (6, vi l6)] [] h := by
  intro k
  induction k with
  | zero => intro l0 l1 l3 l4 l6 h E; exact nomatch E
  | succ k hrc6 =>
    intro l0 l1 l3 l4 l6 h E
    rw [X1_doTotal_L6_s] at E
    refine go_iload (j := 4) (n := 8) rfl dX1_doTotal_6 rfl ?_
    refine go_iload_n (j := 2) (n := 9) rfl rfl dX1_doTotal_8 rfl ?_
    refine go_icmp_gt (tgt := 40) (n := 12) dX1_doTotal_9 rfl rfl (fun c1 => ?_) (fun c1 => ?_)
    · rw [if_pos c1] at E
      refine go_pick (lv' := [(0, vr (some l0)), (1, vi l1), (4, vl l4)]) [0, 1, 3] rfl ?_
      exact SX1_doTotal_L40     _ _ _  _ E
    · rw [if_neg c1] at E
      refine go_iload (j := 4) (n := 14) rfl dX1_doTotal_12 rfl ?_
      refine go_bipush (z := 64) (n := 16) ⟨by decide, by decide⟩ dX1_doTotal_14 rfl ?_
      refine go_icmp_ge (tgt := 40) (n := 19) dX1_doTotal_16 rfl rfl (fun c2 => ?_) (fun c2 => ?_)
      · rw [if_pos c2] at E
        refine go_pick (lv' := [(0, vr (some l0)), (1, vi l1), (4, vl l4)]) [0, 1, 3] rfl ?_
        exact SX1_doTotal_L40     _ _ _  _ E
      · rw [if_neg c2] at E
        refine go_lload (j := 3) (n := 21) rfl dX1_doTotal_19 rfl ?_
        refine go_aload_n (j := 0) (n := 22) rfl rfl dX1_doTotal_21 rfl ?_
        replace E := Option.bind_eq_some_iff.mp E; obtain ⟨v3, ev3, E⟩ := E
        refine go_getP (n := 25) ev3 fl_RX1_12 rfl dX1_doTotal_22 rfl ?_
        refine go_iload (j := 4) (n := 27) rfl dX1_doTotal_25 rfl ?_
        replace E := Option.bind_eq_some_iff.mp E; obtain ⟨a6, ea6, E⟩ := E
        obtain ⟨fa6, ga6⟩ := xrc_some ea6
        replace E := xb_some E; obtain ⟨v4, h5, ev4, E⟩ := E
        refine go_callV (y := yX7_wordAt) (n := 30) (st := [vl l4]) (as := [vi l6]) (stk9 := [vi v4, vl l4]) (OX7_wordAt ev4) yw_X7_wordAt ci_7 ga6 wml_RX1_82 wim_X7_wordAt wse_X7_wordAt (Nat.le_of_ble_eq_true rfl) rfl ⟨Nat.le_of_ble_eq_true rfl, Nat.le_of_ble_eq_true rfl⟩ (Nat.le_of_ble_eq_true rfl) dX1_doTotal_27 rfl (by cases fa6; rfl) rfl ?_
        refine go_i2l (n := 31) dX1_doTotal_30 rfl ?_
        refine go_ladd (n := 32) dX1_doTotal_31 rfl ?_
        refine go_lstore (n := 34) (lv' := [(4, vl (w64 (l4 + v4))), (0, vr (some l0)), (1, vi l1), (3, vi l3), (6, vi l6)]) dX1_doTotal_32 rfl (Nat.le_of_ble_eq_true rfl) rfl ?_
        refine go_iinc (j := 4) (n := 37) (lv' := [(6, vi (w32 (l6 + 1))), (4, vl (w64 (l4 + v4))), (0, vr (some l0)), (1, vi l1), (3, vi l3)]) rfl dX1_doTotal_34 rfl (Nat.le_of_ble_eq_true rfl) rfl ?_
        refine go_goto (tgt := 6) dX1_doTotal_37 rfl ?_
        refine go_pick (lv' := [(0, vr (some l0)), (1, vi l1), (3, vi l3), (4, vl (w64 (l4 + v4))), (6, vi (w32 (l6 + 1)))]) [2, 3, 4, 1, 0] rfl ?_
        exact hrc6 _ _ _ _ _ _ E
noncomputable def X1_doTotal (F : Nat)   (l0 : Nat) (l1 : Int) (l2 : Int) (l3 : Int)  (h : HP) : Option (Int × HP) :=
  X1_doTotal_L6 F F l0 l1 l3 0 l2 h
set_option maxRecDepth 100000 in
theorem SX1_doTotal {K : Ctx} {F : Nat} {r : Int} {hf : HP}     (l0 : Nat) (l1 : Int) (l2 : Int) (l3 : Int)  (h : HP) (E : X1_doTotal F   l0 l1 l2 l3 h = some (r, hf)) : Go K MX1_doTotal (QM K (some (vi r)) hf) hf 0 [(0, vr (some l0)), (1, vi l1), (2, vi l2), (3, vi l3)] [] h := by
  unfold X1_doTotal at E
  refine go_lconst (w := 0) (n := 1) rfl dX1_doTotal_0 rfl ?_
  refine go_lstore (n := 3) (lv' := [(4, vl 0), (0, vr (some l0)), (1, vi l1), (2, vi l2), (3, vi l3)]) dX1_doTotal_1 rfl (Nat.le_of_ble_eq_true rfl) rfl ?_
  refine go_iload_n (j := 3) (n := 4) rfl rfl dX1_doTotal_3 rfl ?_
  refine go_istore (n := 6) (lv' := [(6, vi l2), (4, vl 0), (0, vr (some l0)), (1, vi l1), (2, vi l2), (3, vi l3)]) dX1_doTotal_4 rfl (Nat.le_of_ble_eq_true rfl) rfl ?_
  refine go_pick (lv' := [(0, vr (some l0)), (1, vi l1), (3, vi l3), (4, vl 0), (6, vi l2)]) [2, 3, 5, 1, 0] rfl ?_
  exact SX1_doTotal_L6     F _ _ _ _ _ _ E
theorem OX1_doTotal {F : Nat} {l0 : Nat} {l1 : Int} {l2 : Int} {l3 : Int} {h hf : HP} {r : Int} (e : X1_doTotal F l0 l1 l2 l3 h = some (r, hf)) : Ok MX1_doTotal [vr (some l0), vi l1, vi l2, vi l3] (some (vi r)) h hf := fun K _ _ _ => SX1_doTotal l0 l1 l2 l3 h e
abbrev MJ9_floorMod_f86c9 : MI := (RJ9, cJ9_floorMod_f86c9, 6, (some .long), 2, none, "floorMod")
noncomputable def XJ9_floorMod_f86c9 (F : Nat)   (l0 : Int) (l2 : Int)  (h : HP) : Option (Int × HP) :=
  (xd l2).bind fun u1 =>
  some (if 0 ≤ (xcmp (yxor l0 l2) 0) then l0.tmod l2 else if (xcmp (l0.tmod l2) 0) = 0 then l0.tmod l2 else w64 ((l0.tmod l2) + l2), h)
set_option maxRecDepth 100000 in
theorem SXJ9_floorMod_f86c9 {K : Ctx} {F : Nat} {r : Int} {hf : HP}     (l0 : Int) (l2 : Int)  (h : HP) (E : XJ9_floorMod_f86c9 F   l0 l2 h = some (r, hf)) : Go K MJ9_floorMod_f86c9 (QM K (some (vl r)) hf) hf 0 [(0, vl l0), (2, vl l2)] [] h := by
  unfold XJ9_floorMod_f86c9 at E
  refine go_lload_n (j := 0) (n := 1) rfl rfl dJ9_floorMod_f86c9_0 rfl ?_
  refine go_lload_n (j := 1) (n := 2) rfl rfl dJ9_floorMod_f86c9_1 rfl ?_
  replace E := Option.bind_eq_some_iff.mp E; obtain ⟨u1, eu1, E⟩ := E
  refine go_lrem (n := 3) (xd_some eu1) dJ9_floorMod_f86c9_2 rfl ?_
  refine go_lstore (n := 5) (lv' := [(4, vl (l0.tmod l2)), (0, vl l0), (2, vl l2)]) dJ9_floorMod_f86c9_3 rfl (Nat.le_of_ble_eq_true rfl) rfl ?_
  refine go_lload_n (j := 1) (n := 6) rfl rfl dJ9_floorMod_f86c9_5 rfl ?_
  refine go_lload_n (j := 2) (n := 7) rfl rfl dJ9_floorMod_f86c9_6 rfl ?_
  refine go_lxor (n := 8) dJ9_floorMod_f86c9_7 rfl ?_
  refine go_lconst (w := 0) (n := 9) rfl dJ9_floorMod_f86c9_8 rfl ?_
  refine go_lcmp (n := 10) dJ9_floorMod_f86c9_9 rfl ?_
  refine go_if_ge (tgt := 25) (n := 13) dJ9_floorMod_f86c9_10 rfl rfl (fun c2 => ?_) (fun c2 => ?_)
  · simp only [if_pos c2] at E
    refine go_lload (j := 0) (n := 27) rfl dJ9_floorMod_f86c9_25 rfl ?_
    cases E
    exact go_lreturn rfl dJ9_floorMod_f86c9_27
  · simp only [if_neg c2] at E
    refine go_lload (j := 0) (n := 15) rfl dJ9_floorMod_f86c9_13 rfl ?_
    refine go_lconst (w := 0) (n := 16) rfl dJ9_floorMod_f86c9_15 rfl ?_
    refine go_lcmp (n := 17) dJ9_floorMod_f86c9_16 rfl ?_
    refine go_if_eq (tgt := 25) (n := 20) dJ9_floorMod_f86c9_17 rfl rfl (fun c3 => ?_) (fun c3 => ?_)
    · simp only [if_pos c3] at E
      refine go_lload (j := 0) (n := 27) rfl dJ9_floorMod_f86c9_25 rfl ?_
      cases E
      exact go_lreturn rfl dJ9_floorMod_f86c9_27
    · simp only [if_neg c3] at E
      refine go_lload (j := 0) (n := 22) rfl dJ9_floorMod_f86c9_20 rfl ?_
      refine go_lload_n (j := 2) (n := 23) rfl rfl dJ9_floorMod_f86c9_22 rfl ?_
      refine go_ladd (n := 24) dJ9_floorMod_f86c9_23 rfl ?_
      cases E
      exact go_lreturn rfl dJ9_floorMod_f86c9_24
theorem OXJ9_floorMod_f86c9 {F : Nat} {l0 : Int} {l2 : Int} {h hf : HP} {r : Int} (e : XJ9_floorMod_f86c9 F l0 l2 h = some (r, hf)) : Ok MJ9_floorMod_f86c9 [vl l0, vl l2] (some (vl r)) h hf := fun K _ _ _ => SXJ9_floorMod_f86c9 l0 l2 h e
