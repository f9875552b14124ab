/-! the methods, decompiled: written by dec.py -/
theorem fl_RX3_105 : FL RX3 105 2 18 17 false := ⟨RX2, TX2, ci_2, by decide, bw_of 348 (by decide +kernel) rfl, rfl, rfl⟩
abbrev MX3_askedTogether : MI := (RX3, cX3_askedTogether, 3, (some .int), 3, none, "askedTogether")
noncomputable def X3_askedTogether_L4 (F : Nat)   (k : Nat) : Nat → Int → Int → HP → Option (Int × HP) :=
  Nat.rec (motive := fun _ => Nat → Int → Int → HP → Option (Int × HP)) (fun _ _ _ _ => none) (fun _ rc4 l0 l1 l2 h =>
    (xgI h (some l0) 3 7 5).bind fun v1 =>
    if v1 ≤ l2 then
      some (l1, h)
    else
      (xrc h (some l0) 3 7).bind fun a5 =>
      xb (X3_at F a5 l2 h) fun v3 h4 =>
      (xgI h4 v3 2 18 17).bind fun v6 =>
      rc4 l0 (w32 (l1 + v6)) (w32 (l2 + 1)) h4) k
theorem X3_askedTogether_L4_s (F : Nat)   (k : Nat) (l0 : Nat) (l1 : Int) (l2 : Int)  (h : HP) : X3_askedTogether_L4 F   (k + 1) l0 l1 l2 h =
    (xgI h (some l0) 3 7 5).bind fun v1 =>
    if v1 ≤ l2 then
      some (l1, h)
    else
      (xrc h (some l0) 3 7).bind fun a5 =>
      xb (X3_at F a5 l2 h) fun v3 h4 =>
      (xgI h4 v3 2 18 17).bind fun v6 =>
      (X3_askedTogether_L4 F k) l0 (w32 (l1 + v6)) (w32 (l2 + 1)) h4 := rfl
set_option maxRecDepth 100000 in
theorem SX3_askedTogether_L4 {K : Ctx} {F : Nat} {r : Int} {hf : HP}     : ∀ (k : Nat) (l0 : Nat) (l1 : Int) (l2 : Int)  (h : HP), X3_askedTogether_L4 F   k l0 l1 l2 h = some (r, hf) → Go K MX3_askedTogether (QM K (some (vi r)) hf) hf 4 [(0, vr (some l0)), (1, vi l1), (2, vi l2)] [] h := by
  intro k
  induction k with
  | zero => intro l0 l1 l2 h E; exact nomatch E
  | succ k hrc4 =>
    intro l0 l1 l2 h E
    rw [X3_askedTogether_L4_s] at E
    refine go_iload_n (j := 2) (n := 5) rfl rfl dX3_askedTogether_4 rfl ?_
    refine go_aload_n (j := 0) (n := 6) rfl rfl dX3_askedTogether_5 rfl ?_
    replace E := Option.bind_eq_some_iff.mp E; obtain ⟨v1, ev1, E⟩ := E
    refine go_getI (n := 9) ev1 fl_RX3_36 rfl dX3_askedTogether_6 rfl ?_
    refine go_icmp_ge (tgt := 29) (n := 12) dX3_askedTogether_9 rfl rfl (fun c2 => ?_) (fun c2 => ?_)
    · rw [if_pos c2] at E
      refine go_iload_n (j := 1) (n := 30) rfl rfl dX3_askedTogether_29 rfl ?_
      cases E
      exact go_ireturn rfl dX3_askedTogether_30
    · rw [if_neg c2] at E
      refine go_iload_n (j := 1) (n := 13) rfl rfl dX3_askedTogether_12 rfl ?_
      refine go_aload_n (j := 0) (n := 14) rfl rfl dX3_askedTogether_13 rfl ?_
      refine go_iload_n (j := 2) (n := 15) rfl rfl dX3_askedTogether_14 rfl ?_
      replace E := Option.bind_eq_some_iff.mp E; obtain ⟨a5, ea5, E⟩ := E
      obtain ⟨fa5, ga5⟩ := xrc_some ea5
      replace E := xb_some E; obtain ⟨v3, h4, ev3, E⟩ := E
      refine go_callV (y := yX3_at) (n := 18) (st := [vi l1]) (as := [vi l2]) (stk9 := [vr v3, vi l1]) (OX3_at ev3) yw_X3_at ci_3 ga5 wml_RX3_52 wim_X3_at wse_X3_at (Nat.le_of_ble_eq_true rfl) rfl ⟨Nat.le_of_ble_eq_true rfl, Nat.le_of_ble_eq_true rfl⟩ (Nat.le_of_ble_eq_true rfl) dX3_askedTogether_15 rfl (by cases fa5; rfl) rfl ?_
      replace E := Option.bind_eq_some_iff.mp E; obtain ⟨v6, ev6, E⟩ := E
      refine go_getI (n := 21) ev6 fl_RX3_105 rfl dX3_askedTogether_18 rfl ?_
      refine go_iadd (n := 22) dX3_askedTogether_21 rfl ?_
      refine go_istore_n (n := 23) (lv' := [(1, vi (w32 (l1 + v6))), (0, vr (some l0)), (2, vi l2)]) rfl dX3_askedTogether_22 rfl (Nat.le_of_ble_eq_true rfl) rfl ?_
      refine go_iinc (j := 2) (n := 26) (lv' := [(2, vi (w32 (l2 + 1))), (1, vi (w32 (l1 + v6))), (0, vr (some l0))]) rfl dX3_askedTogether_23 rfl (Nat.le_of_ble_eq_true rfl) rfl ?_
      refine go_goto (tgt := 4) dX3_askedTogether_26 rfl ?_
      refine go_pick (lv' := [(0, vr (some l0)), (1, vi (w32 (l1 + v6))), (2, vi (w32 (l2 + 1)))]) [2, 1, 0] rfl ?_
      exact hrc4 _ _ _ _ E
noncomputable def X3_askedTogether (F : Nat)   (l0 : Nat)  (h : HP) : Option (Int × HP) :=
  X3_askedTogether_L4 F F l0 0 0 h
set_option maxRecDepth 100000 in
theorem SX3_askedTogether {K : Ctx} {F : Nat} {r : Int} {hf : HP}     (l0 : Nat)  (h : HP) (E : X3_askedTogether F   l0 h = some (r, hf)) : Go K MX3_askedTogether (QM K (some (vi r)) hf) hf 0 [(0, vr (some l0))] [] h := by
  unfold X3_askedTogether at E
  refine go_iconst (z := 0) (n := 1) ⟨by decide, by decide⟩ dX3_askedTogether_0 rfl ?_
  refine go_istore_n (n := 2) (lv' := [(1, vi 0), (0, vr (some l0))]) rfl dX3_askedTogether_1 rfl (Nat.le_of_ble_eq_true rfl) rfl ?_
  refine go_iconst (z := 0) (n := 3) ⟨by decide, by decide⟩ dX3_askedTogether_2 rfl ?_
  refine go_istore_n (n := 4) (lv' := [(2, vi 0), (1, vi 0), (0, vr (some l0))]) rfl dX3_askedTogether_3 rfl (Nat.le_of_ble_eq_true rfl) rfl ?_
  refine go_pick (lv' := [(0, vr (some l0)), (1, vi 0), (2, vi 0)]) [2, 1, 0] rfl ?_
  exact SX3_askedTogether_L4     F _ _ _ _ E
theorem OX3_askedTogether {F : Nat} {l0 : Nat} {h hf : HP} {r : Int} (e : X3_askedTogether F l0 h = some (r, hf)) : Ok MX3_askedTogether [vr (some l0)] (some (vi r)) h hf := fun K _ _ _ => SX3_askedTogether l0 h e
theorem fl_RX3_108 : FL RX3 108 2 18 16 false := ⟨RX2, TX2, ci_2, by decide, bw_of 345 (by decide +kernel) rfl, rfl, rfl⟩
abbrev MX3_failedTogether : MI := (RX3, cX3_failedTogether, 3, (some .int), 3, none, "failedTogether")
noncomputable def X3_failedTogether_L4 (F : Nat)   (k : Nat) : Nat → Int → Int → HP → Option (Int × HP) :=
  Nat.rec (motive := fun _ => Nat → Int → Int → HP → Option (Int × HP)) (fun _ _ _ _ => none) (fun _ rc4 l0 l1 l2 h =>
    (xgI h (some l0) 3 7 5).bind fun v1 =>
    if v1 ≤ l2 then
      some (l1, h)
    else
      (xrc h (some l0) 3 7).bind fun a5 =>
      xb (X3_at F a5 l2 h) fun v3 h4 =>
      (xgI h4 v3 2 18 16).bind fun v6 =>
      rc4 l0 (w32 (l1 + v6)) (w32 (l2 + 1)) h4) k
theorem X3_failedTogether_L4_s (F : Nat)   (k : Nat) (l0 : Nat) (l1 : Int) (l2 : Int)  (h : HP) : X3_failedTogether_L4 F   (k + 1) l0 l1 l2 h =
    (xgI h (some l0) 3 7 5).bind fun v1 =>
    if v1 ≤ l2 then
      some (l1, h)
    else
      (xrc h (some l0) 3 7).bind fun a5 =>
      xb (X3_at F a5 l2 h) fun v3 h4 =>
      (xgI h4 v3 2 18 16).bind fun v6 =>
      (X3_failedTogether_L4 F k) l0 (w32 (l1 + v6)) (w32 (l2 + 1)) h4 := rfl
set_option maxRecDepth 100000 in
theorem SX3_failedTogether_L4 {K : Ctx} {F : Nat} {r : Int} {hf : HP}     : ∀ (k : Nat) (l0 : Nat) (l1 : Int) (l2 : Int)  (h : HP), X3_failedTogether_L4 F   k l0 l1 l2 h = some (r, hf) → Go K MX3_failedTogether (QM K (some (vi r)) hf) hf 4 [(0, vr (some l0)), (1, vi l1), (2, vi l2)] [] h := by
  intro k
  induction k with
  | zero => intro l0 l1 l2 h E; exact nomatch E
  | succ k hrc4 =>
    intro l0 l1 l2 h E
    rw [X3_failedTogether_L4_s] at E
    refine go_iload_n (j := 2) (n := 5) rfl rfl dX3_failedTogether_4 rfl ?_
    refine go_aload_n (j := 0) (n := 6) rfl rfl dX3_failedTogether_5 rfl ?_
    replace E := Option.bind_eq_some_iff.mp E; obtain ⟨v1, ev1, E⟩ := E
    refine go_getI (n := 9) ev1 fl_RX3_36 rfl dX3_failedTogether_6 rfl ?_
    refine go_icmp_ge (tgt := 29) (n := 12) dX3_failedTogether_9 rfl rfl (fun c2 => ?_) (fun c2 => ?_)
    · rw [if_pos c2] at E
      refine go_iload_n (j := 1) (n := 30) rfl rfl dX3_failedTogether_29 rfl ?_
      cases E
      exact go_ireturn rfl dX3_failedTogether_30
    · rw [if_neg c2] at E
      refine go_iload_n (j := 1) (n := 13) rfl rfl dX3_failedTogether_12 rfl ?_
      refine go_aload_n (j := 0) (n := 14) rfl rfl dX3_failedTogether_13 rfl ?_
      refine go_iload_n (j := 2) (n := 15) rfl rfl dX3_failedTogether_14 rfl ?_
      replace E := Option.bind_eq_some_iff.mp E; obtain ⟨a5, ea5, E⟩ := E
      obtain ⟨fa5, ga5⟩ := xrc_some ea5
      replace E := xb_some E; obtain ⟨v3, h4, ev3, E⟩ := E
      refine go_callV (y := yX3_at) (n := 18) (st := [vi l1]) (as := [vi l2]) (stk9 := [vr v3, vi l1]) (OX3_at ev3) yw_X3_at ci_3 ga5 wml_RX3_52 wim_X3_at wse_X3_at (Nat.le_of_ble_eq_true rfl) rfl ⟨Nat.le_of_ble_eq_true rfl, Nat.le_of_ble_eq_true rfl⟩ (Nat.le_of_ble_eq_true rfl) dX3_failedTogether_15 rfl (by cases fa5; rfl) rfl ?_
      replace E := Option.bind_eq_some_iff.mp E; obtain ⟨v6, ev6, E⟩ := E
      refine go_getI (n := 21) ev6 fl_RX3_108 rfl dX3_failedTogether_18 rfl ?_
      refine go_iadd (n := 22) dX3_failedTogether_21 rfl ?_
      refine go_istore_n (n := 23) (lv' := [(1, vi (w32 (l1 + v6))), (0, vr (some l0)), (2, vi l2)]) rfl dX3_failedTogether_22 rfl (Nat.le_of_ble_eq_true rfl) rfl ?_
      refine go_iinc (j := 2) (n := 26) (lv' := [(2, vi (w32 (l2 + 1))), (1, vi (w32 (l1 + v6))), (0, vr (some l0))]) rfl dX3_failedTogether_23 rfl (Nat.le_of_ble_eq_true rfl) rfl ?_
      refine go_goto (tgt := 4) dX3_failedTogether_26 rfl ?_
      refine go_pick (lv' := [(0, vr (some l0)), (1, vi (w32 (l1 + v6))), (2, vi (w32 (l2 + 1)))]) [2, 1, 0] rfl ?_
      exact hrc4 _ _ _ _ E
noncomputable def X3_failedTogether (F : Nat)   (l0 : Nat)  (h : HP) : Option (Int × HP) :=
  X3_failedTogether_L4 F F l0 0 0 h
set_option maxRecDepth 100000 in
theorem SX3_failedTogether {K : Ctx} {F : Nat} {r : Int} {hf : HP}     (l0 : Nat)  (h : HP) (E : X3_failedTogether F   l0 h = some (r, hf)) : Go K MX3_failedTogether (QM K (some (vi r)) hf) hf 0 [(0, vr (some l0))] [] h := by
  unfold X3_failedTogether at E
  refine go_iconst (z := 0) (n := 1) ⟨by decide, by decide⟩ dX3_failedTogether_0 rfl ?_
  refine go_istore_n (n := 2) (lv' := [(1, vi 0), (0, vr (some l0))]) rfl dX3_failedTogether_1 rfl (Nat.le_of_ble_eq_true rfl) rfl ?_
  refine go_iconst (z := 0) (n := 3) ⟨by decide, by decide⟩ dX3_failedTogether_2 rfl ?_
  refine go_istore_n (n := 4) (lv' := [(2, vi 0), (1, vi 0), (0, vr (some l0))]) rfl dX3_failedTogether_3 rfl (Nat.le_of_ble_eq_true rfl) rfl ?_
  refine go_pick (lv' := [(0, vr (some l0)), (1, vi 0), (2, vi 0)]) [2, 1, 0] rfl ?_
  exact SX3_failedTogether_L4     F _ _ _ _ E
theorem OX3_failedTogether {F : Nat} {l0 : Nat} {h hf : HP} {r : Int} (e : X3_failedTogether F l0 h = some (r, hf)) : Ok MX3_failedTogether [vr (some l0)] (some (vi r)) h hf := fun K _ _ _ => SX3_failedTogether l0 h e
theorem fl_RX11_178 : FL RX11 178 4 12 6 false := ⟨RX4, TX4, ci_4, by decide, bw_of 528 (by decide +kernel) rfl, rfl, rfl⟩
theorem fl_RX11_307 : FL RX11 307 7 10 7 false := ⟨RX7, TX7, ci_7, by decide, bw_of 240 (by decide +kernel) rfl, rfl, rfl⟩
theorem fl_RX11_167 : FL RX11 167 4 12 9 false := ⟨RX4, TX4, ci_4, by decide, bw_of 534 (by decide +kernel) rfl, rfl, rfl⟩
theorem fl_RX11_323 : FL RX11 323 4 12 10 false := ⟨RX4, TX4, ci_4, by decide, bw_of 536 (by decide +kernel) rfl, rfl, rfl⟩
theorem yw_X3_waiting : YW yX3_waiting cX3_waiting 3 (some .int) 0 := ⟨bw_of 865 (by decide +kernel) rfl, bw_of 122 (by decide +kernel) rfl, ⟨by decide +kernel, by decide +kernel, by decide +kernel⟩, by decide +kernel⟩
theorem wml_RX11_326 : Cond.methodLink RX11 326 yX3_waiting ∈ BW := bw_of 862 (by decide +kernel) rfl
theorem wim_X3_waiting : Cond.instanceMethod yX3_waiting ∈ BW := bw_of 863 (by decide +kernel) rfl
theorem wse_X3_waiting : Cond.selects RX3 yX3_waiting yX3_waiting ∈ BW := bw_of 864 (by decide +kernel) rfl
theorem fl_RX11_329 : FL RX11 329 4 12 11 false := ⟨RX4, TX4, ci_4, by decide, bw_of 538 (by decide +kernel) rfl, rfl, rfl⟩
theorem yw_X3_askedTogether : YW yX3_askedTogether cX3_askedTogether 3 (some .int) 0 := ⟨bw_of 869 (by decide +kernel) rfl, bw_of 122 (by decide +kernel) rfl, ⟨by decide +kernel, by decide +kernel, by decide +kernel⟩, by decide +kernel⟩
theorem wml_RX11_332 : Cond.methodLink RX11 332 yX3_askedTogether ∈ BW := bw_of 866 (by decide +kernel) rfl
theorem wim_X3_askedTogether : Cond.instanceMethod yX3_askedTogether ∈ BW := bw_of 867 (by decide +kernel) rfl
theorem wse_X3_askedTogether : Cond.selects RX3 yX3_askedTogether yX3_askedTogether ∈ BW := bw_of 868 (by decide +kernel) rfl
theorem yw_X3_failedTogether : YW yX3_failedTogether cX3_failedTogether 3 (some .int) 0 := ⟨bw_of 873 (by decide +kernel) rfl, bw_of 122 (by decide +kernel) rfl, ⟨by decide +kernel, by decide +kernel, by decide +kernel⟩, by decide +kernel⟩
theorem wml_RX11_335 : Cond.methodLink RX11 335 yX3_failedTogether ∈ BW := bw_of 870 (by decide +kernel) rfl
theorem wim_X3_failedTogether : Cond.instanceMethod yX3_failedTogether ∈ BW := bw_of 871 (by decide +kernel) rfl
theorem wse_X3_failedTogether : Cond.selects RX3 yX3_failedTogether yX3_failedTogether ∈ BW := bw_of 872 (by decide +kernel) rfl
theorem fl_RX11_211 : FL RX11 211 4 12 3 true := ⟨RX4, TX4, ci_4, by decide, bw_of 522 (by decide +kernel) rfl, rfl, rfl⟩
theorem fl_RX11_338 : FL RX11 338 10 10 4 false := ⟨RX10, TX10, ci_10, by decide, bw_of 421 (by decide +kernel) rfl, rfl, rfl⟩
theorem fl_RX11_339 : FL RX11 339 7 10 8 false := ⟨RX7, TX7, ci_7, by decide, bw_of 242 (by decide +kernel) rfl, rfl, rfl⟩
abbrev MX11_count : MI := (RX11, cX11_count, 2, (some .int), 4, none, "count")
noncomputable def X11_count (F : Nat)   (l0 : Nat) (l1 : Int)  (h : HP) : Option (Int × HP) :=
  if l1 = 0 then
    (xgP h (some l0) 11 6 2).bind fun v1 =>
    (xgI h v1 4 12 6).bind fun v2 =>
    some (v2, h)
  else
    if l1 = 1 then
      (xgP h (some l0) 11 6 2).bind fun v3 =>
      (xgP h v3 4 12 2).bind fun v4 =>
      (xgI h v4 3 7 5).bind fun v5 =>
      some (v5, h)
    else
      if l1 = 2 then
        (xgP h (some l0) 11 6 2).bind fun v6 =>
        (xgP h v6 4 12 1).bind fun v7 =>
        (xgI h v7 7 10 7).bind fun v8 =>
        some (v8, h)
      else
        if l1 = 3 then
          (xgP h (some l0) 11 6 2).bind fun v9 =>
          (xgI h v9 4 12 9).bind fun v10 =>
          some (v10, h)
        else
          if l1 = 4 then
            (xgP h (some l0) 11 6 2).bind fun v11 =>
            (xgI h v11 4 12 10).bind fun v12 =>
            some (v12, h)
          else
            if l1 = 5 then
              (xgP h (some l0) 11 6 2).bind fun v13 =>
              (xgP h v13 4 12 2).bind fun v14 =>
              (xrc h v14 3 7).bind fun a17 =>
              xb (X3_waiting F a17 h) fun v15 h16 =>
              some (v15, h16)
            else
              if l1 = 6 then
                (xgP h (some l0) 11 6 2).bind fun v18 =>
                (xgI h v18 4 12 11).bind fun v19 =>
                some (v19, h)
              else
                if l1 = 7 then
                  (xgP h (some l0) 11 6 2).bind fun v20 =>
                  (xgP h v20 4 12 2).bind fun v21 =>
                  (xrc h v21 3 7).bind fun a24 =>
                  xb (X3_askedTogether F a24 h) fun v22 h23 =>
                  some (v22, h23)
                else
                  if l1 = 8 then
                    (xgP h (some l0) 11 6 2).bind fun v25 =>
                    (xgP h v25 4 12 2).bind fun v26 =>
                    (xrc h v26 3 7).bind fun a29 =>
                    xb (X3_failedTogether F a29 h) fun v27 h28 =>
                    some (v27, h28)
                  else
                    if l1 = 9 then
                      (xgP h (some l0) 11 6 2).bind fun v30 =>
                      (xgP h v30 4 12 5).bind fun v31 =>
                      (xgI h v31 5 6 4).bind fun v32 =>
                      some (v32, h)
                    else
                      if l1 = 10 then
                        (xgP h (some l0) 11 6 2).bind fun v33 =>
                        (xgP h v33 4 12 5).bind fun v34 =>
                        (xgI h v34 5 6 5).bind fun v35 =>
                        some (if v35 = 0 then 0 else 1, h)
                      else
                        if l1 = 11 then
                          (xgP h (some l0) 11 6 2).bind fun v37 =>
                          (xgP h v37 4 12 3).bind fun v38 =>
                          (xgI h v38 10 10 4).bind fun v39 =>
                          some (v39, h)
                        else
                          if l1 = 12 then
                            (xgP h (some l0) 11 6 2).bind fun v40 =>
                            (xgP h v40 4 12 1).bind fun v41 =>
                            (xgI h v41 7 10 8).bind fun v42 =>
                            some (v42, h)
                          else
                            some ((-1), h)
set_option maxRecDepth 100000 in
theorem SX11_count {K : Ctx} {F : Nat} {r : Int} {hf : HP}     (l0 : Nat) (l1 : Int)  (h : HP) (E : X11_count F   l0 l1 h = some (r, hf)) : Go K MX11_count (QM K (some (vi r)) hf) hf 0 [(0, vr (some l0)), (1, vi l1)] [] h := by
  unfold X11_count at E
  refine go_iload_n (j := 1) (n := 1) rfl rfl dX11_count_0 rfl ?_
  by_cases c43 : l1 = 0
  · rw [if_pos c43] at E
    refine go_tableIn (tgt := 68) dX11_count_1 (by omega) (by omega) (by rw [c43]; rfl) rfl ?_
    refine go_aload_n (j := 0) (n := 69) rfl rfl dX11_count_68 rfl ?_
    replace E := Option.bind_eq_some_iff.mp E; obtain ⟨v1, ev1, E⟩ := E
    refine go_getP (n := 72) ev1 fl_RX11_23 rfl dX11_count_69 rfl ?_
    replace E := Option.bind_eq_some_iff.mp E; obtain ⟨v2, ev2, E⟩ := E
    refine go_getI (n := 75) ev2 fl_RX11_178 rfl dX11_count_72 rfl ?_
    cases E
    exact go_ireturn rfl dX11_count_75
  rw [if_neg c43] at E
  by_cases c44 : l1 = 1
  · rw [if_pos c44] at E
    refine go_tableIn (tgt := 76) dX11_count_1 (by omega) (by omega) (by rw [c44]; rfl) rfl ?_
    refine go_aload_n (j := 0) (n := 77) rfl rfl dX11_count_76 rfl ?_
    replace E := Option.bind_eq_some_iff.mp E; obtain ⟨v3, ev3, E⟩ := E
    refine go_getP (n := 80) ev3 fl_RX11_23 rfl dX11_count_77 rfl ?_
    replace E := Option.bind_eq_some_iff.mp E; obtain ⟨v4, ev4, E⟩ := E
    refine go_getP (n := 83) ev4 fl_RX11_101 rfl dX11_count_80 rfl ?_
    replace E := Option.bind_eq_some_iff.mp E; obtain ⟨v5, ev5, E⟩ := E
    refine go_getI (n := 86) ev5 fl_RX11_105 rfl dX11_count_83 rfl ?_
    cases E
    exact go_ireturn rfl dX11_count_86
  rw [if_neg c44] at E
  by_cases c45 : l1 = 2
  · rw [if_pos c45] at E
    refine go_tableIn (tgt := 87) dX11_count_1 (by omega) (by omega) (by rw [c45]; rfl) rfl ?_
    refine go_aload_n (j := 0) (n := 88) rfl rfl dX11_count_87 rfl ?_
    replace E := Option.bind_eq_some_iff.mp E; obtain ⟨v6, ev6, E⟩ := E
    refine go_getP (n := 91) ev6 fl_RX11_23 rfl dX11_count_88 rfl ?_
    replace E := Option.bind_eq_some_iff.mp E; obtain ⟨v7, ev7, E⟩ := E
    refine go_getP (n := 94) ev7 fl_RX11_60 rfl dX11_count_91 rfl ?_
    replace E := Option.bind_eq_some_iff.mp E; obtain ⟨v8, ev8, E⟩ := E
    refine go_getI (n := 97) ev8 fl_RX11_307 rfl dX11_count_94 rfl ?_
    cases E
    exact go_ireturn rfl dX11_count_97
  rw [if_neg c45] at E
  by_cases c46 : l1 = 3
  · rw [if_pos c46] at E
    refine go_tableIn (tgt := 98) dX11_count_1 (by omega) (by omega) (by rw [c46]; rfl) rfl ?_
    refine go_aload_n (j := 0) (n := 99) rfl rfl dX11_count_98 rfl ?_
    replace E := Option.bind_eq_some_iff.mp E; obtain ⟨v9, ev9, E⟩ := E
    refine go_getP (n := 102) ev9 fl_RX11_23 rfl dX11_count_99 rfl ?_
    replace E := Option.bind_eq_some_iff.mp E; obtain ⟨v10, ev10, E⟩ := E
    refine go_getI (n := 105) ev10 fl_RX11_167 rfl dX11_count_102 rfl ?_
    cases E
    exact go_ireturn rfl dX11_count_105
  rw [if_neg c46] at E
  by_cases c47 : l1 = 4
  · rw [if_pos c47] at E
    refine go_tableIn (tgt := 106) dX11_count_1 (by omega) (by omega) (by rw [c47]; rfl) rfl ?_
    refine go_aload_n (j := 0) (n := 107) rfl rfl dX11_count_106 rfl ?_
    replace E := Option.bind_eq_some_iff.mp E; obtain ⟨v11, ev11, E⟩ := E
    refine go_getP (n := 110) ev11 fl_RX11_23 rfl dX11_count_107 rfl ?_
    replace E := Option.bind_eq_some_iff.mp E; obtain ⟨v12, ev12, E⟩ := E
    refine go_getI (n := 113) ev12 fl_RX11_323 rfl dX11_count_110 rfl ?_
    cases E
    exact go_ireturn rfl dX11_count_113
  rw [if_neg c47] at E
  by_cases c48 : l1 = 5
  · rw [if_pos c48] at E
    refine go_tableIn (tgt := 114) dX11_count_1 (by omega) (by omega) (by rw [c48]; rfl) rfl ?_
    refine go_aload_n (j := 0) (n := 115) rfl rfl dX11_count_114 rfl ?_
    replace E := Option.bind_eq_some_iff.mp E; obtain ⟨v13, ev13, E⟩ := E
    refine go_getP (n := 118) ev13 fl_RX11_23 rfl dX11_count_115 rfl ?_
    replace E := Option.bind_eq_some_iff.mp E; obtain ⟨v14, ev14, E⟩ := E
    refine go_getP (n := 121) ev14 fl_RX11_101 rfl dX11_count_118 rfl ?_
    replace E := Option.bind_eq_some_iff.mp E; obtain ⟨a17, ea17, E⟩ := E
    obtain ⟨fa17, ga17⟩ := xrc_some ea17
    replace E := xb_some E; obtain ⟨v15, h16, ev15, E⟩ := E
    refine go_callV (y := yX3_waiting) (n := 124) (st := []) (as := []) (stk9 := [vi v15]) (OX3_waiting ev15) yw_X3_waiting ci_3 ga17 wml_RX11_326 wim_X3_waiting wse_X3_waiting (Nat.le_of_ble_eq_true rfl) rfl ⟨Nat.le_of_ble_eq_true rfl, Nat.le_of_ble_eq_true rfl⟩ (Nat.le_of_ble_eq_true rfl) dX11_count_121 rfl (by cases fa17; rfl) rfl ?_
    cases E
    exact go_ireturn rfl dX11_count_124
  rw [if_neg c48] at E
  by_cases c49 : l1 = 6
  · rw [if_pos c49] at E
    refine go_tableIn (tgt := 125) dX11_count_1 (by omega) (by omega) (by rw [c49]; rfl) rfl ?_
    refine go_aload_n (j := 0) (n := 126) rfl rfl dX11_count_125 rfl ?_
    replace E := Option.bind_eq_some_iff.mp E; obtain ⟨v18, ev18, E⟩ := E
    refine go_getP (n := 129) ev18 fl_RX11_23 rfl dX11_count_126 rfl ?_
    replace E := Option.bind_eq_some_iff.mp E; obtain ⟨v19, ev19, E⟩ := E
    refine go_getI (n := 132) ev19 fl_RX11_329 rfl dX11_count_129 rfl ?_
    cases E
    exact go_ireturn rfl dX11_count_132
  rw [if_neg c49] at E
  by_cases c50 : l1 = 7
  · rw [if_pos c50] at E
    refine go_tableIn (tgt := 133) dX11_count_1 (by omega) (by omega) (by rw [c50]; rfl) rfl ?_
    refine go_aload_n (j := 0) (n := 134) rfl rfl dX11_count_133 rfl ?_
    replace E := Option.bind_eq_some_iff.mp E; obtain ⟨v20, ev20, E⟩ := E
    refine go_getP (n := 137) ev20 fl_RX11_23 rfl dX11_count_134 rfl ?_
    replace E := Option.bind_eq_some_iff.mp E; obtain ⟨v21, ev21, E⟩ := E
    refine go_getP (n := 140) ev21 fl_RX11_101 rfl dX11_count_137 rfl ?_
    replace E := Option.bind_eq_some_iff.mp E; obtain ⟨a24, ea24, E⟩ := E
    obtain ⟨fa24, ga24⟩ := xrc_some ea24
    replace E := xb_some E; obtain ⟨v22, h23, ev22, E⟩ := E
    refine go_callV (y := yX3_askedTogether) (n := 143) (st := []) (as := []) (stk9 := [vi v22]) (OX3_askedTogether ev22) yw_X3_askedTogether ci_3 ga24 wml_RX11_332 wim_X3_askedTogether wse_X3_askedTogether (Nat.le_of_ble_eq_true rfl) rfl ⟨Nat.le_of_ble_eq_true rfl, Nat.le_of_ble_eq_true rfl⟩ (Nat.le_of_ble_eq_true rfl) dX11_count_140 rfl (by cases fa24; rfl) rfl ?_
    cases E
    exact go_ireturn rfl dX11_count_143
  rw [if_neg c50] at E
  by_cases c51 : l1 = 8
  · rw [if_pos c51] at E
    refine go_tableIn (tgt := 144) dX11_count_1 (by omega) (by omega) (by rw [c51]; rfl) rfl ?_
    refine go_aload_n (j := 0) (n := 145) rfl rfl dX11_count_144 rfl ?_
    replace E := Option.bind_eq_some_iff.mp E; obtain ⟨v25, ev25, E⟩ := E
    refine go_getP (n := 148) ev25 fl_RX11_23 rfl dX11_count_145 rfl ?_
    replace E := Option.bind_eq_some_iff.mp E; obtain ⟨v26, ev26, E⟩ := E
    refine go_getP (n := 151) ev26 fl_RX11_101 rfl dX11_count_148 rfl ?_
    replace E := Option.bind_eq_some_iff.mp E; obtain ⟨a29, ea29, E⟩ := E
    obtain ⟨fa29, ga29⟩ := xrc_some ea29
    replace E := xb_some E; obtain ⟨v27, h28, ev27, E⟩ := E
    refine go_callV (y := yX3_failedTogether) (n := 154) (st := []) (as := []) (stk9 := [vi v27]) (OX3_failedTogether ev27) yw_X3_failedTogether ci_3 ga29 wml_RX11_335 wim_X3_failedTogether wse_X3_failedTogether (Nat.le_of_ble_eq_true rfl) rfl ⟨Nat.le_of_ble_eq_true rfl, Nat.le_of_ble_eq_true rfl⟩ (Nat.le_of_ble_eq_true rfl) dX11_count_151 rfl (by cases fa29; rfl) rfl ?_
    cases E
    exact go_ireturn rfl dX11_count_154
  rw [if_neg c51] at E
  by_cases c52 : l1 = 9
  · rw [if_pos c52] at E
    refine go_tableIn (tgt := 155) dX11_count_1 (by omega) (by omega) (by rw [c52]; rfl) rfl ?_
    refine go_aload_n (j := 0) (n := 156) rfl rfl dX11_count_155 rfl ?_
    replace E := Option.bind_eq_some_iff.mp E; obtain ⟨v30, ev30, E⟩ := E
    refine go_getP (n := 159) ev30 fl_RX11_23 rfl dX11_count_156 rfl ?_
    replace E := Option.bind_eq_some_iff.mp E; obtain ⟨v31, ev31, E⟩ := E
    refine go_getP (n := 162) ev31 fl_RX11_256 rfl dX11_count_159 rfl ?_
    replace E := Option.bind_eq_some_iff.mp E; obtain ⟨v32, ev32, E⟩ := E
    refine go_getI (n := 165) ev32 fl_RX11_260 rfl dX11_count_162 rfl ?_
    cases E
    exact go_ireturn rfl dX11_count_165
  rw [if_neg c52] at E
  by_cases c53 : l1 = 10
  · rw [if_pos c53] at E
    refine go_tableIn (tgt := 166) dX11_count_1 (by omega) (by omega) (by rw [c53]; rfl) rfl ?_
    refine go_aload_n (j := 0) (n := 167) rfl rfl dX11_count_166 rfl ?_
    replace E := Option.bind_eq_some_iff.mp E; obtain ⟨v33, ev33, E⟩ := E
    refine go_getP (n := 170) ev33 fl_RX11_23 rfl dX11_count_167 rfl ?_
    replace E := Option.bind_eq_some_iff.mp E; obtain ⟨v34, ev34, E⟩ := E
    refine go_getP (n := 173) ev34 fl_RX11_256 rfl dX11_count_170 rfl ?_
    replace E := Option.bind_eq_some_iff.mp E; obtain ⟨v35, ev35, E⟩ := E
    refine go_getI (n := 176) ev35 fl_RX11_268 rfl dX11_count_173 rfl ?_
    refine go_if_eq (tgt := 183) (n := 179) dX11_count_176 rfl rfl (fun c36 => ?_) (fun c36 => ?_)
    · simp only [if_pos c36] at E
      refine go_iconst (z := 0) (n := 184) ⟨by decide, by decide⟩ dX11_count_183 rfl ?_
      cases E
      exact go_ireturn rfl dX11_count_184
    · simp only [if_neg c36] at E
      refine go_iconst (z := 1) (n := 180) ⟨by decide, by decide⟩ dX11_count_179 rfl ?_
      refine go_goto (tgt := 184) dX11_count_180 rfl ?_
      cases E
      exact go_ireturn rfl dX11_count_184
  rw [if_neg c53] at E
  by_cases c54 : l1 = 11
  · rw [if_pos c54] at E
    refine go_tableIn (tgt := 185) dX11_count_1 (by omega) (by omega) (by rw [c54]; rfl) rfl ?_
    refine go_aload_n (j := 0) (n := 186) rfl rfl dX11_count_185 rfl ?_
    replace E := Option.bind_eq_some_iff.mp E; obtain ⟨v37, ev37, E⟩ := E
    refine go_getP (n := 189) ev37 fl_RX11_23 rfl dX11_count_186 rfl ?_
    replace E := Option.bind_eq_some_iff.mp E; obtain ⟨v38, ev38, E⟩ := E
    refine go_getP (n := 192) ev38 fl_RX11_211 rfl dX11_count_189 rfl ?_
    replace E := Option.bind_eq_some_iff.mp E; obtain ⟨v39, ev39, E⟩ := E
    refine go_getI (n := 195) ev39 fl_RX11_338 rfl dX11_count_192 rfl ?_
    cases E
    exact go_ireturn rfl dX11_count_195
  rw [if_neg c54] at E
  by_cases c55 : l1 = 12
  · rw [if_pos c55] at E
    refine go_tableIn (tgt := 196) dX11_count_1 (by omega) (by omega) (by rw [c55]; rfl) rfl ?_
    refine go_aload_n (j := 0) (n := 197) rfl rfl dX11_count_196 rfl ?_
    replace E := Option.bind_eq_some_iff.mp E; obtain ⟨v40, ev40, E⟩ := E
    refine go_getP (n := 200) ev40 fl_RX11_23 rfl dX11_count_197 rfl ?_
    replace E := Option.bind_eq_some_iff.mp E; obtain ⟨v41, ev41, E⟩ := E
    refine go_getP (n := 203) ev41 fl_RX11_60 rfl dX11_count_200 rfl ?_
    replace E := Option.bind_eq_some_iff.mp E; obtain ⟨v42, ev42, E⟩ := E
    refine go_getI (n := 206) ev42 fl_RX11_339 rfl dX11_count_203 rfl ?_
    cases E
    exact go_ireturn rfl dX11_count_206
  rw [if_neg c55] at E
  refine go_tableOut (tgt := 207) dX11_count_1 (by omega) rfl ?_
  refine go_iconst (z := (-1)) (n := 208) ⟨by decide, by decide⟩ dX11_count_207 rfl ?_
  cases E
  exact go_ireturn rfl dX11_count_208
theorem OX11_count {F : Nat} {l0 : Nat} {l1 : Int} {h hf : HP} {r : Int} (e : X11_count F l0 l1 h = some (r, hf)) : Ok MX11_count [vr (some l0), vi l1] (some (vi r)) h hf := fun K _ _ _ => SX11_count l0 l1 h e
theorem fl_RX11_48 : FL RX11 48 4 12 7 false := ⟨RX4, TX4, ci_4, by decide, bw_of 529 (by decide +kernel) rfl, rfl, rfl⟩
theorem fl_RX11_51 : FL RX11 51 4 12 8 false := ⟨RX4, TX4, ci_4, by decide, bw_of 531 (by decide +kernel) rfl, rfl, rfl⟩
abbrev MX11_day : MI := (RX11, cX11_day, 3, none, 13, some [], "day")
noncomputable def X11_day (F : Nat)   (l0 : Nat) (l1 : Int) (l2 : Int)  (h : HP) : Option ((String ⊕ Unit) × HP) :=
  xth (X11_needNumber F l1 0 6 h) fun v1 h2 =>
  xth (X11_needNumber F l2 0 9 h2) fun v3 h4 =>
  (xgP h4 (some l0) 11 6 2).bind fun v5 =>
  (xpI h4 v5 4 12 7 l1).bind fun h6 =>
  (xgP h6 (some l0) 11 6 2).bind fun v7 =>
  (xpI h6 v7 4 12 8 l2).bind fun h8 =>
  some (.inr (), h8)
set_option maxRecDepth 100000 in
theorem SX11_day {K : Ctx} {F : Nat} {r : String ⊕ Unit} {hf : HP}     (l0 : Nat) (l1 : Int) (l2 : Int)  (h : HP) (E : X11_day F   l0 l1 l2 h = some (r, hf)) : Go K MX11_day (QMX K (rU r) hf) hf 0 [(0, vr (some l0)), (1, vi l1), (2, vi l2)] [] h := by
  unfold X11_day at E
  refine go_iload_n (j := 1) (n := 1) rfl rfl dX11_day_0 rfl ?_
  refine go_iconst (z := 0) (n := 2) ⟨by decide, by decide⟩ dX11_day_1 rfl ?_
  refine go_bipush (z := 6) (n := 4) ⟨by decide, by decide⟩ dX11_day_2 rfl ?_
  replace E := xth_some E; rcases E with ⟨x10, ev1, rfl⟩ | ⟨v1, h2, ev1, E⟩
  · exact go_callXSt (y := yX11_needNumber) (as := [vi l1, vi 0, vi 6]) (st := []) (OXX11_needNumber ev1) yw_X11_needNumber wml_RX11_44 wst_X11_needNumber (Nat.le_of_ble_eq_true rfl) rfl ⟨Nat.le_of_ble_eq_true rfl, Nat.le_of_ble_eq_true rfl⟩ (Nat.le_of_ble_eq_true rfl) dX11_day_4 rfl rfl
  refine go_callXSr (y := yX11_needNumber) (n := 7) (st := []) (as := [vi l1, vi 0, vi 6]) (stk9 := []) (OXX11_needNumber ev1) yw_X11_needNumber wml_RX11_44 wst_X11_needNumber (Nat.le_of_ble_eq_true rfl) rfl ⟨Nat.le_of_ble_eq_true rfl, Nat.le_of_ble_eq_true rfl⟩ (Nat.le_of_ble_eq_true rfl) dX11_day_4 rfl rfl rfl ?_
  refine go_iload_n (j := 2) (n := 8) rfl rfl dX11_day_7 rfl ?_
  refine go_iconst (z := 0) (n := 9) ⟨by decide, by decide⟩ dX11_day_8 rfl ?_
  refine go_bipush (z := 9) (n := 11) ⟨by decide, by decide⟩ dX11_day_9 rfl ?_
  replace E := xth_some E; rcases E with ⟨x9, ev3, rfl⟩ | ⟨v3, h4, ev3, E⟩
  · exact go_callXSt (y := yX11_needNumber) (as := [vi l2, vi 0, vi 9]) (st := []) (OXX11_needNumber ev3) yw_X11_needNumber wml_RX11_44 wst_X11_needNumber (Nat.le_of_ble_eq_true rfl) rfl ⟨Nat.le_of_ble_eq_true rfl, Nat.le_of_ble_eq_true rfl⟩ (Nat.le_of_ble_eq_true rfl) dX11_day_11 rfl rfl
  refine go_callXSr (y := yX11_needNumber) (n := 14) (st := []) (as := [vi l2, vi 0, vi 9]) (stk9 := []) (OXX11_needNumber ev3) yw_X11_needNumber wml_RX11_44 wst_X11_needNumber (Nat.le_of_ble_eq_true rfl) rfl ⟨Nat.le_of_ble_eq_true rfl, Nat.le_of_ble_eq_true rfl⟩ (Nat.le_of_ble_eq_true rfl) dX11_day_11 rfl rfl rfl ?_
  refine go_aload_n (j := 0) (n := 15) rfl rfl dX11_day_14 rfl ?_
  replace E := Option.bind_eq_some_iff.mp E; obtain ⟨v5, ev5, E⟩ := E
  refine go_getP (n := 18) ev5 fl_RX11_23 rfl dX11_day_15 rfl ?_
  refine go_iload_n (j := 1) (n := 19) rfl rfl dX11_day_18 rfl ?_
  replace E := Option.bind_eq_some_iff.mp E; obtain ⟨h6, eh6, E⟩ := E
  refine go_putI (n := 22) eh6 fl_RX11_48 rfl dX11_day_19 rfl ?_
  refine go_aload_n (j := 0) (n := 23) rfl rfl dX11_day_22 rfl ?_
  replace E := Option.bind_eq_some_iff.mp E; obtain ⟨v7, ev7, E⟩ := E
  refine go_getP (n := 26) ev7 fl_RX11_23 rfl dX11_day_23 rfl ?_
  refine go_iload_n (j := 2) (n := 27) rfl rfl dX11_day_26 rfl ?_
  replace E := Option.bind_eq_some_iff.mp E; obtain ⟨h8, eh8, E⟩ := E
  refine go_putI (n := 30) eh8 fl_RX11_51 rfl dX11_day_27 rfl ?_
  cases E
  exact go_ret (go_return rfl dX11_day_30)
theorem OXX11_day {F : Nat} {l0 : Nat} {l1 : Int} {l2 : Int} {h hf : HP} {r : String ⊕ Unit} (e : X11_day F l0 l1 l2 h = some (r, hf)) : OkX MX11_day [vr (some l0), vi l1, vi l2] (rU r) h hf := fun K _ _ _ => SX11_day l0 l1 l2 h e
theorem xt_RX11_302_306 : XTN RX11 302 306 "java/util/NoSuchElementException" := ⟨by decide +kernel, bw_of 1504 (by decide +kernel) rfl, bw_of 144 (by decide +kernel) rfl, by
  have q : ∀ w ∈ nt_atS RX11 306 "java/util/NoSuchElementException" "java/lang/RuntimeException" ["java/lang/Exception"], (w ∈ lw_tbl ∧ goodWord w = true) ∨ w ∈ XWl := by decide +kernel
  exact fun w hw => (q w hw).imp (fun z => List.mem_filter.mpr z) id, by decide +kernel⟩
abbrev MX11_needWhat : MI := (RX11, cX11_needWhat, 2, none, 12, some [], "needWhat")
noncomputable def X11_needWhat_L9 (F : Nat)     (h : HP) : Option ((String ⊕ Unit) × HP) :=
  some (.inl "java/util/NoSuchElementException", exc h)
set_option maxRecDepth 100000 in
theorem SX11_needWhat_L9 {K : Ctx} {F : Nat} {r : String ⊕ Unit} {hf : HP}       (h : HP) (E : X11_needWhat_L9 F    h = some (r, hf)) : Go K MX11_needWhat (QMX K (rU r) hf) hf 9 [] [] h := by
  unfold X11_needWhat_L9 at E
  cases E
  exact go_throwN (j := 23) xt_RX11_302_306 rfl rfl rfl (Nat.le_of_ble_eq_true rfl) dX11_needWhat_9 dX11_needWhat_12 dX11_needWhat_13 dX11_needWhat_16 dX11_needWhat_19 (Nat.le_of_ble_eq_true rfl)
noncomputable def X11_needWhat (F : Nat)   (l0 : Int) (l1 : Int)  (h : HP) : Option ((String ⊕ Unit) × HP) :=
  if l0 < 0 then
    X11_needWhat_L9 F h
  else
    if l0 ≤ l1 then
      some (.inr (), h)
    else
      X11_needWhat_L9 F h
set_option maxRecDepth 100000 in
theorem SX11_needWhat {K : Ctx} {F : Nat} {r : String ⊕ Unit} {hf : HP}     (l0 : Int) (l1 : Int)  (h : HP) (E : X11_needWhat F   l0 l1 h = some (r, hf)) : Go K MX11_needWhat (QMX K (rU r) hf) hf 0 [(0, vi l0), (1, vi l1)] [] h := by
  unfold X11_needWhat at E
  refine go_iload_n (j := 0) (n := 1) rfl rfl dX11_needWhat_0 rfl ?_
  refine go_if_lt (tgt := 9) (n := 4) dX11_needWhat_1 rfl rfl (fun c1 => ?_) (fun c1 => ?_)
  · rw [if_pos c1] at E
    refine go_pick (lv' := []) [] rfl ?_
    exact SX11_needWhat_L9       _ E
  · rw [if_neg c1] at E
    refine go_iload_n (j := 0) (n := 5) rfl rfl dX11_needWhat_4 rfl ?_
    refine go_iload_n (j := 1) (n := 6) rfl rfl dX11_needWhat_5 rfl ?_
    refine go_icmp_le (tgt := 20) (n := 9) dX11_needWhat_6 rfl rfl (fun c2 => ?_) (fun c2 => ?_)
    · rw [if_pos c2] at E
      cases E
      exact go_ret (go_return rfl dX11_needWhat_20)
    · rw [if_neg c2] at E
      refine go_pick (lv' := []) [] rfl ?_
      exact SX11_needWhat_L9       _ E
theorem OXX11_needWhat {F : Nat} {l0 : Int} {l1 : Int} {h hf : HP} {r : String ⊕ Unit} (e : X11_needWhat F l0 l1 h = some (r, hf)) : OkX MX11_needWhat [vi l0, vi l1] (rU r) h hf := fun K _ _ _ => SX11_needWhat l0 l1 h e
abbrev MX7_jobIn : MI := (RX7, cX7_jobIn, 1, (some .int), 2, none, "jobIn")
noncomputable def X7_jobIn (F : Nat)   (l0 : Int)  (h : HP) : Option (Int × HP) :=
  some (w32 ((xand (xush l0 6) 15) - 1), h)
set_option maxRecDepth 100000 in
theorem SX7_jobIn {K : Ctx} {F : Nat} {r : Int} {hf : HP}     (l0 : Int)  (h : HP) (E : X7_jobIn F   l0 h = some (r, hf)) : Go K MX7_jobIn (QM K (some (vi r)) hf) hf 0 [(0, vi l0)] [] h := by
  unfold X7_jobIn at E
  refine go_iload_n (j := 0) (n := 1) rfl rfl dX7_jobIn_0 rfl ?_
  refine go_bipush (z := 6) (n := 3) ⟨by decide, by decide⟩ dX7_jobIn_1 rfl ?_
  refine go_iushr (n := 4) dX7_jobIn_3 rfl ?_
  refine go_bipush (z := 15) (n := 6) ⟨by decide, by decide⟩ dX7_jobIn_4 rfl ?_
  refine go_iand (n := 7) dX7_jobIn_6 rfl ?_
  refine go_iconst (z := 1) (n := 8) ⟨by decide, by decide⟩ dX7_jobIn_7 rfl ?_
  refine go_isub (n := 9) dX7_jobIn_8 rfl ?_
  cases E
  exact go_ireturn rfl dX7_jobIn_9
theorem OX7_jobIn {F : Nat} {l0 : Int} {h hf : HP} {r : Int} (e : X7_jobIn F l0 h = some (r, hf)) : Ok MX7_jobIn [vi l0] (some (vi r)) h hf := fun K _ _ _ => SX7_jobIn l0 h e
theorem fl_RX2_68 : FL RX2 68 9 4 2 true := ⟨RX9, TX9, ci_9, by decide, bw_of 1256 (by decide +kernel) rfl, rfl, rfl⟩
abbrev MX2_reads : MI := (RX2, cX2_reads, 1, (some .long), 2, none, "reads")
noncomputable def X2_reads (F : Nat)   (l0 : Nat)  (h : HP) : Option (Int × HP) :=
  (xgP h (some l0) 2 18 5).bind fun v1 =>
  if v1 = none then
    some (0, h)
  else
    (xgP h (some l0) 2 18 5).bind fun v3 =>
    (xgJ h v3 9 4 2).bind fun v4 =>
    some (v4, h)
set_option maxRecDepth 100000 in
theorem SX2_reads {K : Ctx} {F : Nat} {r : Int} {hf : HP}     (l0 : Nat)  (h : HP) (E : X2_reads F   l0 h = some (r, hf)) : Go K MX2_reads (QM K (some (vl r)) hf) hf 0 [(0, vr (some l0))] [] h := by
  unfold X2_reads at E
  refine go_aload_n (j := 0) (n := 1) rfl rfl dX2_reads_0 rfl ?_
  replace E := Option.bind_eq_some_iff.mp E; obtain ⟨v1, ev1, E⟩ := E
  refine go_getP (n := 4) ev1 fl_RX2_28 rfl dX2_reads_1 rfl ?_
  refine go_ifnonnull (tgt := 11) (n := 7) dX2_reads_4 rfl rfl (fun c2 => ?_) (fun c2 => ?_)
  · rw [if_neg c2] at E
    refine go_aload_n (j := 0) (n := 12) rfl rfl dX2_reads_11 rfl ?_
    replace E := Option.bind_eq_some_iff.mp E; obtain ⟨v3, ev3, E⟩ := E
    refine go_getP (n := 15) ev3 fl_RX2_28 rfl dX2_reads_12 rfl ?_
    replace E := Option.bind_eq_some_iff.mp E; obtain ⟨v4, ev4, E⟩ := E
    refine go_getJ (n := 18) ev4 fl_RX2_68 rfl dX2_reads_15 rfl ?_
    cases E
    exact go_lreturn rfl dX2_reads_18
  · rw [if_pos c2] at E
    refine go_lconst (w := 0) (n := 8) rfl dX2_reads_7 rfl ?_
    refine go_goto (tgt := 18) dX2_reads_8 rfl ?_
    cases E
    exact go_lreturn rfl dX2_reads_18
theorem OX2_reads {F : Nat} {l0 : Nat} {h hf : HP} {r : Int} (e : X2_reads F l0 h = some (r, hf)) : Ok MX2_reads [vr (some l0)] (some (vl r)) h hf := fun K _ _ _ => SX2_reads l0 h e
theorem wk_RX7_33 : Cond.constant RX7 33 (Int32.ofInt 2097152) ∈ BW := bw_of 683 (by decide +kernel) rfl
theorem wk_RX7_75 : Cond.constant RX7 75 (Int32.ofInt 8388608) ∈ BW := bw_of 696 (by decide +kernel) rfl
theorem wl_RX7_76 : Cond.constantLong RX7 76 (Int64.ofInt (-1)) ∈ BW := bw_of 697 (by decide +kernel) rfl
theorem wk_RX7_35 : Cond.constant RX7 35 (Int32.ofInt 1048576) ∈ BW := bw_of 684 (by decide +kernel) rfl
theorem yw_X7_jobIn : YW yX7_jobIn cX7_jobIn 1 (some .int) 1 := ⟨bw_of 687 (by decide +kernel) rfl, bw_of 121 (by decide +kernel) rfl, ⟨by decide +kernel, by decide +kernel, by decide +kernel⟩, by decide +kernel⟩
theorem wml_RX7_60 : Cond.methodLink RX7 60 yX7_jobIn ∈ BW := bw_of 685 (by decide +kernel) rfl
theorem wst_X7_jobIn : Cond.static yX7_jobIn ∈ BW := bw_of 686 (by decide +kernel) rfl
theorem wml_RX7_63 : Cond.methodLink RX7 63 yX3_at ∈ BW := bw_of 688 (by decide +kernel) rfl
theorem yw_X2_reads : YW yX2_reads cX2_reads 1 (some .long) 0 := ⟨bw_of 692 (by decide +kernel) rfl, bw_of 123 (by decide +kernel) rfl, ⟨by decide +kernel, by decide +kernel, by decide +kernel⟩, by decide +kernel⟩
theorem wml_RX7_69 : Cond.methodLink RX7 69 yX2_reads ∈ BW := bw_of 689 (by decide +kernel) rfl
theorem wim_X2_reads : Cond.instanceMethod yX2_reads ∈ BW := bw_of 690 (by decide +kernel) rfl
theorem wse_X2_reads : Cond.selects RX2 yX2_reads yX2_reads ∈ BW := bw_of 691 (by decide +kernel) rfl
abbrev MX7_badWords : MI := (RX7, cX7_badWords, 9, (some .long), 3, none, "badWords")
noncomputable def X7_badWords_L113 (F : Nat)  (rc8 : Nat → Option Nat → Int → Int → Int → HP → Option (Int × HP)) (l0 : Nat) (l1 : Option Nat) (l4 : Int) (l5 : Int) (s0 : Int) (h : HP) : Option (Int × HP) :=
  rc8 l0 l1 s0 l4 (w32 (l5 + 1)) h
set_option maxRecDepth 100000 in
theorem SX7_badWords_L113 {K : Ctx} {F : Nat} {r : Int} {hf : HP}   (rc8 : Nat → Option Nat → Int → Int → Int → HP → Option (Int × HP)) (hrc8 : ∀ l0 l1 l2 l4 l5 h, rc8 l0 l1 l2 l4 l5 h = some (r, hf) → Go K MX7_badWords (QM K (some (vl r)) hf) hf 8 [(0, vr (some l0)), (1, vr l1), (2, vl l2), (4, vi l4), (5, vi l5)] [] h) (l0 : Nat) (l1 : Option Nat) (l4 : Int) (l5 : Int) (s0 : Int) (h : HP) (E : X7_badWords_L113 F  rc8 l0 l1 l4 l5 s0 h = some (r, hf)) : Go K MX7_badWords (QM K (some (vl r)) hf) hf 113 [(0, vr (some l0)), (1, vr l1), (4, vi l4), (5, vi l5)] [vl s0] h := by
  unfold X7_badWords_L113 at E
  refine go_lstore_n (n := 114) (lv' := [(2, vl s0), (0, vr (some l0)), (1, vr l1), (4, vi l4), (5, vi l5)]) rfl dX7_badWords_113 rfl (Nat.le_of_ble_eq_true rfl) rfl ?_
  refine go_iinc (j := 4) (n := 117) (lv' := [(5, vi (w32 (l5 + 1))), (2, vl s0), (0, vr (some l0)), (1, vr l1), (4, vi l4)]) rfl dX7_badWords_114 rfl (Nat.le_of_ble_eq_true rfl) rfl ?_
  refine go_goto (tgt := 8) dX7_badWords_117 rfl ?_
  refine go_pick (lv' := [(0, vr (some l0)), (1, vr l1), (2, vl s0), (4, vi l4), (5, vi (w32 (l5 + 1)))]) [2, 3, 1, 4, 0] rfl ?_
  exact hrc8 _ _ _ _ _ _ E
noncomputable def X7_badWords_L98 (F : Nat)  (rc8 : Nat → Option Nat → Int → Int → Int → HP → Option (Int × HP)) (l0 : Nat) (l1 : Option Nat) (l2 : Int) (l4 : Int) (l5 : Int) (l7 : Int)  (h : HP) : Option (Int × HP) :=
  X7_badWords_L113 F rc8 l0 l1 l4 l5 (yor l2 l7) h
set_option maxRecDepth 100000 in
theorem SX7_badWords_L98 {K : Ctx} {F : Nat} {r : Int} {hf : HP}   (rc8 : Nat → Option Nat → Int → Int → Int → HP → Option (Int × HP)) (hrc8 : ∀ l0 l1 l2 l4 l5 h, rc8 l0 l1 l2 l4 l5 h = some (r, hf) → Go K MX7_badWords (QM K (some (vl r)) hf) hf 8 [(0, vr (some l0)), (1, vr l1), (2, vl l2), (4, vi l4), (5, vi l5)] [] h) (l0 : Nat) (l1 : Option Nat) (l2 : Int) (l4 : Int) (l5 : Int) (l7 : Int)  (h : HP) (E : X7_badWords_L98 F  rc8 l0 l1 l2 l4 l5 l7 h = some (r, hf)) : Go K MX7_badWords (QM K (some (vl r)) hf) hf 98 [(0, vr (some l0)), (1, vr l1), (2, vl l2), (4, vi l4), (5, vi l5), (7, vl l7)] [] h := by
  unfold X7_badWords_L98 at E
  refine go_lload_n (j := 2) (n := 99) rfl rfl dX7_badWords_98 rfl ?_
  refine go_lload (j := 5) (n := 101) rfl dX7_badWords_99 rfl ?_
  refine go_lor (n := 102) dX7_badWords_101 rfl ?_
  refine go_goto (tgt := 113) dX7_badWords_102 rfl ?_
  refine go_pick (lv' := [(0, vr (some l0)), (1, vr l1), (4, vi l4), (5, vi l5)]) [0, 1, 3, 4] rfl ?_
  exact SX7_badWords_L113   _ hrc8 _ _ _ _ _ _ E
noncomputable def X7_badWords_L76 (F : Nat)  (rc8 : Nat → Option Nat → Int → Int → Int → HP → Option (Int × HP)) (l0 : Nat) (l1 : Option Nat) (l2 : Int) (l4 : Int) (l5 : Int) (l6 : Int)  (h : HP) : Option (Int × HP) :=
  xb (X7_wordIn F l6 h) fun v1 h2 =>
  if l4 = 0 then
    if (xand l6 8388608) = 0 then
      X7_badWords_L113 F rc8 l0 l1 l4 l5 (yand l2 (yxor (yshl 1 v1) (-1))) h2
    else
      X7_badWords_L98 F rc8 l0 l1 l2 l4 l5 (yshl 1 v1) h2
  else
    X7_badWords_L98 F rc8 l0 l1 l2 l4 l5 (yshl 1 v1) h2
set_option maxRecDepth 100000 in
theorem SX7_badWords_L76 {K : Ctx} {F : Nat} {r : Int} {hf : HP}   (rc8 : Nat → Option Nat → Int → Int → Int → HP → Option (Int × HP)) (hrc8 : ∀ l0 l1 l2 l4 l5 h, rc8 l0 l1 l2 l4 l5 h = some (r, hf) → Go K MX7_badWords (QM K (some (vl r)) hf) hf 8 [(0, vr (some l0)), (1, vr l1), (2, vl l2), (4, vi l4), (5, vi l5)] [] h) (l0 : Nat) (l1 : Option Nat) (l2 : Int) (l4 : Int) (l5 : Int) (l6 : Int)  (h : HP) (E : X7_badWords_L76 F  rc8 l0 l1 l2 l4 l5 l6 h = some (r, hf)) : Go K MX7_badWords (QM K (some (vl r)) hf) hf 76 [(0, vr (some l0)), (1, vr l1), (2, vl l2), (4, vi l4), (5, vi l5), (6, vi l6)] [] h := by
  unfold X7_badWords_L76 at E
  refine go_lconst (w := 1) (n := 77) rfl dX7_badWords_76 rfl ?_
  refine go_iload (j := 5) (n := 79) rfl dX7_badWords_77 rfl ?_
  replace E := xb_some E; obtain ⟨v1, h2, ev1, E⟩ := E
  refine go_callS (y := yX7_wordIn) (n := 82) (st := [vl 1]) (as := [vi l6]) (stk9 := [vi v1, vl 1]) (OX7_wordIn ev1) yw_X7_wordIn wml_RX7_55 wst_X7_wordIn (Nat.le_of_ble_eq_true rfl) rfl ⟨Nat.le_of_ble_eq_true rfl, Nat.le_of_ble_eq_true rfl⟩ (Nat.le_of_ble_eq_true rfl) dX7_badWords_79 rfl rfl rfl ?_
  refine go_lshl (n := 83) dX7_badWords_82 rfl ?_
  refine go_lstore (n := 85) (lv' := [(7, vl (yshl 1 v1)), (0, vr (some l0)), (1, vr l1), (2, vl l2), (4, vi l4), (5, vi l5), (6, vi l6)]) dX7_badWords_83 rfl (Nat.le_of_ble_eq_true rfl) rfl ?_
  refine go_iload (j := 4) (n := 87) rfl dX7_badWords_85 rfl ?_
  refine go_if_ne (tgt := 98) (n := 90) dX7_badWords_87 rfl rfl (fun c3 => ?_) (fun c3 => ?_)
  · rw [if_neg c3] at E
    refine go_pick (lv' := [(0, vr (some l0)), (1, vr l1), (2, vl l2), (4, vi l4), (5, vi l5), (7, vl (yshl 1 v1))]) [1, 2, 3, 4, 5, 0] rfl ?_
    exact SX7_badWords_L98   _ hrc8 _ _ _ _ _ _  _ E
  · rw [if_pos c3] at E
    refine go_iload (j := 6) (n := 92) rfl dX7_badWords_90 rfl ?_
    refine go_ldc (z := 8388608) (n := 94) ⟨by decide, by decide⟩ wk_RX7_75 dX7_badWords_92 rfl ?_
    refine go_iand (n := 95) dX7_badWords_94 rfl ?_
    refine go_if_eq (tgt := 105) (n := 98) dX7_badWords_95 rfl rfl (fun c4 => ?_) (fun c4 => ?_)
    · rw [if_pos c4] at E
      refine go_lload_n (j := 3) (n := 106) rfl rfl dX7_badWords_105 rfl ?_
      refine go_lload (j := 0) (n := 108) rfl dX7_badWords_106 rfl ?_
      refine go_ldc2 (z := (-1)) (n := 111) ⟨by decide, by decide⟩ wl_RX7_76 dX7_badWords_108 rfl ?_
      refine go_lxor (n := 112) dX7_badWords_111 rfl ?_
      refine go_land (n := 113) dX7_badWords_112 rfl ?_
      refine go_pick (lv' := [(0, vr (some l0)), (1, vr l1), (4, vi l4), (5, vi l5)]) [1, 2, 4, 5] rfl ?_
      exact SX7_badWords_L113   _ hrc8 _ _ _ _ _ _ E
    · rw [if_neg c4] at E
      refine go_pick (lv' := [(0, vr (some l0)), (1, vr l1), (2, vl l2), (4, vi l4), (5, vi l5), (7, vl (yshl 1 v1))]) [1, 2, 3, 4, 5, 0] rfl ?_
      exact SX7_badWords_L98   _ hrc8 _ _ _ _ _ _  _ E
noncomputable def X7_badWords_L74 (F : Nat)  (rc8 : Nat → Option Nat → Int → Int → Int → HP → Option (Int × HP)) (l0 : Nat) (l1 : Option Nat) (l2 : Int) (l5 : Int) (l6 : Int) (s0 : Int) (h : HP) : Option (Int × HP) :=
  X7_badWords_L76 F rc8 l0 l1 l2 s0 l5 l6 h
set_option maxRecDepth 100000 in
theorem SX7_badWords_L74 {K : Ctx} {F : Nat} {r : Int} {hf : HP}   (rc8 : Nat → Option Nat → Int → Int → Int → HP → Option (Int × HP)) (hrc8 : ∀ l0 l1 l2 l4 l5 h, rc8 l0 l1 l2 l4 l5 h = some (r, hf) → Go K MX7_badWords (QM K (some (vl r)) hf) hf 8 [(0, vr (some l0)), (1, vr l1), (2, vl l2), (4, vi l4), (5, vi l5)] [] h) (l0 : Nat) (l1 : Option Nat) (l2 : Int) (l5 : Int) (l6 : Int) (s0 : Int) (h : HP) (E : X7_badWords_L74 F  rc8 l0 l1 l2 l5 l6 s0 h = some (r, hf)) : Go K MX7_badWords (QM K (some (vl r)) hf) hf 74 [(0, vr (some l0)), (1, vr l1), (2, vl l2), (5, vi l5), (6, vi l6)] [vi s0] h := by
  unfold X7_badWords_L74 at E
  refine go_istore (n := 76) (lv' := [(4, vi s0), (0, vr (some l0)), (1, vr l1), (2, vl l2), (5, vi l5), (6, vi l6)]) dX7_badWords_74 rfl (Nat.le_of_ble_eq_true rfl) rfl ?_
  refine go_pick (lv' := [(0, vr (some l0)), (1, vr l1), (2, vl l2), (4, vi s0), (5, vi l5), (6, vi l6)]) [1, 2, 3, 0, 4, 5] rfl ?_
  exact SX7_badWords_L76   _ hrc8 _ _ _ _ _ _  _ E
noncomputable def X7_badWords_L73 (F : Nat)  (rc8 : Nat → Option Nat → Int → Int → Int → HP → Option (Int × HP)) (l0 : Nat) (l1 : Option Nat) (l2 : Int) (l5 : Int) (l6 : Int)  (h : HP) : Option (Int × HP) :=
  X7_badWords_L74 F rc8 l0 l1 l2 l5 l6 0 h
set_option maxRecDepth 100000 in
theorem SX7_badWords_L73 {K : Ctx} {F : Nat} {r : Int} {hf : HP}   (rc8 : Nat → Option Nat → Int → Int → Int → HP → Option (Int × HP)) (hrc8 : ∀ l0 l1 l2 l4 l5 h, rc8 l0 l1 l2 l4 l5 h = some (r, hf) → Go K MX7_badWords (QM K (some (vl r)) hf) hf 8 [(0, vr (some l0)), (1, vr l1), (2, vl l2), (4, vi l4), (5, vi l5)] [] h) (l0 : Nat) (l1 : Option Nat) (l2 : Int) (l5 : Int) (l6 : Int)  (h : HP) (E : X7_badWords_L73 F  rc8 l0 l1 l2 l5 l6 h = some (r, hf)) : Go K MX7_badWords (QM K (some (vl r)) hf) hf 73 [(0, vr (some l0)), (1, vr l1), (2, vl l2), (5, vi l5), (6, vi l6)] [] h := by
  unfold X7_badWords_L73 at E
  refine go_iconst (z := 0) (n := 74) ⟨by decide, by decide⟩ dX7_badWords_73 rfl ?_
  exact SX7_badWords_L74   _ hrc8 _ _ _ _ _ _ _ E
noncomputable def X7_badWords_L8 (F : Nat)   (k : Nat) : Nat → Option Nat → Int → Int → Int → HP → Option (Int × HP) :=
  Nat.rec (motive := fun _ => Nat → Option Nat → Int → Int → Int → HP → Option (Int × HP)) (fun _ _ _ _ _ _ => none) (fun _ rc8 l0 l1 l2 l4 l5 h =>
    (xgI h (some l0) 7 10 7).bind fun v1 =>
    if v1 ≤ l5 then
      some (l2, h)
    else
      if 5120 ≤ l5 then
        some (l2, h)
      else
        (xgP h (some l0) 7 10 6).bind fun v4 =>
        (xaI h v4 100 l5).bind fun v5 =>
        if (xand v5 2097152) = 0 then
          X7_badWords_L76 F rc8 l0 l1 l2 l4 l5 v5 h
        else
          if (xand v5 1048576) = 0 then
            X7_badWords_L73 F rc8 l0 l1 l2 l5 v5 h
          else
            xb (X7_jobIn F v5 h) fun v8 h9 =>
            (xrc h9 l1 3 7).bind fun a12 =>
            xb (X3_at F a12 v8 h9) fun v10 h11 =>
            (xrc h11 v10 2 18).bind fun a15 =>
            xb (X2_reads F a15 h11) fun v13 h14 =>
            if (xcmp (yand v13 l2) 0) = 0 then
              X7_badWords_L73 F rc8 l0 l1 l2 l5 v5 h14
            else
              X7_badWords_L74 F rc8 l0 l1 l2 l5 v5 1 h14) k
theorem X7_badWords_L8_s (F : Nat)   (k : Nat) (l0 : Nat) (l1 : Option Nat) (l2 : Int) (l4 : Int) (l5 : Int)  (h : HP) : X7_badWords_L8 F   (k + 1) l0 l1 l2 l4 l5 h =
    (xgI h (some l0) 7 10 7).bind fun v1 =>
    if v1 ≤ l5 then
      some (l2, h)
    else
      if 5120 ≤ l5 then
        some (l2, h)
      else
        (xgP h (some l0) 7 10 6).bind fun v4 =>
        (xaI h v4 100 l5).bind fun v5 =>
        if (xand v5 2097152) = 0 then
          X7_badWords_L76 F (X7_badWords_L8 F k) l0 l1 l2 l4 l5 v5 h
        else
          if (xand v5 1048576) = 0 then
            X7_badWords_L73 F (X7_badWords_L8 F k) l0 l1 l2 l5 v5 h
          else
            xb (X7_jobIn F v5 h) fun v8 h9 =>
            (xrc h9 l1 3 7).bind fun a12 =>
            xb (X3_at F a12 v8 h9) fun v10 h11 =>
            (xrc h11 v10 2 18).bind fun a15 =>
            xb (X2_reads F a15 h11) fun v13 h14 =>
            if (xcmp (yand v13 l2) 0) = 0 then
              X7_badWords_L73 F (X7_badWords_L8 F k) l0 l1 l2 l5 v5 h14
            else
              X7_badWords_L74 F (X7_badWords_L8 F k) l0 l1 l2 l5 v5 1 h14 := rfl
set_option maxRecDepth 100000 in
theorem SX7_badWords_L8 {K : Ctx} {F : Nat} {r : Int} {hf : HP}     : ∀ (k : Nat) (l0 : Nat) (l1 : Option Nat) (l2 : Int) (l4 : Int) (l5 : Int)  (h : HP), X7_badWords_L8 F   k l0 l1 l2 l4 l5 h = some (r, hf) → Go K MX7_badWords (QM K (some (vl r)) hf) hf 8 [(0, vr (some l0)), (1, vr l1), (2, vl l2), (4, vi l4), (5, vi l5)] [] h := by
  intro k
  induction k with
  | zero => intro l0 l1 l2 l4 l5 h E; exact nomatch E
  | succ k hrc8 =>
    intro l0 l1 l2 l4 l5 h E
    rw [X7_badWords_L8_s] at E
    refine go_iload (j := 4) (n := 10) rfl dX7_badWords_8 rfl ?_
    refine go_aload_n (j := 0) (n := 11) rfl rfl dX7_badWords_10 rfl ?_
    replace E := Option.bind_eq_some_iff.mp E; obtain ⟨v1, ev1, E⟩ := E
    refine go_getI (n := 14) ev1 fl_RX7_48 rfl dX7_badWords_11 rfl ?_
    refine go_icmp_ge (tgt := 120) (n := 17) dX7_badWords_14 rfl rfl (fun c2 => ?_) (fun c2 => ?_)
    · rw [if_pos c2] at E
      refine go_lload_n (j := 2) (n := 121) rfl rfl dX7_badWords_120 rfl ?_
      cases E
      exact go_lreturn rfl dX7_badWords_121
    · rw [if_neg c2] at E
      refine go_iload (j := 4) (n := 19) rfl dX7_badWords_17 rfl ?_
      refine go_sipush (z := 5120) (n := 22) ⟨by decide, by decide⟩ dX7_badWords_19 rfl ?_
      refine go_icmp_ge (tgt := 120) (n := 25) dX7_badWords_22 rfl rfl (fun c3 => ?_) (fun c3 => ?_)
      · rw [if_pos c3] at E
        refine go_lload_n (j := 2) (n := 121) rfl rfl dX7_badWords_120 rfl ?_
        cases E
        exact go_lreturn rfl dX7_badWords_121
      · rw [if_neg c3] at E
        refine go_aload_n (j := 0) (n := 26) rfl rfl dX7_badWords_25 rfl ?_
        replace E := Option.bind_eq_some_iff.mp E; obtain ⟨v4, ev4, E⟩ := E
        refine go_getP (n := 29) ev4 fl_RX7_30 rfl dX7_badWords_26 rfl ?_
        refine go_iload (j := 4) (n := 31) rfl dX7_badWords_29 rfl ?_
        replace E := Option.bind_eq_some_iff.mp E; obtain ⟨v5, ev5, E⟩ := E
        refine go_iaload (n := 32) ev5 dX7_badWords_31 rfl ?_
        refine go_istore (n := 34) (lv' := [(6, vi v5), (0, vr (some l0)), (1, vr l1), (2, vl l2), (4, vi l4), (5, vi l5)]) dX7_badWords_32 rfl (Nat.le_of_ble_eq_true rfl) rfl ?_
        refine go_iload (j := 0) (n := 36) rfl dX7_badWords_34 rfl ?_
        refine go_ldc (z := 2097152) (n := 38) ⟨by decide, by decide⟩ wk_RX7_33 dX7_badWords_36 rfl ?_
        refine go_iand (n := 39) dX7_badWords_38 rfl ?_
        refine go_if_eq (tgt := 76) (n := 42) dX7_badWords_39 rfl rfl (fun c6 => ?_) (fun c6 => ?_)
        · rw [if_pos c6] at E
          refine go_pick (lv' := [(0, vr (some l0)), (1, vr l1), (2, vl l2), (4, vi l4), (5, vi l5), (6, vi v5)]) [1, 2, 3, 4, 5, 0] rfl ?_
          exact SX7_badWords_L76   _ hrc8 _ _ _ _ _ _  _ E
        · rw [if_neg c6] at E
          refine go_iload (j := 0) (n := 44) rfl dX7_badWords_42 rfl ?_
          refine go_ldc (z := 1048576) (n := 46) ⟨by decide, by decide⟩ wk_RX7_35 dX7_badWords_44 rfl ?_
          refine go_iand (n := 47) dX7_badWords_46 rfl ?_
          refine go_if_eq (tgt := 73) (n := 50) dX7_badWords_47 rfl rfl (fun c7 => ?_) (fun c7 => ?_)
          · rw [if_pos c7] at E
            refine go_pick (lv' := [(0, vr (some l0)), (1, vr l1), (2, vl l2), (5, vi l5), (6, vi v5)]) [1, 2, 3, 5, 0] rfl ?_
            exact SX7_badWords_L73   _ hrc8 _ _ _ _ _  _ E
          · rw [if_neg c7] at E
            refine go_aload_n (j := 2) (n := 51) rfl rfl dX7_badWords_50 rfl ?_
            refine go_iload (j := 0) (n := 53) rfl dX7_badWords_51 rfl ?_
            replace E := xb_some E; obtain ⟨v8, h9, ev8, E⟩ := E
            refine go_callS (y := yX7_jobIn) (n := 56) (st := [vr l1]) (as := [vi v5]) (stk9 := [vi v8, vr l1]) (OX7_jobIn ev8) yw_X7_jobIn wml_RX7_60 wst_X7_jobIn (Nat.le_of_ble_eq_true rfl) rfl ⟨Nat.le_of_ble_eq_true rfl, Nat.le_of_ble_eq_true rfl⟩ (Nat.le_of_ble_eq_true rfl) dX7_badWords_53 rfl rfl rfl ?_
            replace E := Option.bind_eq_some_iff.mp E; obtain ⟨a12, ea12, E⟩ := E
            obtain ⟨fa12, ga12⟩ := xrc_some ea12
            replace E := xb_some E; obtain ⟨v10, h11, ev10, E⟩ := E
            refine go_callV (y := yX3_at) (n := 59) (st := []) (as := [vi v8]) (stk9 := [vr v10]) (OX3_at ev10) yw_X3_at ci_3 ga12 wml_RX7_63 wim_X3_at wse_X3_at (Nat.le_of_ble_eq_true rfl) rfl ⟨Nat.le_of_ble_eq_true rfl, Nat.le_of_ble_eq_true rfl⟩ (Nat.le_of_ble_eq_true rfl) dX7_badWords_56 rfl (by cases fa12; rfl) rfl ?_
            replace E := Option.bind_eq_some_iff.mp E; obtain ⟨a15, ea15, E⟩ := E
            obtain ⟨fa15, ga15⟩ := xrc_some ea15
            replace E := xb_some E; obtain ⟨v13, h14, ev13, E⟩ := E
            refine go_callV (y := yX2_reads) (n := 62) (st := []) (as := []) (stk9 := [vl v13]) (OX2_reads ev13) yw_X2_reads ci_2 ga15 wml_RX7_69 wim_X2_reads wse_X2_reads (Nat.le_of_ble_eq_true rfl) rfl ⟨Nat.le_of_ble_eq_true rfl, Nat.le_of_ble_eq_true rfl⟩ (Nat.le_of_ble_eq_true rfl) dX7_badWords_59 rfl (by cases fa15; rfl) rfl ?_
            refine go_lload_n (j := 3) (n := 63) rfl rfl dX7_badWords_62 rfl ?_
            refine go_land (n := 64) dX7_badWords_63 rfl ?_
            refine go_lconst (w := 0) (n := 65) rfl dX7_badWords_64 rfl ?_
            refine go_lcmp (n := 66) dX7_badWords_65 rfl ?_
            refine go_if_eq (tgt := 73) (n := 69) dX7_badWords_66 rfl rfl (fun c16 => ?_) (fun c16 => ?_)
            · rw [if_pos c16] at E
              refine go_pick (lv' := [(0, vr (some l0)), (1, vr l1), (2, vl l2), (5, vi l5), (6, vi v5)]) [1, 2, 3, 5, 0] rfl ?_
              exact SX7_badWords_L73   _ hrc8 _ _ _ _ _  _ E
            · rw [if_neg c16] at E
              refine go_iconst (z := 1) (n := 70) ⟨by decide, by decide⟩ dX7_badWords_69 rfl ?_
              refine go_goto (tgt := 74) dX7_badWords_70 rfl ?_
              refine go_pick (lv' := [(0, vr (some l0)), (1, vr l1), (2, vl l2), (5, vi l5), (6, vi v5)]) [1, 2, 3, 5, 0] rfl ?_
              exact SX7_badWords_L74   _ hrc8 _ _ _ _ _ _ _ E
noncomputable def X7_badWords (F : Nat)   (l0 : Nat) (l1 : Option Nat)  (h : HP) : Option (Int × HP) :=
  X7_badWords_L8 F F l0 l1 0 0 0 h
set_option maxRecDepth 100000 in
theorem SX7_badWords {K : Ctx} {F : Nat} {r : Int} {hf : HP}     (l0 : Nat) (l1 : Option Nat)  (h : HP) (E : X7_badWords F   l0 l1 h = some (r, hf)) : Go K MX7_badWords (QM K (some (vl r)) hf) hf 0 [(0, vr (some l0)), (1, vr l1)] [] h := by
  unfold X7_badWords at E
  refine go_lconst (w := 0) (n := 1) rfl dX7_badWords_0 rfl ?_
  refine go_lstore_n (n := 2) (lv' := [(2, vl 0), (0, vr (some l0)), (1, vr l1)]) rfl dX7_badWords_1 rfl (Nat.le_of_ble_eq_true rfl) rfl ?_
  refine go_iconst (z := 0) (n := 3) ⟨by decide, by decide⟩ dX7_badWords_2 rfl ?_
  refine go_istore (n := 5) (lv' := [(4, vi 0), (2, vl 0), (0, vr (some l0)), (1, vr l1)]) dX7_badWords_3 rfl (Nat.le_of_ble_eq_true rfl) rfl ?_
  refine go_iconst (z := 0) (n := 6) ⟨by decide, by decide⟩ dX7_badWords_5 rfl ?_
  refine go_istore (n := 8) (lv' := [(5, vi 0), (4, vi 0), (2, vl 0), (0, vr (some l0)), (1, vr l1)]) dX7_badWords_6 rfl (Nat.le_of_ble_eq_true rfl) rfl ?_
  refine go_pick (lv' := [(0, vr (some l0)), (1, vr l1), (2, vl 0), (4, vi 0), (5, vi 0)]) [3, 4, 2, 1, 0] rfl ?_
  exact SX7_badWords_L8     F _ _ _ _ _ _ E
theorem OX7_badWords {F : Nat} {l0 : Nat} {l1 : Option Nat} {h hf : HP} {r : Int} (e : X7_badWords F l0 l1 h = some (r, hf)) : Ok MX7_badWords [vr (some l0), vr l1] (some (vl r)) h hf := fun K _ _ _ => SX7_badWords l0 l1 h e
theorem fl_RX2_74 : FL RX2 74 9 4 3 true := ⟨RX9, TX9, ci_9, by decide, bw_of 1258 (by decide +kernel) rfl, rfl, rfl⟩
abbrev MX2_writes : MI := (RX2, cX2_writes, 1, (some .long), 2, none, "writes")
noncomputable def X2_writes (F : Nat)   (l0 : Nat)  (h : HP) : Option (Int × HP) :=
  (xgP h (some l0) 2 18 5).bind fun v1 =>
  if v1 = none then
    some (0, h)
  else
    (xgP h (some l0) 2 18 5).bind fun v3 =>
    (xgJ h v3 9 4 3).bind fun v4 =>
    some (v4, h)
set_option maxRecDepth 100000 in
theorem SX2_writes {K : Ctx} {F : Nat} {r : Int} {hf : HP}     (l0 : Nat)  (h : HP) (E : X2_writes F   l0 h = some (r, hf)) : Go K MX2_writes (QM K (some (vl r)) hf) hf 0 [(0, vr (some l0))] [] h := by
  unfold X2_writes at E
  refine go_aload_n (j := 0) (n := 1) rfl rfl dX2_writes_0 rfl ?_
  replace E := Option.bind_eq_some_iff.mp E; obtain ⟨v1, ev1, E⟩ := E
  refine go_getP (n := 4) ev1 fl_RX2_28 rfl dX2_writes_1 rfl ?_
  refine go_ifnonnull (tgt := 11) (n := 7) dX2_writes_4 rfl rfl (fun c2 => ?_) (fun c2 => ?_)
  · rw [if_neg c2] at E
    refine go_aload_n (j := 0) (n := 12) rfl rfl dX2_writes_11 rfl ?_
    replace E := Option.bind_eq_some_iff.mp E; obtain ⟨v3, ev3, E⟩ := E
    refine go_getP (n := 15) ev3 fl_RX2_28 rfl dX2_writes_12 rfl ?_
    replace E := Option.bind_eq_some_iff.mp E; obtain ⟨v4, ev4, E⟩ := E
    refine go_getJ (n := 18) ev4 fl_RX2_74 rfl dX2_writes_15 rfl ?_
    cases E
    exact go_lreturn rfl dX2_writes_18
  · rw [if_pos c2] at E
    refine go_lconst (w := 0) (n := 8) rfl dX2_writes_7 rfl ?_
    refine go_goto (tgt := 18) dX2_writes_8 rfl ?_
    cases E
    exact go_lreturn rfl dX2_writes_18
theorem OX2_writes {F : Nat} {l0 : Nat} {h hf : HP} {r : Int} (e : X2_writes F l0 h = some (r, hf)) : Ok MX2_writes [vr (some l0)] (some (vl r)) h hf := fun K _ _ _ => SX2_writes l0 h e
abbrev MX3_withAllBehind : MI := (RX3, cX3_withAllBehind, 5, (some .int), 3, none, "withAllBehind")
noncomputable def X3_withAllBehind_L44 (F : Nat)  (rc6 : Nat → Int → Int → HP → Option (Int × HP)) (rc17 : Nat → Int → Int → Int → HP → Option (Int × HP)) (l0 : Nat) (l2 : Int) (l3 : Int) (l4 : Int)  (h : HP) : Option (Int × HP) :=
  rc17 l0 l2 l3 (w32 (l4 + 1)) h
set_option maxRecDepth 100000 in
theorem SX3_withAllBehind_L44 {K : Ctx} {F : Nat} {r : Int} {hf : HP}   (rc6 : Nat → Int → Int → HP → Option (Int × HP)) (rc17 : Nat → Int → Int → Int → HP → Option (Int × HP)) (hrc6 : ∀ l0 l2 l3 h, rc6 l0 l2 l3 h = some (r, hf) → Go K MX3_withAllBehind (QM K (some (vi r)) hf) hf 6 [(0, vr (some l0)), (2, vi l2), (3, vi l3)] [] h) (hrc17 : ∀ l0 l2 l3 l4 h, rc17 l0 l2 l3 l4 h = some (r, hf) → Go K MX3_withAllBehind (QM K (some (vi r)) hf) hf 17 [(0, vr (some l0)), (2, vi l2), (3, vi l3), (4, vi l4)] [] h) (l0 : Nat) (l2 : Int) (l3 : Int) (l4 : Int)  (h : HP) (E : X3_withAllBehind_L44 F  rc6 rc17 l0 l2 l3 l4 h = some (r, hf)) : Go K MX3_withAllBehind (QM K (some (vi r)) hf) hf 44 [(0, vr (some l0)), (2, vi l2), (3, vi l3), (4, vi l4)] [] h := by
  unfold X3_withAllBehind_L44 at E
  refine go_iinc (j := 3) (n := 47) (lv' := [(4, vi (w32 (l4 + 1))), (0, vr (some l0)), (2, vi l2), (3, vi l3)]) rfl dX3_withAllBehind_44 rfl (Nat.le_of_ble_eq_true rfl) rfl ?_
  refine go_goto (tgt := 17) dX3_withAllBehind_47 rfl ?_
  refine go_pick (lv' := [(0, vr (some l0)), (2, vi l2), (3, vi l3), (4, vi (w32 (l4 + 1)))]) [1, 2, 3, 0] rfl ?_
  exact hrc17 _ _ _ _ _ E
noncomputable def X3_withAllBehind_L17 (F : Nat)  (rc6 : Nat → Int → Int → HP → Option (Int × HP)) (k : Nat) : Nat → Int → Int → Int → HP → Option (Int × HP) :=
  Nat.rec (motive := fun _ => Nat → Int → Int → Int → HP → Option (Int × HP)) (fun _ _ _ _ _ => none) (fun _ rc17 l0 l2 l3 l4 h =>
    (xgI h (some l0) 3 7 5).bind fun v1 =>
    if v1 ≤ l4 then
      rc6 l0 l2 (w32 (l3 + 1)) h
    else
      if (xand (xush l2 l4) 1) = 0 then
        X3_withAllBehind_L44 F rc6 rc17 l0 l2 l3 l4 h
      else
        (xrc h (some l0) 3 7).bind fun a6 =>
        xb (X3_leansOf F a6 l4 h) fun v4 h5 =>
        X3_withAllBehind_L44 F rc6 rc17 l0 (xor_ l2 v4) l3 l4 h5) k
theorem X3_withAllBehind_L17_s (F : Nat)  (rc6 : Nat → Int → Int → HP → Option (Int × HP)) (k : Nat) (l0 : Nat) (l2 : Int) (l3 : Int) (l4 : Int)  (h : HP) : X3_withAllBehind_L17 F  rc6 (k + 1) l0 l2 l3 l4 h =
    (xgI h (some l0) 3 7 5).bind fun v1 =>
    if v1 ≤ l4 then
      rc6 l0 l2 (w32 (l3 + 1)) h
    else
      if (xand (xush l2 l4) 1) = 0 then
        X3_withAllBehind_L44 F rc6 (X3_withAllBehind_L17 F rc6 k) l0 l2 l3 l4 h
      else
        (xrc h (some l0) 3 7).bind fun a6 =>
        xb (X3_leansOf F a6 l4 h) fun v4 h5 =>
        X3_withAllBehind_L44 F rc6 (X3_withAllBehind_L17 F rc6 k) l0 (xor_ l2 v4) l3 l4 h5 := rfl
set_option maxRecDepth 100000 in
theorem SX3_withAllBehind_L17 {K : Ctx} {F : Nat} {r : Int} {hf : HP}   (rc6 : Nat → Int → Int → HP → Option (Int × HP)) (hrc6 : ∀ l0 l2 l3 h, rc6 l0 l2 l3 h = some (r, hf) → Go K MX3_withAllBehind (QM K (some (vi r)) hf) hf 6 [(0, vr (some l0)), (2, vi l2), (3, vi l3)] [] h) : ∀ (k : Nat) (l0 : Nat) (l2 : Int) (l3 : Int) (l4 : Int)  (h : HP), X3_withAllBehind_L17 F  rc6 k l0 l2 l3 l4 h = some (r, hf) → Go K MX3_withAllBehind (QM K (some (vi r)) hf) hf 17 [(0, vr (some l0)), (2, vi l2), (3, vi l3), (4, vi l4)] [] h := by
  intro k
  induction k with
  | zero => intro l0 l2 l3 l4 h E; exact nomatch E
  | succ k hrc17 =>
    intro l0 l2 l3 l4 h E
    rw [X3_withAllBehind_L17_s] at E
    refine go_iload (j := 3) (n := 19) rfl dX3_withAllBehind_17 rfl ?_
    refine go_aload_n (j := 0) (n := 20) rfl rfl dX3_withAllBehind_19 rfl ?_
    replace E := Option.bind_eq_some_iff.mp E; obtain ⟨v1, ev1, E⟩ := E
    refine go_getI (n := 23) ev1 fl_RX3_36 rfl dX3_withAllBehind_20 rfl ?_
    refine go_icmp_ge (tgt := 50) (n := 26) dX3_withAllBehind_23 rfl rfl (fun c2 => ?_) (fun c2 => ?_)
    · rw [if_pos c2] at E
      refine go_iinc (j := 2) (n := 53) (lv' := [(3, vi (w32 (l3 + 1))), (0, vr (some l0)), (2, vi l2), (4, vi l4)]) rfl dX3_withAllBehind_50 rfl (Nat.le_of_ble_eq_true rfl) rfl ?_
      refine go_goto (tgt := 6) dX3_withAllBehind_53 rfl ?_
      refine go_pick (lv' := [(0, vr (some l0)), (2, vi l2), (3, vi (w32 (l3 + 1)))]) [1, 2, 0] rfl ?_
      exact hrc6 _ _ _ _ E
    · rw [if_neg c2] at E
      refine go_iload_n (j := 1) (n := 27) rfl rfl dX3_withAllBehind_26 rfl ?_
      refine go_iload (j := 3) (n := 29) rfl dX3_withAllBehind_27 rfl ?_
      refine go_iushr (n := 30) dX3_withAllBehind_29 rfl ?_
      refine go_iconst (z := 1) (n := 31) ⟨by decide, by decide⟩ dX3_withAllBehind_30 rfl ?_
      refine go_iand (n := 32) dX3_withAllBehind_31 rfl ?_
      refine go_if_eq (tgt := 44) (n := 35) dX3_withAllBehind_32 rfl rfl (fun c3 => ?_) (fun c3 => ?_)
      · rw [if_pos c3] at E
        exact SX3_withAllBehind_L44   _ _ hrc6 hrc17 _ _ _ _  _ E
      · rw [if_neg c3] at E
        refine go_iload_n (j := 1) (n := 36) rfl rfl dX3_withAllBehind_35 rfl ?_
        refine go_aload_n (j := 0) (n := 37) rfl rfl dX3_withAllBehind_36 rfl ?_
        refine go_iload (j := 3) (n := 39) rfl dX3_withAllBehind_37 rfl ?_
        replace E := Option.bind_eq_some_iff.mp E; obtain ⟨a6, ea6, E⟩ := E
        obtain ⟨fa6, ga6⟩ := xrc_some ea6
        replace E := xb_some E; obtain ⟨v4, h5, ev4, E⟩ := E
        refine go_callV (y := yX3_leansOf) (n := 42) (st := [vi l2]) (as := [vi l4]) (stk9 := [vi v4, vi l2]) (OX3_leansOf ev4) yw_X3_leansOf ci_3 ga6 wml_RX3_67 wim_X3_leansOf wse_X3_leansOf (Nat.le_of_ble_eq_true rfl) rfl ⟨Nat.le_of_ble_eq_true rfl, Nat.le_of_ble_eq_true rfl⟩ (Nat.le_of_ble_eq_true rfl) dX3_withAllBehind_39 rfl (by cases fa6; rfl) rfl ?_
        refine go_ior (n := 43) dX3_withAllBehind_42 rfl ?_
        refine go_istore_n (n := 44) (lv' := [(2, vi (xor_ l2 v4)), (0, vr (some l0)), (3, vi l3), (4, vi l4)]) rfl dX3_withAllBehind_43 rfl (Nat.le_of_ble_eq_true rfl) rfl ?_
        refine go_pick (lv' := [(0, vr (some l0)), (2, vi (xor_ l2 v4)), (3, vi l3), (4, vi l4)]) [1, 0, 2, 3] rfl ?_
        exact SX3_withAllBehind_L44   _ _ hrc6 hrc17 _ _ _ _  _ E
noncomputable def X3_withAllBehind_L6 (F : Nat)   (k : Nat) : Nat → Int → Int → HP → Option (Int × HP) :=
  Nat.rec (motive := fun _ => Nat → Int → Int → HP → Option (Int × HP)) (fun _ _ _ _ => none) (fun _ rc6 l0 l2 l3 h =>
    (xgI h (some l0) 3 7 5).bind fun v1 =>
    if v1 ≤ l3 then
      some (l2, h)
    else
      X3_withAllBehind_L17 F rc6 F l0 l2 l3 0 h) k
theorem X3_withAllBehind_L6_s (F : Nat)   (k : Nat) (l0 : Nat) (l2 : Int) (l3 : Int)  (h : HP) : X3_withAllBehind_L6 F   (k + 1) l0 l2 l3 h =
    (xgI h (some l0) 3 7 5).bind fun v1 =>
    if v1 ≤ l3 then
      some (l2, h)
    else
      X3_withAllBehind_L17 F (X3_withAllBehind_L6 F k) F l0 l2 l3 0 h := rfl
set_option maxRecDepth 100000 in
theorem SX3_withAllBehind_L6 {K : Ctx} {F : Nat} {r : Int} {hf : HP}     : ∀ (k : Nat) (l0 : Nat) (l2 : Int) (l3 : Int)  (h : HP), X3_withAllBehind_L6 F   k l0 l2 l3 h = some (r, hf) → Go K MX3_withAllBehind (QM K (some (vi r)) hf) hf 6 [(0, vr (some l0)), (2, vi l2), (3, vi l3)] [] h := by
  intro k
  induction k with
  | zero => intro l0 l2 l3 h E; exact nomatch E
  | succ k hrc6 =>
    intro l0 l2 l3 h E
    rw [X3_withAllBehind_L6_s] at E
    refine go_iload_n (j := 2) (n := 7) rfl rfl dX3_withAllBehind_6 rfl ?_
    refine go_aload_n (j := 0) (n := 8) rfl rfl dX3_withAllBehind_7 rfl ?_
    replace E := Option.bind_eq_some_iff.mp E; obtain ⟨v1, ev1, E⟩ := E
    refine go_getI (n := 11) ev1 fl_RX3_36 rfl dX3_withAllBehind_8 rfl ?_
    refine go_icmp_ge (tgt := 56) (n := 14) dX3_withAllBehind_11 rfl rfl (fun c2 => ?_) (fun c2 => ?_)
    · rw [if_pos c2] at E
      refine go_iload_n (j := 1) (n := 57) rfl rfl dX3_withAllBehind_56 rfl ?_
      cases E
      exact go_ireturn rfl dX3_withAllBehind_57
    · rw [if_neg c2] at E
      refine go_iconst (z := 0) (n := 15) ⟨by decide, by decide⟩ dX3_withAllBehind_14 rfl ?_
      refine go_istore (n := 17) (lv' := [(4, vi 0), (0, vr (some l0)), (2, vi l2), (3, vi l3)]) dX3_withAllBehind_15 rfl (Nat.le_of_ble_eq_true rfl) rfl ?_
      refine go_pick (lv' := [(0, vr (some l0)), (2, vi l2), (3, vi l3), (4, vi 0)]) [1, 2, 3, 0] rfl ?_
      exact SX3_withAllBehind_L17   _ hrc6 F _ _ _ _ _ E
noncomputable def X3_withAllBehind (F : Nat)   (l0 : Nat) (l1 : Int)  (h : HP) : Option (Int × HP) :=
  X3_withAllBehind_L6 F F l0 (xshl 1 l1) 0 h
set_option maxRecDepth 100000 in
theorem SX3_withAllBehind {K : Ctx} {F : Nat} {r : Int} {hf : HP}     (l0 : Nat) (l1 : Int)  (h : HP) (E : X3_withAllBehind F   l0 l1 h = some (r, hf)) : Go K MX3_withAllBehind (QM K (some (vi r)) hf) hf 0 [(0, vr (some l0)), (1, vi l1)] [] h := by
  unfold X3_withAllBehind at E
  refine go_iconst (z := 1) (n := 1) ⟨by decide, by decide⟩ dX3_withAllBehind_0 rfl ?_
  refine go_iload_n (j := 1) (n := 2) rfl rfl dX3_withAllBehind_1 rfl ?_
  refine go_ishl (n := 3) dX3_withAllBehind_2 rfl ?_
  refine go_istore_n (n := 4) (lv' := [(2, vi (xshl 1 l1)), (0, vr (some l0)), (1, vi l1)]) rfl dX3_withAllBehind_3 rfl (Nat.le_of_ble_eq_true rfl) rfl ?_
  refine go_iconst (z := 0) (n := 5) ⟨by decide, by decide⟩ dX3_withAllBehind_4 rfl ?_
  refine go_istore_n (n := 6) (lv' := [(3, vi 0), (2, vi (xshl 1 l1)), (0, vr (some l0)), (1, vi l1)]) rfl dX3_withAllBehind_5 rfl (Nat.le_of_ble_eq_true rfl) rfl ?_
  refine go_pick (lv' := [(0, vr (some l0)), (2, vi (xshl 1 l1)), (3, vi 0)]) [2, 1, 0] rfl ?_
  exact SX3_withAllBehind_L6     F _ _ _ _ E
theorem OX3_withAllBehind {F : Nat} {l0 : Nat} {l1 : Int} {h hf : HP} {r : Int} (e : X3_withAllBehind F l0 l1 h = some (r, hf)) : Ok MX3_withAllBehind [vr (some l0), vi l1] (some (vi r)) h hf := fun K _ _ _ => SX3_withAllBehind l0 l1 h e
theorem yw_X3_withAllBehind : YW yX3_withAllBehind cX3_withAllBehind 5 (some .int) 1 := ⟨bw_of 766 (by decide +kernel) rfl, bw_of 122 (by decide +kernel) rfl, ⟨by decide +kernel, by decide +kernel, by decide +kernel⟩, by decide +kernel⟩
theorem wml_RX3_83 : Cond.methodLink RX3 83 yX3_withAllBehind ∈ BW := bw_of 763 (by decide +kernel) rfl
theorem wim_X3_withAllBehind : Cond.instanceMethod yX3_withAllBehind ∈ BW := bw_of 765 (by decide +kernel) rfl
theorem wse_X3_withAllBehind : Cond.selects RX3 yX3_withAllBehind yX3_withAllBehind ∈ BW := bw_of 4 (by decide +kernel) rfl
theorem yw_X2_writes : YW yX2_writes cX2_writes 1 (some .long) 0 := ⟨bw_of 666 (by decide +kernel) rfl, bw_of 123 (by decide +kernel) rfl, ⟨by decide +kernel, by decide +kernel, by decide +kernel⟩, by decide +kernel⟩
theorem wml_RX3_60 : Cond.methodLink RX3 60 yX2_writes ∈ BW := bw_of 663 (by decide +kernel) rfl
theorem wim_X2_writes : Cond.instanceMethod yX2_writes ∈ BW := bw_of 664 (by decide +kernel) rfl
theorem wse_X2_writes : Cond.selects RX2 yX2_writes yX2_writes ∈ BW := bw_of 665 (by decide +kernel) rfl
abbrev MX3_beyondDoubt : MI := (RX3, cX3_beyondDoubt, 8, (some .boolean), 4, none, "beyondDoubt")
noncomputable def X3_beyondDoubt_L81 (F : Nat)  (rc10 : Nat → Int → Int → Int → HP → Option (Int × HP)) (l0 : Nat) (l2 : Int) (l4 : Int) (l5 : Int)  (h : HP) : Option (Int × HP) :=
  rc10 l0 l2 l4 (w32 (l5 + 1)) h
set_option maxRecDepth 100000 in
theorem SX3_beyondDoubt_L81 {K : Ctx} {F : Nat} {r : Int} {hf : HP}   (rc10 : Nat → Int → Int → Int → HP → Option (Int × HP)) (hrc10 : ∀ l0 l2 l4 l5 h, rc10 l0 l2 l4 l5 h = some (r, hf) → Go K MX3_beyondDoubt (QM K (some (vi r)) hf) hf 10 [(0, vr (some l0)), (2, vl l2), (4, vi l4), (5, vi l5)] [] h) (l0 : Nat) (l2 : Int) (l4 : Int) (l5 : Int)  (h : HP) (E : X3_beyondDoubt_L81 F  rc10 l0 l2 l4 l5 h = some (r, hf)) : Go K MX3_beyondDoubt (QM K (some (vi r)) hf) hf 81 [(0, vr (some l0)), (2, vl l2), (4, vi l4), (5, vi l5)] [] h := by
  unfold X3_beyondDoubt_L81 at E
  refine go_iinc (j := 3) (n := 84) (lv' := [(5, vi (w32 (l5 + 1))), (0, vr (some l0)), (2, vl l2), (4, vi l4)]) rfl dX3_beyondDoubt_81 rfl (Nat.le_of_ble_eq_true rfl) rfl ?_
  refine go_goto (tgt := 10) dX3_beyondDoubt_84 rfl ?_
  refine go_pick (lv' := [(0, vr (some l0)), (2, vl l2), (4, vi l4), (5, vi (w32 (l5 + 1)))]) [1, 2, 3, 0] rfl ?_
  exact hrc10 _ _ _ _ _ E
noncomputable def X3_beyondDoubt_L62 (F : Nat)  (rc10 : Nat → Int → Int → Int → HP → Option (Int × HP)) (l0 : Nat) (l2 : Int) (l4 : Int) (l5 : Int) (s0 : Int) (h : HP) : Option (Int × HP) :=
  if (xand (xush l4 l5) 1) = 0 then
    X3_beyondDoubt_L81 F rc10 l0 l2 l4 l5 h
  else
    if s0 = 0 then
      some (0, h)
    else
      X3_beyondDoubt_L81 F rc10 l0 l2 l4 l5 h
set_option maxRecDepth 100000 in
theorem SX3_beyondDoubt_L62 {K : Ctx} {F : Nat} {r : Int} {hf : HP}   (rc10 : Nat → Int → Int → Int → HP → Option (Int × HP)) (hrc10 : ∀ l0 l2 l4 l5 h, rc10 l0 l2 l4 l5 h = some (r, hf) → Go K MX3_beyondDoubt (QM K (some (vi r)) hf) hf 10 [(0, vr (some l0)), (2, vl l2), (4, vi l4), (5, vi l5)] [] h) (l0 : Nat) (l2 : Int) (l4 : Int) (l5 : Int) (s0 : Int) (h : HP) (E : X3_beyondDoubt_L62 F  rc10 l0 l2 l4 l5 s0 h = some (r, hf)) : Go K MX3_beyondDoubt (QM K (some (vi r)) hf) hf 62 [(0, vr (some l0)), (2, vl l2), (4, vi l4), (5, vi l5)] [vi s0] h := by
  unfold X3_beyondDoubt_L62 at E
  refine go_istore (n := 64) (lv' := [(7, vi s0), (0, vr (some l0)), (2, vl l2), (4, vi l4), (5, vi l5)]) dX3_beyondDoubt_62 rfl (Nat.le_of_ble_eq_true rfl) rfl ?_
  refine go_iload (j := 3) (n := 66) rfl dX3_beyondDoubt_64 rfl ?_
  refine go_iload (j := 4) (n := 68) rfl dX3_beyondDoubt_66 rfl ?_
  refine go_iushr (n := 69) dX3_beyondDoubt_68 rfl ?_
  refine go_iconst (z := 1) (n := 70) ⟨by decide, by decide⟩ dX3_beyondDoubt_69 rfl ?_
  refine go_iand (n := 71) dX3_beyondDoubt_70 rfl ?_
  refine go_if_eq (tgt := 81) (n := 74) dX3_beyondDoubt_71 rfl rfl (fun c1 => ?_) (fun c1 => ?_)
  · rw [if_pos c1] at E
    refine go_pick (lv' := [(0, vr (some l0)), (2, vl l2), (4, vi l4), (5, vi l5)]) [1, 2, 3, 4] rfl ?_
    exact SX3_beyondDoubt_L81   _ hrc10 _ _ _ _  _ E
  · rw [if_neg c1] at E
    refine go_iload (j := 0) (n := 76) rfl dX3_beyondDoubt_74 rfl ?_
    refine go_if_ne (tgt := 81) (n := 79) dX3_beyondDoubt_76 rfl rfl (fun c2 => ?_) (fun c2 => ?_)
    · rw [if_neg c2] at E
      refine go_pick (lv' := [(0, vr (some l0)), (2, vl l2), (4, vi l4), (5, vi l5)]) [1, 2, 3, 4] rfl ?_
      exact SX3_beyondDoubt_L81   _ hrc10 _ _ _ _  _ E
    · rw [if_pos c2] at E
      refine go_iconst (z := 0) (n := 80) ⟨by decide, by decide⟩ dX3_beyondDoubt_79 rfl ?_
      cases E
      exact go_zreturn rfl (Or.inl rfl) dX3_beyondDoubt_80
noncomputable def X3_beyondDoubt_L61 (F : Nat)  (rc10 : Nat → Int → Int → Int → HP → Option (Int × HP)) (l0 : Nat) (l2 : Int) (l4 : Int) (l5 : Int)  (h : HP) : Option (Int × HP) :=
  X3_beyondDoubt_L62 F rc10 l0 l2 l4 l5 0 h
set_option maxRecDepth 100000 in
theorem SX3_beyondDoubt_L61 {K : Ctx} {F : Nat} {r : Int} {hf : HP}   (rc10 : Nat → Int → Int → Int → HP → Option (Int × HP)) (hrc10 : ∀ l0 l2 l4 l5 h, rc10 l0 l2 l4 l5 h = some (r, hf) → Go K MX3_beyondDoubt (QM K (some (vi r)) hf) hf 10 [(0, vr (some l0)), (2, vl l2), (4, vi l4), (5, vi l5)] [] h) (l0 : Nat) (l2 : Int) (l4 : Int) (l5 : Int)  (h : HP) (E : X3_beyondDoubt_L61 F  rc10 l0 l2 l4 l5 h = some (r, hf)) : Go K MX3_beyondDoubt (QM K (some (vi r)) hf) hf 61 [(0, vr (some l0)), (2, vl l2), (4, vi l4), (5, vi l5)] [] h := by
  unfold X3_beyondDoubt_L61 at E
  refine go_iconst (z := 0) (n := 62) ⟨by decide, by decide⟩ dX3_beyondDoubt_61 rfl ?_
  exact SX3_beyondDoubt_L62   _ hrc10 _ _ _ _ _ _ E
noncomputable def X3_beyondDoubt_L45 (F : Nat)  (rc10 : Nat → Int → Int → Int → HP → Option (Int × HP)) (l0 : Nat) (l2 : Int) (l4 : Int) (l5 : Int) (l6 : Option Nat)  (h : HP) : Option (Int × HP) :=
  (xrc h l6 2 18).bind fun a3 =>
  xb (X2_writes F a3 h) fun v1 h2 =>
  if (xcmp (yand v1 l2) 0) = 0 then
    X3_beyondDoubt_L62 F rc10 l0 l2 l4 l5 1 h2
  else
    X3_beyondDoubt_L61 F rc10 l0 l2 l4 l5 h2
set_option maxRecDepth 100000 in
theorem SX3_beyondDoubt_L45 {K : Ctx} {F : Nat} {r : Int} {hf : HP}   (rc10 : Nat → Int → Int → Int → HP → Option (Int × HP)) (hrc10 : ∀ l0 l2 l4 l5 h, rc10 l0 l2 l4 l5 h = some (r, hf) → Go K MX3_beyondDoubt (QM K (some (vi r)) hf) hf 10 [(0, vr (some l0)), (2, vl l2), (4, vi l4), (5, vi l5)] [] h) (l0 : Nat) (l2 : Int) (l4 : Int) (l5 : Int) (l6 : Option Nat)  (h : HP) (E : X3_beyondDoubt_L45 F  rc10 l0 l2 l4 l5 l6 h = some (r, hf)) : Go K MX3_beyondDoubt (QM K (some (vi r)) hf) hf 45 [(0, vr (some l0)), (2, vl l2), (4, vi l4), (5, vi l5), (6, vr l6)] [] h := by
  unfold X3_beyondDoubt_L45 at E
  refine go_aload (j := 4) (n := 47) rfl dX3_beyondDoubt_45 rfl ?_
  replace E := Option.bind_eq_some_iff.mp E; obtain ⟨a3, ea3, E⟩ := E
  obtain ⟨fa3, ga3⟩ := xrc_some ea3
  replace E := xb_some E; obtain ⟨v1, h2, ev1, E⟩ := E
  refine go_callV (y := yX2_writes) (n := 50) (st := []) (as := []) (stk9 := [vl v1]) (OX2_writes ev1) yw_X2_writes ci_2 ga3 wml_RX3_60 wim_X2_writes wse_X2_writes (Nat.le_of_ble_eq_true rfl) rfl ⟨Nat.le_of_ble_eq_true rfl, Nat.le_of_ble_eq_true rfl⟩ (Nat.le_of_ble_eq_true rfl) dX3_beyondDoubt_47 rfl (by cases fa3; rfl) rfl ?_
  refine go_lload_n (j := 1) (n := 51) rfl rfl dX3_beyondDoubt_50 rfl ?_
  refine go_land (n := 52) dX3_beyondDoubt_51 rfl ?_
  refine go_lconst (w := 0) (n := 53) rfl dX3_beyondDoubt_52 rfl ?_
  refine go_lcmp (n := 54) dX3_beyondDoubt_53 rfl ?_
  refine go_if_ne (tgt := 61) (n := 57) dX3_beyondDoubt_54 rfl rfl (fun c4 => ?_) (fun c4 => ?_)
  · rw [if_neg c4] at E
    refine go_pick (lv' := [(0, vr (some l0)), (2, vl l2), (4, vi l4), (5, vi l5)]) [0, 1, 2, 3] rfl ?_
    exact SX3_beyondDoubt_L61   _ hrc10 _ _ _ _  _ E
  · rw [if_pos c4] at E
    refine go_iconst (z := 1) (n := 58) ⟨by decide, by decide⟩ dX3_beyondDoubt_57 rfl ?_
    refine go_goto (tgt := 62) dX3_beyondDoubt_58 rfl ?_
    refine go_pick (lv' := [(0, vr (some l0)), (2, vl l2), (4, vi l4), (5, vi l5)]) [0, 1, 2, 3] rfl ?_
    exact SX3_beyondDoubt_L62   _ hrc10 _ _ _ _ _ _ E
noncomputable def X3_beyondDoubt_L10 (F : Nat)   (k : Nat) : Nat → Int → Int → Int → HP → Option (Int × HP) :=
  Nat.rec (motive := fun _ => Nat → Int → Int → Int → HP → Option (Int × HP)) (fun _ _ _ _ _ => none) (fun _ rc10 l0 l2 l4 l5 h =>
    (xgI h (some l0) 3 7 5).bind fun v1 =>
    if v1 ≤ l5 then
      some (1, h)
    else
      (xrc h (some l0) 3 7).bind fun a5 =>
      xb (X3_at F a5 l5 h) fun v3 h4 =>
      (xgI h4 v3 2 18 9).bind fun v6 =>
      if v6 = 2 then
        X3_beyondDoubt_L45 F rc10 l0 l2 l4 l5 v3 h4
      else
        (xgI h4 v3 2 18 9).bind fun v8 =>
        if v8 = 4 then
          X3_beyondDoubt_L45 F rc10 l0 l2 l4 l5 v3 h4
        else
          X3_beyondDoubt_L61 F rc10 l0 l2 l4 l5 h4) k
theorem X3_beyondDoubt_L10_s (F : Nat)   (k : Nat) (l0 : Nat) (l2 : Int) (l4 : Int) (l5 : Int)  (h : HP) : X3_beyondDoubt_L10 F   (k + 1) l0 l2 l4 l5 h =
    (xgI h (some l0) 3 7 5).bind fun v1 =>
    if v1 ≤ l5 then
      some (1, h)
    else
      (xrc h (some l0) 3 7).bind fun a5 =>
      xb (X3_at F a5 l5 h) fun v3 h4 =>
      (xgI h4 v3 2 18 9).bind fun v6 =>
      if v6 = 2 then
        X3_beyondDoubt_L45 F (X3_beyondDoubt_L10 F k) l0 l2 l4 l5 v3 h4
      else
        (xgI h4 v3 2 18 9).bind fun v8 =>
        if v8 = 4 then
          X3_beyondDoubt_L45 F (X3_beyondDoubt_L10 F k) l0 l2 l4 l5 v3 h4
        else
          X3_beyondDoubt_L61 F (X3_beyondDoubt_L10 F k) l0 l2 l4 l5 h4 := rfl
set_option maxRecDepth 100000 in
theorem SX3_beyondDoubt_L10 {K : Ctx} {F : Nat} {r : Int} {hf : HP}     : ∀ (k : Nat) (l0 : Nat) (l2 : Int) (l4 : Int) (l5 : Int)  (h : HP), X3_beyondDoubt_L10 F   k l0 l2 l4 l5 h = some (r, hf) → Go K MX3_beyondDoubt (QM K (some (vi r)) hf) hf 10 [(0, vr (some l0)), (2, vl l2), (4, vi l4), (5, vi l5)] [] h := by
  intro k
  induction k with
  | zero => intro l0 l2 l4 l5 h E; exact nomatch E
  | succ k hrc10 =>
    intro l0 l2 l4 l5 h E
    rw [X3_beyondDoubt_L10_s] at E
    refine go_iload (j := 3) (n := 12) rfl dX3_beyondDoubt_10 rfl ?_
    refine go_aload_n (j := 0) (n := 13) rfl rfl dX3_beyondDoubt_12 rfl ?_
    replace E := Option.bind_eq_some_iff.mp E; obtain ⟨v1, ev1, E⟩ := E
    refine go_getI (n := 16) ev1 fl_RX3_36 rfl dX3_beyondDoubt_13 rfl ?_
    refine go_icmp_ge (tgt := 87) (n := 19) dX3_beyondDoubt_16 rfl rfl (fun c2 => ?_) (fun c2 => ?_)
    · rw [if_pos c2] at E
      refine go_iconst (z := 1) (n := 88) ⟨by decide, by decide⟩ dX3_beyondDoubt_87 rfl ?_
      cases E
      exact go_zreturn rfl (Or.inr rfl) dX3_beyondDoubt_88
    · rw [if_neg c2] at E
      refine go_aload_n (j := 0) (n := 20) rfl rfl dX3_beyondDoubt_19 rfl ?_
      refine go_iload (j := 3) (n := 22) rfl dX3_beyondDoubt_20 rfl ?_
      replace E := Option.bind_eq_some_iff.mp E; obtain ⟨a5, ea5, E⟩ := E
      obtain ⟨fa5, ga5⟩ := xrc_some ea5
      replace E := xb_some E; obtain ⟨v3, h4, ev3, E⟩ := E
      refine go_callV (y := yX3_at) (n := 25) (st := []) (as := [vi l5]) (stk9 := [vr v3]) (OX3_at ev3) yw_X3_at ci_3 ga5 wml_RX3_52 wim_X3_at wse_X3_at (Nat.le_of_ble_eq_true rfl) rfl ⟨Nat.le_of_ble_eq_true rfl, Nat.le_of_ble_eq_true rfl⟩ (Nat.le_of_ble_eq_true rfl) dX3_beyondDoubt_22 rfl (by cases fa5; rfl) rfl ?_
      refine go_astore (n := 27) (lv' := [(6, vr v3), (0, vr (some l0)), (2, vl l2), (4, vi l4), (5, vi l5)]) dX3_beyondDoubt_25 rfl (Nat.le_of_ble_eq_true rfl) rfl ?_
      refine go_aload (j := 0) (n := 29) rfl dX3_beyondDoubt_27 rfl ?_
      replace E := Option.bind_eq_some_iff.mp E; obtain ⟨v6, ev6, E⟩ := E
      refine go_getI (n := 32) ev6 fl_RX3_77 rfl dX3_beyondDoubt_29 rfl ?_
      refine go_iconst (z := 2) (n := 33) ⟨by decide, by decide⟩ dX3_beyondDoubt_32 rfl ?_
      refine go_icmp_eq (tgt := 45) (n := 36) dX3_beyondDoubt_33 rfl rfl (fun c7 => ?_) (fun c7 => ?_)
      · rw [if_pos c7] at E
        refine go_pick (lv' := [(0, vr (some l0)), (2, vl l2), (4, vi l4), (5, vi l5), (6, vr v3)]) [1, 2, 3, 4, 0] rfl ?_
        exact SX3_beyondDoubt_L45   _ hrc10 _ _ _ _ _  _ E
      · rw [if_neg c7] at E
        refine go_aload (j := 0) (n := 38) rfl dX3_beyondDoubt_36 rfl ?_
        replace E := Option.bind_eq_some_iff.mp E; obtain ⟨v8, ev8, E⟩ := E
        refine go_getI (n := 41) ev8 fl_RX3_77 rfl dX3_beyondDoubt_38 rfl ?_
        refine go_iconst (z := 4) (n := 42) ⟨by decide, by decide⟩ dX3_beyondDoubt_41 rfl ?_
        refine go_icmp_ne (tgt := 61) (n := 45) dX3_beyondDoubt_42 rfl rfl (fun c9 => ?_) (fun c9 => ?_)
        · rw [if_neg c9] at E
          refine go_pick (lv' := [(0, vr (some l0)), (2, vl l2), (4, vi l4), (5, vi l5)]) [1, 2, 3, 4] rfl ?_
          exact SX3_beyondDoubt_L61   _ hrc10 _ _ _ _  _ E
        · rw [if_pos c9] at E
          refine go_pick (lv' := [(0, vr (some l0)), (2, vl l2), (4, vi l4), (5, vi l5), (6, vr v3)]) [1, 2, 3, 4, 0] rfl ?_
          exact SX3_beyondDoubt_L45   _ hrc10 _ _ _ _ _  _ E
noncomputable def X3_beyondDoubt (F : Nat)   (l0 : Nat) (l1 : Int) (l2 : Int)  (h : HP) : Option (Int × HP) :=
  (xrc h (some l0) 3 7).bind fun a3 =>
  xb (X3_withAllBehind F a3 l1 h) fun v1 h2 =>
  X3_beyondDoubt_L10 F F l0 l2 v1 0 h2
set_option maxRecDepth 100000 in
theorem SX3_beyondDoubt {K : Ctx} {F : Nat} {r : Int} {hf : HP}     (l0 : Nat) (l1 : Int) (l2 : Int)  (h : HP) (E : X3_beyondDoubt F   l0 l1 l2 h = some (r, hf)) : Go K MX3_beyondDoubt (QM K (some (vi r)) hf) hf 0 [(0, vr (some l0)), (1, vi l1), (2, vl l2)] [] h := by
  unfold X3_beyondDoubt at E
  refine go_aload_n (j := 0) (n := 1) rfl rfl dX3_beyondDoubt_0 rfl ?_
  refine go_iload_n (j := 1) (n := 2) rfl rfl dX3_beyondDoubt_1 rfl ?_
  replace E := Option.bind_eq_some_iff.mp E; obtain ⟨a3, ea3, E⟩ := E
  obtain ⟨fa3, ga3⟩ := xrc_some ea3
  replace E := xb_some E; obtain ⟨v1, h2, ev1, E⟩ := E
  refine go_callV (y := yX3_withAllBehind) (n := 5) (st := []) (as := [vi l1]) (stk9 := [vi v1]) (OX3_withAllBehind ev1) yw_X3_withAllBehind ci_3 ga3 wml_RX3_83 wim_X3_withAllBehind wse_X3_withAllBehind (Nat.le_of_ble_eq_true rfl) rfl ⟨Nat.le_of_ble_eq_true rfl, Nat.le_of_ble_eq_true rfl⟩ (Nat.le_of_ble_eq_true rfl) dX3_beyondDoubt_2 rfl (by cases fa3; rfl) rfl ?_
  refine go_istore (n := 7) (lv' := [(4, vi v1), (0, vr (some l0)), (1, vi l1), (2, vl l2)]) dX3_beyondDoubt_5 rfl (Nat.le_of_ble_eq_true rfl) rfl ?_
  refine go_iconst (z := 0) (n := 8) ⟨by decide, by decide⟩ dX3_beyondDoubt_7 rfl ?_
  refine go_istore (n := 10) (lv' := [(5, vi 0), (4, vi v1), (0, vr (some l0)), (1, vi l1), (2, vl l2)]) dX3_beyondDoubt_8 rfl (Nat.le_of_ble_eq_true rfl) rfl ?_
  refine go_pick (lv' := [(0, vr (some l0)), (2, vl l2), (4, vi v1), (5, vi 0)]) [2, 4, 1, 0] rfl ?_
  exact SX3_beyondDoubt_L10     F _ _ _ _ _ E
theorem OX3_beyondDoubt {F : Nat} {l0 : Nat} {l1 : Int} {l2 : Int} {h hf : HP} {r : Int} (e : X3_beyondDoubt F l0 l1 l2 h = some (r, hf)) : Ok MX3_beyondDoubt [vr (some l0), vi l1, vl l2] (some (vi r)) h hf := fun K _ _ _ => SX3_beyondDoubt l0 l1 l2 h e
theorem yw_X11_needWhat : YW yX11_needWhat cX11_needWhat 2 none 2 := ⟨bw_of 1503 (by decide +kernel) rfl, bw_of 117 (by decide +kernel) rfl, ⟨by decide +kernel, by decide +kernel, by decide +kernel⟩, by decide +kernel⟩
theorem wml_RX11_184 : Cond.methodLink RX11 184 yX11_needWhat ∈ BW := bw_of 1501 (by decide +kernel) rfl
theorem wst_X11_needWhat : Cond.static yX11_needWhat ∈ BW := bw_of 1502 (by decide +kernel) rfl
theorem yw_X7_badWords : YW yX7_badWords cX7_badWords 9 (some .long) 1 := ⟨bw_of 682 (by decide +kernel) rfl, bw_of 121 (by decide +kernel) rfl, ⟨by decide +kernel, by decide +kernel, by decide +kernel⟩, by decide +kernel⟩
theorem wml_RX11_203 : Cond.methodLink RX11 203 yX7_badWords ∈ BW := bw_of 679 (by decide +kernel) rfl
theorem wim_X7_badWords : Cond.instanceMethod yX7_badWords ∈ BW := bw_of 680 (by decide +kernel) rfl
theorem wse_X7_badWords : Cond.selects RX7 yX7_badWords yX7_badWords ∈ BW := bw_of 681 (by decide +kernel) rfl
theorem yw_X3_beyondDoubt : YW yX3_beyondDoubt cX3_beyondDoubt 8 (some .boolean) 2 := ⟨bw_of 762 (by decide +kernel) rfl, bw_of 122 (by decide +kernel) rfl, ⟨by decide +kernel, by decide +kernel, by decide +kernel⟩, by decide +kernel⟩
theorem wml_RX11_207 : Cond.methodLink RX11 207 yX3_beyondDoubt ∈ BW := bw_of 1560 (by decide +kernel) rfl
theorem wim_X3_beyondDoubt : Cond.instanceMethod yX3_beyondDoubt ∈ BW := bw_of 760 (by decide +kernel) rfl
theorem wse_X3_beyondDoubt : Cond.selects RX3 yX3_beyondDoubt yX3_beyondDoubt ∈ BW := bw_of 761 (by decide +kernel) rfl
theorem wml_RX11_138 : Cond.methodLink RX11 138 yX2_writes ∈ BW := bw_of 1321 (by decide +kernel) rfl
abbrev MX11_doubt : MI := (RX11, cX11_doubt, 5, (some .boolean), 13, some [], "doubt")
noncomputable def X11_doubt (F : Nat)   (l0 : Nat) (l1 : Int) (l2 : Int)  (h : HP) : Option ((String ⊕ Int) × HP) :=
  (xgP h (some l0) 11 6 2).bind fun v1 =>
  (xgP h v1 4 12 2).bind fun v2 =>
  (xgI h v2 3 7 5).bind fun v3 =>
  xth (X11_needPlace F l1 v3 h) fun v4 h5 =>
  xth (X11_needWhat F l2 1 h5) fun v6 h7 =>
  (xgP h7 (some l0) 11 6 2).bind fun v8 =>
  (xgP h7 v8 4 12 1).bind fun v9 =>
  (xgP h7 (some l0) 11 6 2).bind fun v10 =>
  (xgP h7 v10 4 12 2).bind fun v11 =>
  (xrc h7 v9 7 10).bind fun a14 =>
  xb (X7_badWords F a14 v11 h7) fun v12 h13 =>
  if l2 = 0 then
    (xgP h13 (some l0) 11 6 2).bind fun v22 =>
    (xgP h13 v22 4 12 2).bind fun v23 =>
    (xrc h13 v23 3 7).bind fun a26 =>
    xb (X3_at F a26 l1 h13) fun v24 h25 =>
    (xrc h25 v24 2 18).bind fun a29 =>
    xb (X2_writes F a29 h25) fun v27 h28 =>
    some (.inr (if (xcmp (yand v27 v12) 0) = 0 then 0 else 1), h28)
  else
    (xgP h13 (some l0) 11 6 2).bind fun v16 =>
    (xgP h13 v16 4 12 2).bind fun v17 =>
    (xrc h13 v17 3 7).bind fun a20 =>
    xb (X3_beyondDoubt F a20 l1 v12 h13) fun v18 h19 =>
    xzX v18 h19
set_option maxRecDepth 100000 in
theorem SX11_doubt {K : Ctx} {F : Nat} {r : String ⊕ Int} {hf : HP}     (l0 : Nat) (l1 : Int) (l2 : Int)  (h : HP) (E : X11_doubt F   l0 l1 l2 h = some (r, hf)) : Go K MX11_doubt (QMX K (rI r) hf) hf 0 [(0, vr (some l0)), (1, vi l1), (2, vi l2)] [] h := by
  unfold X11_doubt at E
  refine go_iload_n (j := 1) (n := 1) rfl rfl dX11_doubt_0 rfl ?_
  refine go_aload_n (j := 0) (n := 2) rfl rfl dX11_doubt_1 rfl ?_
  replace E := Option.bind_eq_some_iff.mp E; obtain ⟨v1, ev1, E⟩ := E
  refine go_getP (n := 5) ev1 fl_RX11_23 rfl dX11_doubt_2 rfl ?_
  replace E := Option.bind_eq_some_iff.mp E; obtain ⟨v2, ev2, E⟩ := E
  refine go_getP (n := 8) ev2 fl_RX11_101 rfl dX11_doubt_5 rfl ?_
  replace E := Option.bind_eq_some_iff.mp E; obtain ⟨v3, ev3, E⟩ := E
  refine go_getI (n := 11) ev3 fl_RX11_105 rfl dX11_doubt_8 rfl ?_
  replace E := xth_some E; rcases E with ⟨x32, ev4, rfl⟩ | ⟨v4, h5, ev4, E⟩
  · exact go_callXSt (y := yX11_needPlace) (as := [vi l1, vi v3]) (st := []) (OXX11_needPlace ev4) yw_X11_needPlace wml_RX11_54 wst_X11_needPlace (Nat.le_of_ble_eq_true rfl) rfl ⟨Nat.le_of_ble_eq_true rfl, Nat.le_of_ble_eq_true rfl⟩ (Nat.le_of_ble_eq_true rfl) dX11_doubt_11 rfl rfl
  refine go_callXSr (y := yX11_needPlace) (n := 14) (st := []) (as := [vi l1, vi v3]) (stk9 := []) (OXX11_needPlace ev4) yw_X11_needPlace wml_RX11_54 wst_X11_needPlace (Nat.le_of_ble_eq_true rfl) rfl ⟨Nat.le_of_ble_eq_true rfl, Nat.le_of_ble_eq_true rfl⟩ (Nat.le_of_ble_eq_true rfl) dX11_doubt_11 rfl rfl rfl ?_
  refine go_iload_n (j := 2) (n := 15) rfl rfl dX11_doubt_14 rfl ?_
  refine go_iconst (z := 1) (n := 16) ⟨by decide, by decide⟩ dX11_doubt_15 rfl ?_
  replace E := xth_some E; rcases E with ⟨x31, ev6, rfl⟩ | ⟨v6, h7, ev6, E⟩
  · exact go_callXSt (y := yX11_needWhat) (as := [vi l2, vi 1]) (st := []) (OXX11_needWhat ev6) yw_X11_needWhat wml_RX11_184 wst_X11_needWhat (Nat.le_of_ble_eq_true rfl) rfl ⟨Nat.le_of_ble_eq_true rfl, Nat.le_of_ble_eq_true rfl⟩ (Nat.le_of_ble_eq_true rfl) dX11_doubt_16 rfl rfl
  refine go_callXSr (y := yX11_needWhat) (n := 19) (st := []) (as := [vi l2, vi 1]) (stk9 := []) (OXX11_needWhat ev6) yw_X11_needWhat wml_RX11_184 wst_X11_needWhat (Nat.le_of_ble_eq_true rfl) rfl ⟨Nat.le_of_ble_eq_true rfl, Nat.le_of_ble_eq_true rfl⟩ (Nat.le_of_ble_eq_true rfl) dX11_doubt_16 rfl rfl rfl ?_
  refine go_aload_n (j := 0) (n := 20) rfl rfl dX11_doubt_19 rfl ?_
  replace E := Option.bind_eq_some_iff.mp E; obtain ⟨v8, ev8, E⟩ := E
  refine go_getP (n := 23) ev8 fl_RX11_23 rfl dX11_doubt_20 rfl ?_
  replace E := Option.bind_eq_some_iff.mp E; obtain ⟨v9, ev9, E⟩ := E
  refine go_getP (n := 26) ev9 fl_RX11_60 rfl dX11_doubt_23 rfl ?_
  refine go_aload_n (j := 0) (n := 27) rfl rfl dX11_doubt_26 rfl ?_
  replace E := Option.bind_eq_some_iff.mp E; obtain ⟨v10, ev10, E⟩ := E
  refine go_getP (n := 30) ev10 fl_RX11_23 rfl dX11_doubt_27 rfl ?_
  replace E := Option.bind_eq_some_iff.mp E; obtain ⟨v11, ev11, E⟩ := E
  refine go_getP (n := 33) ev11 fl_RX11_101 rfl dX11_doubt_30 rfl ?_
  replace E := Option.bind_eq_some_iff.mp E; obtain ⟨a14, ea14, E⟩ := E
  obtain ⟨fa14, ga14⟩ := xrc_some ea14
  replace E := xb_some E; obtain ⟨v12, h13, ev12, E⟩ := E
  refine go_callV (y := yX7_badWords) (n := 36) (st := []) (as := [vr v11]) (stk9 := [vl v12]) (OX7_badWords ev12) yw_X7_badWords ci_7 ga14 wml_RX11_203 wim_X7_badWords wse_X7_badWords (Nat.le_of_ble_eq_true rfl) rfl ⟨Nat.le_of_ble_eq_true rfl, Nat.le_of_ble_eq_true rfl⟩ (Nat.le_of_ble_eq_true rfl) dX11_doubt_33 rfl (by cases fa14; rfl) rfl ?_
  refine go_lstore_n (n := 37) (lv' := [(3, vl v12), (0, vr (some l0)), (1, vi l1), (2, vi l2)]) rfl dX11_doubt_36 rfl (Nat.le_of_ble_eq_true rfl) rfl ?_
  refine go_iload_n (j := 3) (n := 38) rfl rfl dX11_doubt_37 rfl ?_
  refine go_if_ne (tgt := 70) (n := 41) dX11_doubt_38 rfl rfl (fun c15 => ?_) (fun c15 => ?_)
  · rw [if_neg c15] at E
    refine go_aload_n (j := 1) (n := 71) rfl rfl dX11_doubt_70 rfl ?_
    replace E := Option.bind_eq_some_iff.mp E; obtain ⟨v16, ev16, E⟩ := E
    refine go_getP (n := 74) ev16 fl_RX11_23 rfl dX11_doubt_71 rfl ?_
    replace E := Option.bind_eq_some_iff.mp E; obtain ⟨v17, ev17, E⟩ := E
    refine go_getP (n := 77) ev17 fl_RX11_101 rfl dX11_doubt_74 rfl ?_
    refine go_iload_n (j := 2) (n := 78) rfl rfl dX11_doubt_77 rfl ?_
    refine go_lload_n (j := 0) (n := 79) rfl rfl dX11_doubt_78 rfl ?_
    replace E := Option.bind_eq_some_iff.mp E; obtain ⟨a20, ea20, E⟩ := E
    obtain ⟨fa20, ga20⟩ := xrc_some ea20
    replace E := xb_some E; obtain ⟨v18, h19, ev18, E⟩ := E
    refine go_callV (y := yX3_beyondDoubt) (n := 82) (st := []) (as := [vi l1, vl v12]) (stk9 := [vi v18]) (OX3_beyondDoubt ev18) yw_X3_beyondDoubt ci_3 ga20 wml_RX11_207 wim_X3_beyondDoubt wse_X3_beyondDoubt (Nat.le_of_ble_eq_true rfl) rfl ⟨Nat.le_of_ble_eq_true rfl, Nat.le_of_ble_eq_true rfl⟩ (Nat.le_of_ble_eq_true rfl) dX11_doubt_79 rfl (by cases fa20; rfl) rfl ?_
    unfold xzX at E
    split at E
    · next c21 =>
      cases E
      exact go_ret (go_zreturn rfl c21 dX11_doubt_82)
    · cases E
  · rw [if_pos c15] at E
    refine go_aload_n (j := 1) (n := 42) rfl rfl dX11_doubt_41 rfl ?_
    replace E := Option.bind_eq_some_iff.mp E; obtain ⟨v22, ev22, E⟩ := E
    refine go_getP (n := 45) ev22 fl_RX11_23 rfl dX11_doubt_42 rfl ?_
    replace E := Option.bind_eq_some_iff.mp E; obtain ⟨v23, ev23, E⟩ := E
    refine go_getP (n := 48) ev23 fl_RX11_101 rfl dX11_doubt_45 rfl ?_
    refine go_iload_n (j := 2) (n := 49) rfl rfl dX11_doubt_48 rfl ?_
    replace E := Option.bind_eq_some_iff.mp E; obtain ⟨a26, ea26, E⟩ := E
    obtain ⟨fa26, ga26⟩ := xrc_some ea26
    replace E := xb_some E; obtain ⟨v24, h25, ev24, E⟩ := E
    refine go_callV (y := yX3_at) (n := 52) (st := []) (as := [vi l1]) (stk9 := [vr v24]) (OX3_at ev24) yw_X3_at ci_3 ga26 wml_RX11_115 wim_X3_at wse_X3_at (Nat.le_of_ble_eq_true rfl) rfl ⟨Nat.le_of_ble_eq_true rfl, Nat.le_of_ble_eq_true rfl⟩ (Nat.le_of_ble_eq_true rfl) dX11_doubt_49 rfl (by cases fa26; rfl) rfl ?_
    replace E := Option.bind_eq_some_iff.mp E; obtain ⟨a29, ea29, E⟩ := E
    obtain ⟨fa29, ga29⟩ := xrc_some ea29
    replace E := xb_some E; obtain ⟨v27, h28, ev27, E⟩ := E
    refine go_callV (y := yX2_writes) (n := 55) (st := []) (as := []) (stk9 := [vl v27]) (OX2_writes ev27) yw_X2_writes ci_2 ga29 wml_RX11_138 wim_X2_writes wse_X2_writes (Nat.le_of_ble_eq_true rfl) rfl ⟨Nat.le_of_ble_eq_true rfl, Nat.le_of_ble_eq_true rfl⟩ (Nat.le_of_ble_eq_true rfl) dX11_doubt_52 rfl (by cases fa29; rfl) rfl ?_
    refine go_lload_n (j := 0) (n := 56) rfl rfl dX11_doubt_55 rfl ?_
    refine go_land (n := 57) dX11_doubt_56 rfl ?_
    refine go_lconst (w := 0) (n := 58) rfl dX11_doubt_57 rfl ?_
    refine go_lcmp (n := 59) dX11_doubt_58 rfl ?_
    refine go_if_eq (tgt := 66) (n := 62) dX11_doubt_59 rfl rfl (fun c30 => ?_) (fun c30 => ?_)
    · simp only [if_pos c30] at E
      refine go_iconst (z := 0) (n := 67) ⟨by decide, by decide⟩ dX11_doubt_66 rfl ?_
      refine go_goto (tgt := 82) dX11_doubt_67 rfl ?_
      cases E
      exact go_ret (go_zreturn rfl (Or.inl rfl) dX11_doubt_82)
    · simp only [if_neg c30] at E
      refine go_iconst (z := 1) (n := 63) ⟨by decide, by decide⟩ dX11_doubt_62 rfl ?_
      refine go_goto (tgt := 82) dX11_doubt_63 rfl ?_
      cases E
      exact go_ret (go_zreturn rfl (Or.inr rfl) dX11_doubt_82)
theorem OXX11_doubt {F : Nat} {l0 : Nat} {l1 : Int} {l2 : Int} {h hf : HP} {r : String ⊕ Int} (e : X11_doubt F l0 l1 l2 h = some (r, hf)) : OkX MX11_doubt [vr (some l0), vi l1, vi l2] (rI r) h hf := fun K _ _ _ => SX11_doubt l0 l1 l2 h e
abbrev MX11_doubted : MI := (RX11, cX11_doubted, 1, (some .long), 4, none, "doubted")
noncomputable def X11_doubted (F : Nat)   (l0 : Nat)  (h : HP) : Option (Int × HP) :=
  (xgP h (some l0) 11 6 2).bind fun v1 =>
  (xgP h v1 4 12 1).bind fun v2 =>
  (xgP h (some l0) 11 6 2).bind fun v3 =>
  (xgP h v3 4 12 2).bind fun v4 =>
  (xrc h v2 7 10).bind fun a7 =>
  xb (X7_badWords F a7 v4 h) fun v5 h6 =>
  some (v5, h6)
set_option maxRecDepth 100000 in
theorem SX11_doubted {K : Ctx} {F : Nat} {r : Int} {hf : HP}     (l0 : Nat)  (h : HP) (E : X11_doubted F   l0 h = some (r, hf)) : Go K MX11_doubted (QM K (some (vl r)) hf) hf 0 [(0, vr (some l0))] [] h := by
  unfold X11_doubted at E
  refine go_aload_n (j := 0) (n := 1) rfl rfl dX11_doubted_0 rfl ?_
  replace E := Option.bind_eq_some_iff.mp E; obtain ⟨v1, ev1, E⟩ := E
  refine go_getP (n := 4) ev1 fl_RX11_23 rfl dX11_doubted_1 rfl ?_
  replace E := Option.bind_eq_some_iff.mp E; obtain ⟨v2, ev2, E⟩ := E
  refine go_getP (n := 7) ev2 fl_RX11_60 rfl dX11_doubted_4 rfl ?_
  refine go_aload_n (j := 0) (n := 8) rfl rfl dX11_doubted_7 rfl ?_
  replace E := Option.bind_eq_some_iff.mp E; obtain ⟨v3, ev3, E⟩ := E
  refine go_getP (n := 11) ev3 fl_RX11_23 rfl dX11_doubted_8 rfl ?_
  replace E := Option.bind_eq_some_iff.mp E; obtain ⟨v4, ev4, E⟩ := E
  refine go_getP (n := 14) ev4 fl_RX11_101 rfl dX11_doubted_11 rfl ?_
  replace E := Option.bind_eq_some_iff.mp E; obtain ⟨a7, ea7, E⟩ := E
  obtain ⟨fa7, ga7⟩ := xrc_some ea7
  replace E := xb_some E; obtain ⟨v5, h6, ev5, E⟩ := E
  refine go_callV (y := yX7_badWords) (n := 17) (st := []) (as := [vr v4]) (stk9 := [vl v5]) (OX7_badWords ev5) yw_X7_badWords ci_7 ga7 wml_RX11_203 wim_X7_badWords wse_X7_badWords (Nat.le_of_ble_eq_true rfl) rfl ⟨Nat.le_of_ble_eq_true rfl, Nat.le_of_ble_eq_true rfl⟩ (Nat.le_of_ble_eq_true rfl) dX11_doubted_14 rfl (by cases fa7; rfl) rfl ?_
  cases E
  exact go_lreturn rfl dX11_doubted_17
theorem OX11_doubted {F : Nat} {l0 : Nat} {h hf : HP} {r : Int} (e : X11_doubted F l0 h = some (r, hf)) : Ok MX11_doubted [vr (some l0)] (some (vl r)) h hf := fun K _ _ _ => SX11_doubted l0 h e
abbrev MX11_drop : MI := (RX11, cX11_drop, 3, (some .boolean), 13, some [], "drop")
noncomputable def X11_drop (F : Nat)   (l0 : Nat) (l1 : Int)  (h : HP) : Option ((String ⊕ Int) × HP) :=
  (xgP h (some l0) 11 6 2).bind fun v1 =>
  (xgP h v1 4 12 2).bind fun v2 =>
  (xgI h v2 3 7 5).bind fun v3 =>
  xth (X11_needPlace F l1 v3 h) fun v4 h5 =>
  (xgP h5 (some l0) 11 6 2).bind fun v6 =>
  (xgP h5 v6 4 12 2).bind fun v7 =>
  (xrc h5 v7 3 7).bind fun a10 =>
  xb (X3_at F a10 l1 h5) fun v8 h9 =>
  (xgI h9 v8 2 18 9).bind fun v11 =>
  if v11 = 0 then
    (xpI h9 v8 2 18 9 5).bind fun h13 =>
    some (.inr 1, h13)
  else
    some (.inr 0, h9)
set_option maxRecDepth 100000 in
theorem SX11_drop {K : Ctx} {F : Nat} {r : String ⊕ Int} {hf : HP}     (l0 : Nat) (l1 : Int)  (h : HP) (E : X11_drop F   l0 l1 h = some (r, hf)) : Go K MX11_drop (QMX K (rI r) hf) hf 0 [(0, vr (some l0)), (1, vi l1)] [] h := by
  unfold X11_drop at E
  refine go_iload_n (j := 1) (n := 1) rfl rfl dX11_drop_0 rfl ?_
  refine go_aload_n (j := 0) (n := 2) rfl rfl dX11_drop_1 rfl ?_
  replace E := Option.bind_eq_some_iff.mp E; obtain ⟨v1, ev1, E⟩ := E
  refine go_getP (n := 5) ev1 fl_RX11_23 rfl dX11_drop_2 rfl ?_
  replace E := Option.bind_eq_some_iff.mp E; obtain ⟨v2, ev2, E⟩ := E
  refine go_getP (n := 8) ev2 fl_RX11_101 rfl dX11_drop_5 rfl ?_
  replace E := Option.bind_eq_some_iff.mp E; obtain ⟨v3, ev3, E⟩ := E
  refine go_getI (n := 11) ev3 fl_RX11_105 rfl dX11_drop_8 rfl ?_
  replace E := xth_some E; rcases E with ⟨x14, ev4, rfl⟩ | ⟨v4, h5, ev4, E⟩
  · exact go_callXSt (y := yX11_needPlace) (as := [vi l1, vi v3]) (st := []) (OXX11_needPlace ev4) yw_X11_needPlace wml_RX11_54 wst_X11_needPlace (Nat.le_of_ble_eq_true rfl) rfl ⟨Nat.le_of_ble_eq_true rfl, Nat.le_of_ble_eq_true rfl⟩ (Nat.le_of_ble_eq_true rfl) dX11_drop_11 rfl rfl
  refine go_callXSr (y := yX11_needPlace) (n := 14) (st := []) (as := [vi l1, vi v3]) (stk9 := []) (OXX11_needPlace ev4) yw_X11_needPlace wml_RX11_54 wst_X11_needPlace (Nat.le_of_ble_eq_true rfl) rfl ⟨Nat.le_of_ble_eq_true rfl, Nat.le_of_ble_eq_true rfl⟩ (Nat.le_of_ble_eq_true rfl) dX11_drop_11 rfl rfl rfl ?_
  refine go_aload_n (j := 0) (n := 15) rfl rfl dX11_drop_14 rfl ?_
  replace E := Option.bind_eq_some_iff.mp E; obtain ⟨v6, ev6, E⟩ := E
  refine go_getP (n := 18) ev6 fl_RX11_23 rfl dX11_drop_15 rfl ?_
  replace E := Option.bind_eq_some_iff.mp E; obtain ⟨v7, ev7, E⟩ := E
  refine go_getP (n := 21) ev7 fl_RX11_101 rfl dX11_drop_18 rfl ?_
  refine go_iload_n (j := 1) (n := 22) rfl rfl dX11_drop_21 rfl ?_
  replace E := Option.bind_eq_some_iff.mp E; obtain ⟨a10, ea10, E⟩ := E
  obtain ⟨fa10, ga10⟩ := xrc_some ea10
  replace E := xb_some E; obtain ⟨v8, h9, ev8, E⟩ := E
  refine go_callV (y := yX3_at) (n := 25) (st := []) (as := [vi l1]) (stk9 := [vr v8]) (OX3_at ev8) yw_X3_at ci_3 ga10 wml_RX11_115 wim_X3_at wse_X3_at (Nat.le_of_ble_eq_true rfl) rfl ⟨Nat.le_of_ble_eq_true rfl, Nat.le_of_ble_eq_true rfl⟩ (Nat.le_of_ble_eq_true rfl) dX11_drop_22 rfl (by cases fa10; rfl) rfl ?_
  refine go_astore_n (n := 26) (lv' := [(2, vr v8), (0, vr (some l0)), (1, vi l1)]) rfl dX11_drop_25 rfl (Nat.le_of_ble_eq_true rfl) rfl ?_
  refine go_aload_n (j := 0) (n := 27) rfl rfl dX11_drop_26 rfl ?_
  replace E := Option.bind_eq_some_iff.mp E; obtain ⟨v11, ev11, E⟩ := E
  refine go_getI (n := 30) ev11 fl_RX11_154 rfl dX11_drop_27 rfl ?_
  refine go_if_eq (tgt := 35) (n := 33) dX11_drop_30 rfl rfl (fun c12 => ?_) (fun c12 => ?_)
  · rw [if_pos c12] at E
    refine go_aload_n (j := 0) (n := 36) rfl rfl dX11_drop_35 rfl ?_
    refine go_iconst (z := 5) (n := 37) ⟨by decide, by decide⟩ dX11_drop_36 rfl ?_
    replace E := Option.bind_eq_some_iff.mp E; obtain ⟨h13, eh13, E⟩ := E
    refine go_putI (n := 40) eh13 fl_RX11_154 rfl dX11_drop_37 rfl ?_
    refine go_iconst (z := 1) (n := 41) ⟨by decide, by decide⟩ dX11_drop_40 rfl ?_
    cases E
    exact go_ret (go_zreturn rfl (Or.inr rfl) dX11_drop_41)
  · rw [if_neg c12] at E
    refine go_iconst (z := 0) (n := 34) ⟨by decide, by decide⟩ dX11_drop_33 rfl ?_
    cases E
    exact go_ret (go_zreturn rfl (Or.inl rfl) dX11_drop_34)
theorem OXX11_drop {F : Nat} {l0 : Nat} {l1 : Int} {h hf : HP} {r : String ⊕ Int} (e : X11_drop F l0 l1 h = some (r, hf)) : OkX MX11_drop [vr (some l0), vi l1] (rI r) h hf := fun K _ _ _ => SX11_drop l0 l1 h e
theorem fl_RX11_12 : FL RX11 12 11 6 0 true := ⟨RX11, TX11, ci_11, by decide, bw_of 616 (by decide +kernel) rfl, rfl, rfl⟩
theorem fl_RX11_37 : FL RX11 37 8 17 1 false := ⟨RX8, TX8, ci_8, by decide, bw_of 160 (by decide +kernel) rfl, rfl, rfl⟩
abbrev MX11_end : MI := (RX11, cX11_end, 2, (some .boolean), 2, none, "end")
noncomputable def X11_end (F : Nat)   (l0 : Nat) (l1 : Int)  (h : HP) : Option (Int × HP) :=
  if l1 < 0 then
    some (0, h)
  else
    (xgP h (some l0) 11 6 0).bind fun v2 =>
    (xgI h v2 8 17 1).bind fun v3 =>
    if l1 ≤ v3 then
      (xgP h (some l0) 11 6 0).bind fun v5 =>
      (xpI h v5 8 17 1 l1).bind fun h6 =>
      some (1, h6)
    else
      some (0, h)
set_option maxRecDepth 100000 in
theorem SX11_end {K : Ctx} {F : Nat} {r : Int} {hf : HP}     (l0 : Nat) (l1 : Int)  (h : HP) (E : X11_end F   l0 l1 h = some (r, hf)) : Go K MX11_end (QM K (some (vi r)) hf) hf 0 [(0, vr (some l0)), (1, vi l1)] [] h := by
  unfold X11_end at E
  refine go_iload_n (j := 1) (n := 1) rfl rfl dX11_end_0 rfl ?_
  refine go_if_lt (tgt := 15) (n := 4) dX11_end_1 rfl rfl (fun c1 => ?_) (fun c1 => ?_)
  · rw [if_pos c1] at E
    refine go_iconst (z := 0) (n := 16) ⟨by decide, by decide⟩ dX11_end_15 rfl ?_
    cases E
    exact go_zreturn rfl (Or.inl rfl) dX11_end_16
  · rw [if_neg c1] at E
    refine go_iload_n (j := 1) (n := 5) rfl rfl dX11_end_4 rfl ?_
    refine go_aload_n (j := 0) (n := 6) rfl rfl dX11_end_5 rfl ?_
    replace E := Option.bind_eq_some_iff.mp E; obtain ⟨v2, ev2, E⟩ := E
    refine go_getP (n := 9) ev2 fl_RX11_12 rfl dX11_end_6 rfl ?_
    replace E := Option.bind_eq_some_iff.mp E; obtain ⟨v3, ev3, E⟩ := E
    refine go_getI (n := 12) ev3 fl_RX11_37 rfl dX11_end_9 rfl ?_
    refine go_icmp_le (tgt := 17) (n := 15) dX11_end_12 rfl rfl (fun c4 => ?_) (fun c4 => ?_)
    · rw [if_pos c4] at E
      refine go_aload_n (j := 0) (n := 18) rfl rfl dX11_end_17 rfl ?_
      replace E := Option.bind_eq_some_iff.mp E; obtain ⟨v5, ev5, E⟩ := E
      refine go_getP (n := 21) ev5 fl_RX11_12 rfl dX11_end_18 rfl ?_
      refine go_iload_n (j := 1) (n := 22) rfl rfl dX11_end_21 rfl ?_
      replace E := Option.bind_eq_some_iff.mp E; obtain ⟨h6, eh6, E⟩ := E
      refine go_putI (n := 25) eh6 fl_RX11_37 rfl dX11_end_22 rfl ?_
      refine go_iconst (z := 1) (n := 26) ⟨by decide, by decide⟩ dX11_end_25 rfl ?_
      cases E
      exact go_zreturn rfl (Or.inr rfl) dX11_end_26
    · rw [if_neg c4] at E
      refine go_iconst (z := 0) (n := 16) ⟨by decide, by decide⟩ dX11_end_15 rfl ?_
      cases E
      exact go_zreturn rfl (Or.inl rfl) dX11_end_16
theorem OX11_end {F : Nat} {l0 : Nat} {l1 : Int} {h hf : HP} {r : Int} (e : X11_end F l0 l1 h = some (r, hf)) : Ok MX11_end [vr (some l0), vi l1] (some (vi r)) h hf := fun K _ _ _ => SX11_end l0 l1 h e
theorem fl_RX10_28 : FL RX10 28 10 10 5 false := ⟨RX10, TX10, ci_10, by decide, bw_of 422 (by decide +kernel) rfl, rfl, rfl⟩
theorem fl_RX10_31 : FL RX10 31 10 10 6 false := ⟨RX10, TX10, ci_10, by decide, bw_of 423 (by decide +kernel) rfl, rfl, rfl⟩
theorem fl_RX10_34 : FL RX10 34 10 10 7 false := ⟨RX10, TX10, ci_10, by decide, bw_of 424 (by decide +kernel) rfl, rfl, rfl⟩
theorem fl_RX10_37 : FL RX10 37 10 10 8 false := ⟨RX10, TX10, ci_10, by decide, bw_of 425 (by decide +kernel) rfl, rfl, rfl⟩
theorem fl_RX10_40 : FL RX10 40 10 10 9 false := ⟨RX10, TX10, ci_10, by decide, bw_of 426 (by decide +kernel) rfl, rfl, rfl⟩
theorem wml_RX10_43 : Cond.methodLink RX10 43 Lib.Math.min.name ∈ BW := bw_of 1583 (by decide +kernel) rfl
theorem wml_RX10_49 : Cond.methodLink RX10 49 Lib.Math.max.name ∈ BW := bw_of 1584 (by decide +kernel) rfl
abbrev MX10_find : MI := (RX10, cX10_find, 4, none, 2, none, "find")
noncomputable def X10_find_L159 (F : Nat)  (rc37 : Nat → Int → Int → Int → HP → Option (Unit × HP)) (l0 : Nat) (l1 : Int) (l2 : Int) (l3 : Int)  (h : HP) : Option (Unit × HP) :=
  rc37 l0 l1 l2 (w32 (l3 + (-1))) h
set_option maxRecDepth 100000 in
theorem SX10_find_L159 {K : Ctx} {F : Nat} {r : Unit} {hf : HP}   (rc37 : Nat → Int → Int → Int → HP → Option (Unit × HP)) (hrc37 : ∀ l0 l1 l2 l3 h, rc37 l0 l1 l2 l3 h = some (r, hf) → Go K MX10_find (QM K none hf) hf 37 [(0, vr (some l0)), (1, vi l1), (2, vi l2), (3, vi l3)] [] h) (l0 : Nat) (l1 : Int) (l2 : Int) (l3 : Int)  (h : HP) (E : X10_find_L159 F  rc37 l0 l1 l2 l3 h = some (r, hf)) : Go K MX10_find (QM K none hf) hf 159 [(0, vr (some l0)), (1, vi l1), (2, vi l2), (3, vi l3)] [] h := by
  unfold X10_find_L159 at E
  refine go_iinc (j := 3) (n := 162) (lv' := [(3, vi (w32 (l3 + (-1)))), (0, vr (some l0)), (1, vi l1), (2, vi l2)]) rfl dX10_find_159 rfl (Nat.le_of_ble_eq_true rfl) rfl ?_
  refine go_goto (tgt := 37) dX10_find_162 rfl ?_
  refine go_pick (lv' := [(0, vr (some l0)), (1, vi l1), (2, vi l2), (3, vi (w32 (l3 + (-1))))]) [1, 2, 3, 0] rfl ?_
  exact hrc37 _ _ _ _ _ E
noncomputable def X10_find_L99 (F : Nat)  (rc37 : Nat → Int → Int → Int → HP → Option (Unit × HP)) (l0 : Nat) (l1 : Int) (l2 : Int) (l3 : Int) (s0 : Int) (s1 : Option Nat) (h : HP) : Option (Unit × HP) :=
  (xpI h s1 10 10 8 s0).bind fun h1 =>
  (xgI h1 (some l0) 10 10 9).bind fun v2 =>
  (xgP h1 (some l0) 10 10 3).bind fun v3 =>
  (xaI h1 v3 100 l3).bind fun v4 =>
  (xpI h1 (some l0) 10 10 9 (max v2 v4)).bind fun h5 =>
  (xgI h5 (some l0) 10 10 6).bind fun v6 =>
  (xgP h5 (some l0) 10 10 3).bind fun v7 =>
  (xaI h5 v7 100 l3).bind fun v8 =>
  (xpI h5 (some l0) 10 10 6 (w32 (v6 + v8))).bind fun h9 =>
  (xgI h9 (some l0) 10 10 7).bind fun v10 =>
  (xgP h9 (some l0) 10 10 2).bind fun v11 =>
  (xaI h9 v11 100 l3).bind fun v12 =>
  (xpI h9 (some l0) 10 10 7 (w32 (v10 + v12))).bind fun h13 =>
  (xgI h13 (some l0) 10 10 5).bind fun v14 =>
  (xpI h13 (some l0) 10 10 5 (w32 (v14 + 1))).bind fun h15 =>
  X10_find_L159 F rc37 l0 l1 l2 l3 h15
set_option maxRecDepth 100000 in
theorem SX10_find_L99 {K : Ctx} {F : Nat} {r : Unit} {hf : HP}   (rc37 : Nat → Int → Int → Int → HP → Option (Unit × HP)) (hrc37 : ∀ l0 l1 l2 l3 h, rc37 l0 l1 l2 l3 h = some (r, hf) → Go K MX10_find (QM K none hf) hf 37 [(0, vr (some l0)), (1, vi l1), (2, vi l2), (3, vi l3)] [] h) (l0 : Nat) (l1 : Int) (l2 : Int) (l3 : Int) (s0 : Int) (s1 : Option Nat) (h : HP) (E : X10_find_L99 F  rc37 l0 l1 l2 l3 s0 s1 h = some (r, hf)) : Go K MX10_find (QM K none hf) hf 99 [(0, vr (some l0)), (1, vi l1), (2, vi l2), (3, vi l3)] [vi s0, vr s1] h := by
  unfold X10_find_L99 at E
  replace E := Option.bind_eq_some_iff.mp E; obtain ⟨h1, eh1, E⟩ := E
  refine go_putI (n := 102) eh1 fl_RX10_37 rfl dX10_find_99 rfl ?_
  refine go_aload_n (j := 0) (n := 103) rfl rfl dX10_find_102 rfl ?_
  refine go_aload_n (j := 0) (n := 104) rfl rfl dX10_find_103 rfl ?_
  replace E := Option.bind_eq_some_iff.mp E; obtain ⟨v2, ev2, E⟩ := E
  refine go_getI (n := 107) ev2 fl_RX10_40 rfl dX10_find_104 rfl ?_
  refine go_aload_n (j := 0) (n := 108) rfl rfl dX10_find_107 rfl ?_
  replace E := Option.bind_eq_some_iff.mp E; obtain ⟨v3, ev3, E⟩ := E
  refine go_getP (n := 111) ev3 fl_RX10_21 rfl dX10_find_108 rfl ?_
  refine go_iload_n (j := 3) (n := 112) rfl rfl dX10_find_111 rfl ?_
  replace E := Option.bind_eq_some_iff.mp E; obtain ⟨v4, ev4, E⟩ := E
  refine go_iaload (n := 113) ev4 dX10_find_112 rfl ?_
  refine go_mmax (n := 116) wml_RX10_49 jm_max_i (Nat.le_of_ble_eq_true rfl) (Nat.le_of_ble_eq_true rfl) dX10_find_113 rfl ?_
  replace E := Option.bind_eq_some_iff.mp E; obtain ⟨h5, eh5, E⟩ := E
  refine go_putI (n := 119) eh5 fl_RX10_40 rfl dX10_find_116 rfl ?_
  refine go_aload_n (j := 0) (n := 120) rfl rfl dX10_find_119 rfl ?_
  refine go_dup (n := 121) rfl dX10_find_120 rfl ?_
  replace E := Option.bind_eq_some_iff.mp E; obtain ⟨v6, ev6, E⟩ := E
  refine go_getI (n := 124) ev6 fl_RX10_31 rfl dX10_find_121 rfl ?_
  refine go_aload_n (j := 0) (n := 125) rfl rfl dX10_find_124 rfl ?_
  replace E := Option.bind_eq_some_iff.mp E; obtain ⟨v7, ev7, E⟩ := E
  refine go_getP (n := 128) ev7 fl_RX10_21 rfl dX10_find_125 rfl ?_
  refine go_iload_n (j := 3) (n := 129) rfl rfl dX10_find_128 rfl ?_
  replace E := Option.bind_eq_some_iff.mp E; obtain ⟨v8, ev8, E⟩ := E
  refine go_iaload (n := 130) ev8 dX10_find_129 rfl ?_
  refine go_iadd (n := 131) dX10_find_130 rfl ?_
  replace E := Option.bind_eq_some_iff.mp E; obtain ⟨h9, eh9, E⟩ := E
  refine go_putI (n := 134) eh9 fl_RX10_31 rfl dX10_find_131 rfl ?_
  refine go_aload_n (j := 0) (n := 135) rfl rfl dX10_find_134 rfl ?_
  refine go_dup (n := 136) rfl dX10_find_135 rfl ?_
  replace E := Option.bind_eq_some_iff.mp E; obtain ⟨v10, ev10, E⟩ := E
  refine go_getI (n := 139) ev10 fl_RX10_34 rfl dX10_find_136 rfl ?_
  refine go_aload_n (j := 0) (n := 140) rfl rfl dX10_find_139 rfl ?_
  replace E := Option.bind_eq_some_iff.mp E; obtain ⟨v11, ev11, E⟩ := E
  refine go_getP (n := 143) ev11 fl_RX10_18 rfl dX10_find_140 rfl ?_
  refine go_iload_n (j := 3) (n := 144) rfl rfl dX10_find_143 rfl ?_
  replace E := Option.bind_eq_some_iff.mp E; obtain ⟨v12, ev12, E⟩ := E
  refine go_iaload (n := 145) ev12 dX10_find_144 rfl ?_
  refine go_iadd (n := 146) dX10_find_145 rfl ?_
  replace E := Option.bind_eq_some_iff.mp E; obtain ⟨h13, eh13, E⟩ := E
  refine go_putI (n := 149) eh13 fl_RX10_34 rfl dX10_find_146 rfl ?_
  refine go_aload_n (j := 0) (n := 150) rfl rfl dX10_find_149 rfl ?_
  refine go_dup (n := 151) rfl dX10_find_150 rfl ?_
  replace E := Option.bind_eq_some_iff.mp E; obtain ⟨v14, ev14, E⟩ := E
  refine go_getI (n := 154) ev14 fl_RX10_28 rfl dX10_find_151 rfl ?_
  refine go_iconst (z := 1) (n := 155) ⟨by decide, by decide⟩ dX10_find_154 rfl ?_
  refine go_iadd (n := 156) dX10_find_155 rfl ?_
  replace E := Option.bind_eq_some_iff.mp E; obtain ⟨h15, eh15, E⟩ := E
  refine go_putI (n := 159) eh15 fl_RX10_28 rfl dX10_find_156 rfl ?_
  exact SX10_find_L159   _ hrc37 _ _ _ _  _ E
noncomputable def X10_find_L37 (F : Nat)   (k : Nat) : Nat → Int → Int → Int → HP → Option (Unit × HP) :=
  Nat.rec (motive := fun _ => Nat → Int → Int → Int → HP → Option (Unit × HP)) (fun _ _ _ _ _ => none) (fun _ rc37 l0 l1 l2 l3 h =>
    if l3 < 0 then
      some ((), h)
    else
      (xgI h (some l0) 10 10 5).bind fun v2 =>
      if 4 ≤ v2 then
        some ((), h)
      else
        (xgP h (some l0) 10 10 0).bind fun v4 =>
        (xaI h v4 100 l3).bind fun v5 =>
        if v5 = l1 then
          (xgP h (some l0) 10 10 1).bind fun v7 =>
          (xaI h v7 100 l3).bind fun v8 =>
          if v8 = l2 then
            (xgI h (some l0) 10 10 5).bind fun v10 =>
            if v10 = 0 then
              (xgP h (some l0) 10 10 3).bind fun v15 =>
              (xaI h v15 100 l3).bind fun v16 =>
              X10_find_L99 F rc37 l0 l1 l2 l3 v16 (some l0) h
            else
              (xgI h (some l0) 10 10 8).bind fun v12 =>
              (xgP h (some l0) 10 10 3).bind fun v13 =>
              (xaI h v13 100 l3).bind fun v14 =>
              X10_find_L99 F rc37 l0 l1 l2 l3 (min v12 v14) (some l0) h
          else
            X10_find_L159 F rc37 l0 l1 l2 l3 h
        else
          X10_find_L159 F rc37 l0 l1 l2 l3 h) k
theorem X10_find_L37_s (F : Nat)   (k : Nat) (l0 : Nat) (l1 : Int) (l2 : Int) (l3 : Int)  (h : HP) : X10_find_L37 F   (k + 1) l0 l1 l2 l3 h =
    if l3 < 0 then
      some ((), h)
    else
      (xgI h (some l0) 10 10 5).bind fun v2 =>
      if 4 ≤ v2 then
        some ((), h)
      else
        (xgP h (some l0) 10 10 0).bind fun v4 =>
        (xaI h v4 100 l3).bind fun v5 =>
        if v5 = l1 then
          (xgP h (some l0) 10 10 1).bind fun v7 =>
          (xaI h v7 100 l3).bind fun v8 =>
          if v8 = l2 then
            (xgI h (some l0) 10 10 5).bind fun v10 =>
            if v10 = 0 then
              (xgP h (some l0) 10 10 3).bind fun v15 =>
              (xaI h v15 100 l3).bind fun v16 =>
              X10_find_L99 F (X10_find_L37 F k) l0 l1 l2 l3 v16 (some l0) h
            else
              (xgI h (some l0) 10 10 8).bind fun v12 =>
              (xgP h (some l0) 10 10 3).bind fun v13 =>
              (xaI h v13 100 l3).bind fun v14 =>
              X10_find_L99 F (X10_find_L37 F k) l0 l1 l2 l3 (min v12 v14) (some l0) h
          else
            X10_find_L159 F (X10_find_L37 F k) l0 l1 l2 l3 h
        else
          X10_find_L159 F (X10_find_L37 F k) l0 l1 l2 l3 h := rfl
set_option maxRecDepth 100000 in
theorem SX10_find_L37 {K : Ctx} {F : Nat} {r : Unit} {hf : HP}     : ∀ (k : Nat) (l0 : Nat) (l1 : Int) (l2 : Int) (l3 : Int)  (h : HP), X10_find_L37 F   k l0 l1 l2 l3 h = some (r, hf) → Go K MX10_find (QM K none hf) hf 37 [(0, vr (some l0)), (1, vi l1), (2, vi l2), (3, vi l3)] [] h := by
  intro k
  induction k with
  | zero => intro l0 l1 l2 l3 h E; exact nomatch E
  | succ k hrc37 =>
    intro l0 l1 l2 l3 h E
    rw [X10_find_L37_s] at E
    refine go_iload_n (j := 3) (n := 38) rfl rfl dX10_find_37 rfl ?_
    refine go_if_lt (tgt := 165) (n := 41) dX10_find_38 rfl rfl (fun c1 => ?_) (fun c1 => ?_)
    · rw [if_pos c1] at E
      cases E
      exact go_return rfl dX10_find_165
    · rw [if_neg c1] at E
      refine go_aload_n (j := 0) (n := 42) rfl rfl dX10_find_41 rfl ?_
      replace E := Option.bind_eq_some_iff.mp E; obtain ⟨v2, ev2, E⟩ := E
      refine go_getI (n := 45) ev2 fl_RX10_28 rfl dX10_find_42 rfl ?_
      refine go_iconst (z := 4) (n := 46) ⟨by decide, by decide⟩ dX10_find_45 rfl ?_
      refine go_icmp_ge (tgt := 165) (n := 49) dX10_find_46 rfl rfl (fun c3 => ?_) (fun c3 => ?_)
      · rw [if_pos c3] at E
        cases E
        exact go_return rfl dX10_find_165
      · rw [if_neg c3] at E
        refine go_aload_n (j := 0) (n := 50) rfl rfl dX10_find_49 rfl ?_
        replace E := Option.bind_eq_some_iff.mp E; obtain ⟨v4, ev4, E⟩ := E
        refine go_getP (n := 53) ev4 fl_RX10_9 rfl dX10_find_50 rfl ?_
        refine go_iload_n (j := 3) (n := 54) rfl rfl dX10_find_53 rfl ?_
        replace E := Option.bind_eq_some_iff.mp E; obtain ⟨v5, ev5, E⟩ := E
        refine go_iaload (n := 55) ev5 dX10_find_54 rfl ?_
        refine go_iload_n (j := 1) (n := 56) rfl rfl dX10_find_55 rfl ?_
        refine go_icmp_ne (tgt := 159) (n := 59) dX10_find_56 rfl rfl (fun c6 => ?_) (fun c6 => ?_)
        · rw [if_neg c6] at E
          exact SX10_find_L159   _ hrc37 _ _ _ _  _ E
        · rw [if_pos c6] at E
          refine go_aload_n (j := 0) (n := 60) rfl rfl dX10_find_59 rfl ?_
          replace E := Option.bind_eq_some_iff.mp E; obtain ⟨v7, ev7, E⟩ := E
          refine go_getP (n := 63) ev7 fl_RX10_15 rfl dX10_find_60 rfl ?_
          refine go_iload_n (j := 3) (n := 64) rfl rfl dX10_find_63 rfl ?_
          replace E := Option.bind_eq_some_iff.mp E; obtain ⟨v8, ev8, E⟩ := E
          refine go_iaload (n := 65) ev8 dX10_find_64 rfl ?_
          refine go_iload_n (j := 2) (n := 66) rfl rfl dX10_find_65 rfl ?_
          refine go_icmp_ne (tgt := 159) (n := 69) dX10_find_66 rfl rfl (fun c9 => ?_) (fun c9 => ?_)
          · rw [if_neg c9] at E
            exact SX10_find_L159   _ hrc37 _ _ _ _  _ E
          · rw [if_pos c9] at E
            refine go_aload_n (j := 0) (n := 70) rfl rfl dX10_find_69 rfl ?_
            refine go_aload_n (j := 0) (n := 71) rfl rfl dX10_find_70 rfl ?_
            replace E := Option.bind_eq_some_iff.mp E; obtain ⟨v10, ev10, E⟩ := E
            refine go_getI (n := 74) ev10 fl_RX10_28 rfl dX10_find_71 rfl ?_
            refine go_if_ne (tgt := 86) (n := 77) dX10_find_74 rfl rfl (fun c11 => ?_) (fun c11 => ?_)
            · rw [if_neg c11] at E
              refine go_aload_n (j := 0) (n := 87) rfl rfl dX10_find_86 rfl ?_
              replace E := Option.bind_eq_some_iff.mp E; obtain ⟨v12, ev12, E⟩ := E
              refine go_getI (n := 90) ev12 fl_RX10_37 rfl dX10_find_87 rfl ?_
              refine go_aload_n (j := 0) (n := 91) rfl rfl dX10_find_90 rfl ?_
              replace E := Option.bind_eq_some_iff.mp E; obtain ⟨v13, ev13, E⟩ := E
              refine go_getP (n := 94) ev13 fl_RX10_21 rfl dX10_find_91 rfl ?_
              refine go_iload_n (j := 3) (n := 95) rfl rfl dX10_find_94 rfl ?_
              replace E := Option.bind_eq_some_iff.mp E; obtain ⟨v14, ev14, E⟩ := E
              refine go_iaload (n := 96) ev14 dX10_find_95 rfl ?_
              refine go_mmin (n := 99) wml_RX10_43 jm_min_i (Nat.le_of_ble_eq_true rfl) (Nat.le_of_ble_eq_true rfl) dX10_find_96 rfl ?_
              exact SX10_find_L99   _ hrc37 _ _ _ _ _ _ _ E
            · rw [if_pos c11] at E
              refine go_aload_n (j := 0) (n := 78) rfl rfl dX10_find_77 rfl ?_
              replace E := Option.bind_eq_some_iff.mp E; obtain ⟨v15, ev15, E⟩ := E
              refine go_getP (n := 81) ev15 fl_RX10_21 rfl dX10_find_78 rfl ?_
              refine go_iload_n (j := 3) (n := 82) rfl rfl dX10_find_81 rfl ?_
              replace E := Option.bind_eq_some_iff.mp E; obtain ⟨v16, ev16, E⟩ := E
              refine go_iaload (n := 83) ev16 dX10_find_82 rfl ?_
              refine go_goto (tgt := 99) dX10_find_83 rfl ?_
              exact SX10_find_L99   _ hrc37 _ _ _ _ _ _ _ E
noncomputable def X10_find (F : Nat)   (l0 : Nat) (l1 : Int) (l2 : Int)  (h : HP) : Option (Unit × HP) :=
  (xpI h (some l0) 10 10 5 0).bind fun h1 =>
  (xpI h1 (some l0) 10 10 6 0).bind fun h2 =>
  (xpI h2 (some l0) 10 10 7 0).bind fun h3 =>
  (xpI h3 (some l0) 10 10 8 (-1)).bind fun h4 =>
  (xpI h4 (some l0) 10 10 9 (-1)).bind fun h5 =>
  (xgI h5 (some l0) 10 10 4).bind fun v6 =>
  X10_find_L37 F F l0 l1 l2 (w32 ((min v6 100) - 1)) h5
set_option maxRecDepth 100000 in
theorem SX10_find {K : Ctx} {F : Nat} {r : Unit} {hf : HP}     (l0 : Nat) (l1 : Int) (l2 : Int)  (h : HP) (E : X10_find F   l0 l1 l2 h = some (r, hf)) : Go K MX10_find (QM K none hf) hf 0 [(0, vr (some l0)), (1, vi l1), (2, vi l2)] [] h := by
  unfold X10_find at E
  refine go_aload_n (j := 0) (n := 1) rfl rfl dX10_find_0 rfl ?_
  refine go_iconst (z := 0) (n := 2) ⟨by decide, by decide⟩ dX10_find_1 rfl ?_
  replace E := Option.bind_eq_some_iff.mp E; obtain ⟨h1, eh1, E⟩ := E
  refine go_putI (n := 5) eh1 fl_RX10_28 rfl dX10_find_2 rfl ?_
  refine go_aload_n (j := 0) (n := 6) rfl rfl dX10_find_5 rfl ?_
  refine go_iconst (z := 0) (n := 7) ⟨by decide, by decide⟩ dX10_find_6 rfl ?_
  replace E := Option.bind_eq_some_iff.mp E; obtain ⟨h2, eh2, E⟩ := E
  refine go_putI (n := 10) eh2 fl_RX10_31 rfl dX10_find_7 rfl ?_
  refine go_aload_n (j := 0) (n := 11) rfl rfl dX10_find_10 rfl ?_
  refine go_iconst (z := 0) (n := 12) ⟨by decide, by decide⟩ dX10_find_11 rfl ?_
  replace E := Option.bind_eq_some_iff.mp E; obtain ⟨h3, eh3, E⟩ := E
  refine go_putI (n := 15) eh3 fl_RX10_34 rfl dX10_find_12 rfl ?_
  refine go_aload_n (j := 0) (n := 16) rfl rfl dX10_find_15 rfl ?_
  refine go_iconst (z := (-1)) (n := 17) ⟨by decide, by decide⟩ dX10_find_16 rfl ?_
  replace E := Option.bind_eq_some_iff.mp E; obtain ⟨h4, eh4, E⟩ := E
  refine go_putI (n := 20) eh4 fl_RX10_37 rfl dX10_find_17 rfl ?_
  refine go_aload_n (j := 0) (n := 21) rfl rfl dX10_find_20 rfl ?_
  refine go_iconst (z := (-1)) (n := 22) ⟨by decide, by decide⟩ dX10_find_21 rfl ?_
  replace E := Option.bind_eq_some_iff.mp E; obtain ⟨h5, eh5, E⟩ := E
  refine go_putI (n := 25) eh5 fl_RX10_40 rfl dX10_find_22 rfl ?_
  refine go_aload_n (j := 0) (n := 26) rfl rfl dX10_find_25 rfl ?_
  replace E := Option.bind_eq_some_iff.mp E; obtain ⟨v6, ev6, E⟩ := E
  refine go_getI (n := 29) ev6 fl_RX10_24 rfl dX10_find_26 rfl ?_
  refine go_bipush (z := 100) (n := 31) ⟨by decide, by decide⟩ dX10_find_29 rfl ?_
  refine go_mmin (n := 34) wml_RX10_43 jm_min_i (Nat.le_of_ble_eq_true rfl) (Nat.le_of_ble_eq_true rfl) dX10_find_31 rfl ?_
  refine go_iconst (z := 1) (n := 35) ⟨by decide, by decide⟩ dX10_find_34 rfl ?_
  refine go_isub (n := 36) dX10_find_35 rfl ?_
  refine go_istore_n (n := 37) (lv' := [(3, vi (w32 ((min v6 100) - 1))), (0, vr (some l0)), (1, vi l1), (2, vi l2)]) rfl dX10_find_36 rfl (Nat.le_of_ble_eq_true rfl) rfl ?_
  refine go_pick (lv' := [(0, vr (some l0)), (1, vi l1), (2, vi l2), (3, vi (w32 ((min v6 100) - 1)))]) [1, 2, 3, 0] rfl ?_
  exact SX10_find_L37     F _ _ _ _ _ E
theorem OX10_find {F : Nat} {l0 : Nat} {l1 : Int} {l2 : Int} {h hf : HP} {r : Unit} (e : X10_find F l0 l1 l2 h = some (r, hf)) : Ok MX10_find [vr (some l0), vi l1, vi l2] none h hf := fun K _ _ _ => SX10_find l0 l1 l2 h e
abbrev MX10_isFar : MI := (RX10, cX10_isFar, 2, (some .boolean), 2, none, "isFar")
noncomputable def X10_isFar_L27 (F : Nat)     (h : HP) : Option (Int × HP) :=
  some (1, h)
set_option maxRecDepth 100000 in
theorem SX10_isFar_L27 {K : Ctx} {F : Nat} {r : Int} {hf : HP}       (h : HP) (E : X10_isFar_L27 F    h = some (r, hf)) : Go K MX10_isFar (QM K (some (vi r)) hf) hf 27 [] [] h := by
  unfold X10_isFar_L27 at E
  refine go_iconst (z := 1) (n := 28) ⟨by decide, by decide⟩ dX10_isFar_27 rfl ?_
  refine go_goto (tgt := 32) dX10_isFar_28 rfl ?_
  cases E
  exact go_zreturn rfl (Or.inr rfl) dX10_isFar_32
noncomputable def X10_isFar (F : Nat)   (l0 : Nat) (l1 : Int)  (h : HP) : Option (Int × HP) :=
  (xgI h (some l0) 10 10 5).bind fun v1 =>
  if v1 ≤ 0 then
    some (0, h)
  else
    (xgI h (some l0) 10 10 8).bind fun v3 =>
    if l1 < (w32 (v3.tdiv 2)) then
      X10_isFar_L27 F h
    else
      (xgI h (some l0) 10 10 9).bind fun v5 =>
      if l1 ≤ (w32 (2 * v5)) then
        some (0, h)
      else
        X10_isFar_L27 F h
set_option maxRecDepth 100000 in
theorem SX10_isFar {K : Ctx} {F : Nat} {r : Int} {hf : HP}     (l0 : Nat) (l1 : Int)  (h : HP) (E : X10_isFar F   l0 l1 h = some (r, hf)) : Go K MX10_isFar (QM K (some (vi r)) hf) hf 0 [(0, vr (some l0)), (1, vi l1)] [] h := by
  unfold X10_isFar at E
  refine go_aload_n (j := 0) (n := 1) rfl rfl dX10_isFar_0 rfl ?_
  replace E := Option.bind_eq_some_iff.mp E; obtain ⟨v1, ev1, E⟩ := E
  refine go_getI (n := 4) ev1 fl_RX10_28 rfl dX10_isFar_1 rfl ?_
  refine go_if_le (tgt := 31) (n := 7) dX10_isFar_4 rfl rfl (fun c2 => ?_) (fun c2 => ?_)
  · rw [if_pos c2] at E
    refine go_iconst (z := 0) (n := 32) ⟨by decide, by decide⟩ dX10_isFar_31 rfl ?_
    cases E
    exact go_zreturn rfl (Or.inl rfl) dX10_isFar_32
  · rw [if_neg c2] at E
    refine go_iload_n (j := 1) (n := 8) rfl rfl dX10_isFar_7 rfl ?_
    refine go_aload_n (j := 0) (n := 9) rfl rfl dX10_isFar_8 rfl ?_
    replace E := Option.bind_eq_some_iff.mp E; obtain ⟨v3, ev3, E⟩ := E
    refine go_getI (n := 12) ev3 fl_RX10_37 rfl dX10_isFar_9 rfl ?_
    refine go_iconst (z := 2) (n := 13) ⟨by decide, by decide⟩ dX10_isFar_12 rfl ?_
    refine go_idiv (n := 14) (by decide) dX10_isFar_13 rfl ?_
    refine go_icmp_lt (tgt := 27) (n := 17) dX10_isFar_14 rfl rfl (fun c4 => ?_) (fun c4 => ?_)
    · rw [if_pos c4] at E
      refine go_pick (lv' := []) [] rfl ?_
      exact SX10_isFar_L27       _ E
    · rw [if_neg c4] at E
      refine go_iload_n (j := 1) (n := 18) rfl rfl dX10_isFar_17 rfl ?_
      refine go_iconst (z := 2) (n := 19) ⟨by decide, by decide⟩ dX10_isFar_18 rfl ?_
      refine go_aload_n (j := 0) (n := 20) rfl rfl dX10_isFar_19 rfl ?_
      replace E := Option.bind_eq_some_iff.mp E; obtain ⟨v5, ev5, E⟩ := E
      refine go_getI (n := 23) ev5 fl_RX10_40 rfl dX10_isFar_20 rfl ?_
      refine go_imul (n := 24) dX10_isFar_23 rfl ?_
      refine go_icmp_le (tgt := 31) (n := 27) dX10_isFar_24 rfl rfl (fun c6 => ?_) (fun c6 => ?_)
      · rw [if_pos c6] at E
        refine go_iconst (z := 0) (n := 32) ⟨by decide, by decide⟩ dX10_isFar_31 rfl ?_
        cases E
        exact go_zreturn rfl (Or.inl rfl) dX10_isFar_32
      · rw [if_neg c6] at E
        refine go_pick (lv' := []) [] rfl ?_
        exact SX10_isFar_L27       _ E
theorem OX10_isFar {F : Nat} {l0 : Nat} {l1 : Int} {h hf : HP} {r : Int} (e : X10_isFar F l0 l1 h = some (r, hf)) : Ok MX10_isFar [vr (some l0), vi l1] (some (vi r)) h hf := fun K _ _ _ => SX10_isFar l0 l1 h e
theorem yw_X10_find : YW yX10_find cX10_find 4 none 2 := ⟨bw_of 1582 (by decide +kernel) rfl, bw_of 124 (by decide +kernel) rfl, ⟨by decide +kernel, by decide +kernel, by decide +kernel⟩, by decide +kernel⟩
theorem wml_RX11_221 : Cond.methodLink RX11 221 yX10_find ∈ BW := bw_of 1579 (by decide +kernel) rfl
theorem wim_X10_find : Cond.instanceMethod yX10_find ∈ BW := bw_of 1580 (by decide +kernel) rfl
theorem wse_X10_find : Cond.selects RX10 yX10_find yX10_find ∈ BW := bw_of 1581 (by decide +kernel) rfl
theorem wml_RX11_74 : Cond.methodLink RX11 74 yX7_wordAt ∈ BW := bw_of 1031 (by decide +kernel) rfl
theorem yw_X10_isFar : YW yX10_isFar cX10_isFar 2 (some .boolean) 1 := ⟨bw_of 1599 (by decide +kernel) rfl, bw_of 124 (by decide +kernel) rfl, ⟨by decide +kernel, by decide +kernel, by decide +kernel⟩, by decide +kernel⟩
theorem wml_RX11_227 : Cond.methodLink RX11 227 yX10_isFar ∈ BW := bw_of 1596 (by decide +kernel) rfl
theorem wim_X10_isFar : Cond.instanceMethod yX10_isFar ∈ BW := bw_of 1597 (by decide +kernel) rfl
theorem wse_X10_isFar : Cond.selects RX10 yX10_isFar yX10_isFar ∈ BW := bw_of 1598 (by decide +kernel) rfl
abbrev MX11_far : MI := (RX11, cX11_far, 4, (some .boolean), 13, some [], "far")
noncomputable def X11_far (F : Nat)   (l0 : Nat) (l1 : Int) (l2 : Int)  (h : HP) : Option ((String ⊕ Int) × HP) :=
  xth (X11_needPlace F l1 4 h) fun v1 h2 =>
  xth (X11_needPlace F l2 4 h2) fun v3 h4 =>
  (xgP h4 (some l0) 11 6 2).bind fun v5 =>
  (xgP h4 v5 4 12 3).bind fun v6 =>
  (xgP h4 (some l0) 11 6 2).bind fun v7 =>
  (xgI h4 v7 4 12 7).bind fun v8 =>
  (xrc h4 v6 10 10).bind fun a11 =>
  xb (X10_find F a11 (w32 ((w32 (4 * l1)) + l2)) v8 h4) fun v9 h10 =>
  (xgP h10 (some l0) 11 6 2).bind fun v12 =>
  (xgP h10 v12 4 12 3).bind fun v13 =>
  (xgP h10 (some l0) 11 6 2).bind fun v14 =>
  (xgP h10 v14 4 12 1).bind fun v15 =>
  (xrc h10 v15 7 10).bind fun a18 =>
  xb (X7_wordAt F a18 (w32 ((w32 (4 * l1)) + l2)) h10) fun v16 h17 =>
  (xrc h17 v13 10 10).bind fun a21 =>
  xb (X10_isFar F a21 v16 h17) fun v19 h20 =>
  xzX v19 h20
set_option maxRecDepth 100000 in
theorem SX11_far {K : Ctx} {F : Nat} {r : String ⊕ Int} {hf : HP}     (l0 : Nat) (l1 : Int) (l2 : Int)  (h : HP) (E : X11_far F   l0 l1 l2 h = some (r, hf)) : Go K MX11_far (QMX K (rI r) hf) hf 0 [(0, vr (some l0)), (1, vi l1), (2, vi l2)] [] h := by
  unfold X11_far at E
  refine go_iload_n (j := 1) (n := 1) rfl rfl dX11_far_0 rfl ?_
  refine go_iconst (z := 4) (n := 2) ⟨by decide, by decide⟩ dX11_far_1 rfl ?_
  replace E := xth_some E; rcases E with ⟨x24, ev1, rfl⟩ | ⟨v1, h2, ev1, E⟩
  · exact go_callXSt (y := yX11_needPlace) (as := [vi l1, vi 4]) (st := []) (OXX11_needPlace ev1) yw_X11_needPlace wml_RX11_54 wst_X11_needPlace (Nat.le_of_ble_eq_true rfl) rfl ⟨Nat.le_of_ble_eq_true rfl, Nat.le_of_ble_eq_true rfl⟩ (Nat.le_of_ble_eq_true rfl) dX11_far_2 rfl rfl
  refine go_callXSr (y := yX11_needPlace) (n := 5) (st := []) (as := [vi l1, vi 4]) (stk9 := []) (OXX11_needPlace ev1) yw_X11_needPlace wml_RX11_54 wst_X11_needPlace (Nat.le_of_ble_eq_true rfl) rfl ⟨Nat.le_of_ble_eq_true rfl, Nat.le_of_ble_eq_true rfl⟩ (Nat.le_of_ble_eq_true rfl) dX11_far_2 rfl rfl rfl ?_
  refine go_iload_n (j := 2) (n := 6) rfl rfl dX11_far_5 rfl ?_
  refine go_iconst (z := 4) (n := 7) ⟨by decide, by decide⟩ dX11_far_6 rfl ?_
  replace E := xth_some E; rcases E with ⟨x23, ev3, rfl⟩ | ⟨v3, h4, ev3, E⟩
  · exact go_callXSt (y := yX11_needPlace) (as := [vi l2, vi 4]) (st := []) (OXX11_needPlace ev3) yw_X11_needPlace wml_RX11_54 wst_X11_needPlace (Nat.le_of_ble_eq_true rfl) rfl ⟨Nat.le_of_ble_eq_true rfl, Nat.le_of_ble_eq_true rfl⟩ (Nat.le_of_ble_eq_true rfl) dX11_far_7 rfl rfl
  refine go_callXSr (y := yX11_needPlace) (n := 10) (st := []) (as := [vi l2, vi 4]) (stk9 := []) (OXX11_needPlace ev3) yw_X11_needPlace wml_RX11_54 wst_X11_needPlace (Nat.le_of_ble_eq_true rfl) rfl ⟨Nat.le_of_ble_eq_true rfl, Nat.le_of_ble_eq_true rfl⟩ (Nat.le_of_ble_eq_true rfl) dX11_far_7 rfl rfl rfl ?_
  refine go_iconst (z := 4) (n := 11) ⟨by decide, by decide⟩ dX11_far_10 rfl ?_
  refine go_iload_n (j := 1) (n := 12) rfl rfl dX11_far_11 rfl ?_
  refine go_imul (n := 13) dX11_far_12 rfl ?_
  refine go_iload_n (j := 2) (n := 14) rfl rfl dX11_far_13 rfl ?_
  refine go_iadd (n := 15) dX11_far_14 rfl ?_
  refine go_istore_n (n := 16) (lv' := [(3, vi (w32 ((w32 (4 * l1)) + l2))), (0, vr (some l0)), (1, vi l1), (2, vi l2)]) rfl dX11_far_15 rfl (Nat.le_of_ble_eq_true rfl) rfl ?_
  refine go_aload_n (j := 1) (n := 17) rfl rfl dX11_far_16 rfl ?_
  replace E := Option.bind_eq_some_iff.mp E; obtain ⟨v5, ev5, E⟩ := E
  refine go_getP (n := 20) ev5 fl_RX11_23 rfl dX11_far_17 rfl ?_
  replace E := Option.bind_eq_some_iff.mp E; obtain ⟨v6, ev6, E⟩ := E
  refine go_getP (n := 23) ev6 fl_RX11_211 rfl dX11_far_20 rfl ?_
  refine go_iload_n (j := 0) (n := 24) rfl rfl dX11_far_23 rfl ?_
  refine go_aload_n (j := 1) (n := 25) rfl rfl dX11_far_24 rfl ?_
  replace E := Option.bind_eq_some_iff.mp E; obtain ⟨v7, ev7, E⟩ := E
  refine go_getP (n := 28) ev7 fl_RX11_23 rfl dX11_far_25 rfl ?_
  replace E := Option.bind_eq_some_iff.mp E; obtain ⟨v8, ev8, E⟩ := E
  refine go_getI (n := 31) ev8 fl_RX11_48 rfl dX11_far_28 rfl ?_
  replace E := Option.bind_eq_some_iff.mp E; obtain ⟨a11, ea11, E⟩ := E
  obtain ⟨fa11, ga11⟩ := xrc_some ea11
  replace E := xb_some E; obtain ⟨v9, h10, ev9, E⟩ := E
  refine go_callV (y := yX10_find) (n := 34) (st := []) (as := [vi (w32 ((w32 (4 * l1)) + l2)), vi v8]) (stk9 := []) (OX10_find ev9) yw_X10_find ci_10 ga11 wml_RX11_221 wim_X10_find wse_X10_find (Nat.le_of_ble_eq_true rfl) rfl ⟨Nat.le_of_ble_eq_true rfl, Nat.le_of_ble_eq_true rfl⟩ (Nat.le_of_ble_eq_true rfl) dX11_far_31 rfl (by cases fa11; rfl) rfl ?_
  refine go_aload_n (j := 1) (n := 35) rfl rfl dX11_far_34 rfl ?_
  replace E := Option.bind_eq_some_iff.mp E; obtain ⟨v12, ev12, E⟩ := E
  refine go_getP (n := 38) ev12 fl_RX11_23 rfl dX11_far_35 rfl ?_
  replace E := Option.bind_eq_some_iff.mp E; obtain ⟨v13, ev13, E⟩ := E
  refine go_getP (n := 41) ev13 fl_RX11_211 rfl dX11_far_38 rfl ?_
  refine go_aload_n (j := 1) (n := 42) rfl rfl dX11_far_41 rfl ?_
  replace E := Option.bind_eq_some_iff.mp E; obtain ⟨v14, ev14, E⟩ := E
  refine go_getP (n := 45) ev14 fl_RX11_23 rfl dX11_far_42 rfl ?_
  replace E := Option.bind_eq_some_iff.mp E; obtain ⟨v15, ev15, E⟩ := E
  refine go_getP (n := 48) ev15 fl_RX11_60 rfl dX11_far_45 rfl ?_
  refine go_iload_n (j := 0) (n := 49) rfl rfl dX11_far_48 rfl ?_
  replace E := Option.bind_eq_some_iff.mp E; obtain ⟨a18, ea18, E⟩ := E
  obtain ⟨fa18, ga18⟩ := xrc_some ea18
  replace E := xb_some E; obtain ⟨v16, h17, ev16, E⟩ := E
  refine go_callV (y := yX7_wordAt) (n := 52) (st := [vr v13]) (as := [vi (w32 ((w32 (4 * l1)) + l2))]) (stk9 := [vi v16, vr v13]) (OX7_wordAt ev16) yw_X7_wordAt ci_7 ga18 wml_RX11_74 wim_X7_wordAt wse_X7_wordAt (Nat.le_of_ble_eq_true rfl) rfl ⟨Nat.le_of_ble_eq_true rfl, Nat.le_of_ble_eq_true rfl⟩ (Nat.le_of_ble_eq_true rfl) dX11_far_49 rfl (by cases fa18; rfl) rfl ?_
  replace E := Option.bind_eq_some_iff.mp E; obtain ⟨a21, ea21, E⟩ := E
  obtain ⟨fa21, ga21⟩ := xrc_some ea21
  replace E := xb_some E; obtain ⟨v19, h20, ev19, E⟩ := E
  refine go_callV (y := yX10_isFar) (n := 55) (st := []) (as := [vi v16]) (stk9 := [vi v19]) (OX10_isFar ev19) yw_X10_isFar ci_10 ga21 wml_RX11_227 wim_X10_isFar wse_X10_isFar (Nat.le_of_ble_eq_true rfl) rfl ⟨Nat.le_of_ble_eq_true rfl, Nat.le_of_ble_eq_true rfl⟩ (Nat.le_of_ble_eq_true rfl) dX11_far_52 rfl (by cases fa21; rfl) rfl ?_
  unfold xzX at E
  split at E
  · next c22 =>
    cases E
    exact go_ret (go_zreturn rfl c22 dX11_far_55)
  · cases E
theorem OXX11_far {F : Nat} {l0 : Nat} {l1 : Int} {l2 : Int} {h hf : HP} {r : String ⊕ Int} (e : X11_far F l0 l1 l2 h = some (r, hf)) : OkX MX11_far [vr (some l0), vi l1, vi l2] (rI r) h hf := fun K _ _ _ => SX11_far l0 l1 l2 h e
abbrev MX11_fault : MI := (RX11, cX11_fault, 1, (some .int), 2, none, "fault")
noncomputable def X11_fault (F : Nat)   (l0 : Nat)  (h : HP) : Option (Int × HP) :=
  (xgI h (some l0) 11 6 1).bind fun v1 =>
  some (v1, h)
set_option maxRecDepth 100000 in
theorem SX11_fault {K : Ctx} {F : Nat} {r : Int} {hf : HP}     (l0 : Nat)  (h : HP) (E : X11_fault F   l0 h = some (r, hf)) : Go K MX11_fault (QM K (some (vi r)) hf) hf 0 [(0, vr (some l0))] [] h := by
  unfold X11_fault at E
  refine go_aload_n (j := 0) (n := 1) rfl rfl dX11_fault_0 rfl ?_
  replace E := Option.bind_eq_some_iff.mp E; obtain ⟨v1, ev1, E⟩ := E
  refine go_getI (n := 4) ev1 fl_RX11_16 rfl dX11_fault_1 rfl ?_
  cases E
  exact go_ireturn rfl dX11_fault_4
theorem OX11_fault {F : Nat} {l0 : Nat} {h hf : HP} {r : Int} (e : X11_fault F l0 h = some (r, hf)) : Ok MX11_fault [vr (some l0)] (some (vi r)) h hf := fun K _ _ _ => SX11_fault l0 h e
theorem fl_RX8_34 : FL RX8 34 8 17 1 false := ⟨RX8, TX8, ci_8, by decide, bw_of 161 (by decide +kernel) rfl, rfl, rfl⟩
theorem fl_RX8_9 : FL RX8 9 8 17 0 true := ⟨RX8, TX8, ci_8, by decide, bw_of 159 (by decide +kernel) rfl, rfl, rfl⟩
abbrev MX8_punch : MI := (RX8, cX8_punch, 3, none, 2, none, "punch")
noncomputable def X8_punch_L50 (F : Nat)  (rc3 : Nat → Int → Int → HP → Option (Unit × HP)) (l0 : Nat) (l1 : Int) (l2 : Int)  (h : HP) : Option (Unit × HP) :=
  rc3 l0 l1 (w32 (l2 + (-8))) h
set_option maxRecDepth 100000 in
theorem SX8_punch_L50 {K : Ctx} {F : Nat} {r : Unit} {hf : HP}   (rc3 : Nat → Int → Int → HP → Option (Unit × HP)) (hrc3 : ∀ l0 l1 l2 h, rc3 l0 l1 l2 h = some (r, hf) → Go K MX8_punch (QM K none hf) hf 3 [(0, vr (some l0)), (1, vi l1), (2, vi l2)] [] h) (l0 : Nat) (l1 : Int) (l2 : Int)  (h : HP) (E : X8_punch_L50 F  rc3 l0 l1 l2 h = some (r, hf)) : Go K MX8_punch (QM K none hf) hf 50 [(0, vr (some l0)), (1, vi l1), (2, vi l2)] [] h := by
  unfold X8_punch_L50 at E
  refine go_iinc (j := 2) (n := 53) (lv' := [(2, vi (w32 (l2 + (-8)))), (0, vr (some l0)), (1, vi l1)]) rfl dX8_punch_50 rfl (Nat.le_of_ble_eq_true rfl) rfl ?_
  refine go_goto (tgt := 3) dX8_punch_53 rfl ?_
  refine go_pick (lv' := [(0, vr (some l0)), (1, vi l1), (2, vi (w32 (l2 + (-8))))]) [1, 2, 0] rfl ?_
  exact hrc3 _ _ _ _ E
noncomputable def X8_punch_L3 (F : Nat)   (k : Nat) : Nat → Int → Int → HP → Option (Unit × HP) :=
  Nat.rec (motive := fun _ => Nat → Int → Int → HP → Option (Unit × HP)) (fun _ _ _ _ => none) (fun _ rc3 l0 l1 l2 h =>
    if l2 < 0 then
      some ((), h)
    else
      (xgI h (some l0) 8 17 1).bind fun v2 =>
      if v2 < 0 then
        X8_punch_L50 F rc3 l0 l1 l2 h
      else
        (xgI h (some l0) 8 17 1).bind fun v4 =>
        if 400 ≤ v4 then
          X8_punch_L50 F rc3 l0 l1 l2 h
        else
          (xgP h (some l0) 8 17 0).bind fun v6 =>
          (xgI h (some l0) 8 17 1).bind fun v7 =>
          (xsI h v6 v7 (xand (xush l1 l2) 255)).bind fun h8 =>
          (xgI h8 (some l0) 8 17 1).bind fun v9 =>
          (xpI h8 (some l0) 8 17 1 (w32 (v9 + 1))).bind fun h10 =>
          X8_punch_L50 F rc3 l0 l1 l2 h10) k
theorem X8_punch_L3_s (F : Nat)   (k : Nat) (l0 : Nat) (l1 : Int) (l2 : Int)  (h : HP) : X8_punch_L3 F   (k + 1) l0 l1 l2 h =
    if l2 < 0 then
      some ((), h)
    else
      (xgI h (some l0) 8 17 1).bind fun v2 =>
      if v2 < 0 then
        X8_punch_L50 F (X8_punch_L3 F k) l0 l1 l2 h
      else
        (xgI h (some l0) 8 17 1).bind fun v4 =>
        if 400 ≤ v4 then
          X8_punch_L50 F (X8_punch_L3 F k) l0 l1 l2 h
        else
          (xgP h (some l0) 8 17 0).bind fun v6 =>
          (xgI h (some l0) 8 17 1).bind fun v7 =>
          (xsI h v6 v7 (xand (xush l1 l2) 255)).bind fun h8 =>
          (xgI h8 (some l0) 8 17 1).bind fun v9 =>
          (xpI h8 (some l0) 8 17 1 (w32 (v9 + 1))).bind fun h10 =>
          X8_punch_L50 F (X8_punch_L3 F k) l0 l1 l2 h10 := rfl
set_option maxRecDepth 100000 in
theorem SX8_punch_L3 {K : Ctx} {F : Nat} {r : Unit} {hf : HP}     : ∀ (k : Nat) (l0 : Nat) (l1 : Int) (l2 : Int)  (h : HP), X8_punch_L3 F   k l0 l1 l2 h = some (r, hf) → Go K MX8_punch (QM K none hf) hf 3 [(0, vr (some l0)), (1, vi l1), (2, vi l2)] [] h := by
  intro k
  induction k with
  | zero => intro l0 l1 l2 h E; exact nomatch E
  | succ k hrc3 =>
    intro l0 l1 l2 h E
    rw [X8_punch_L3_s] at E
    refine go_iload_n (j := 2) (n := 4) rfl rfl dX8_punch_3 rfl ?_
    refine go_if_lt (tgt := 56) (n := 7) dX8_punch_4 rfl rfl (fun c1 => ?_) (fun c1 => ?_)
    · rw [if_pos c1] at E
      cases E
      exact go_return rfl dX8_punch_56
    · rw [if_neg c1] at E
      refine go_aload_n (j := 0) (n := 8) rfl rfl dX8_punch_7 rfl ?_
      replace E := Option.bind_eq_some_iff.mp E; obtain ⟨v2, ev2, E⟩ := E
      refine go_getI (n := 11) ev2 fl_RX8_34 rfl dX8_punch_8 rfl ?_
      refine go_if_lt (tgt := 50) (n := 14) dX8_punch_11 rfl rfl (fun c3 => ?_) (fun c3 => ?_)
      · rw [if_pos c3] at E
        exact SX8_punch_L50   _ hrc3 _ _ _  _ E
      · rw [if_neg c3] at E
        refine go_aload_n (j := 0) (n := 15) rfl rfl dX8_punch_14 rfl ?_
        replace E := Option.bind_eq_some_iff.mp E; obtain ⟨v4, ev4, E⟩ := E
        refine go_getI (n := 18) ev4 fl_RX8_34 rfl dX8_punch_15 rfl ?_
        refine go_sipush (z := 400) (n := 21) ⟨by decide, by decide⟩ dX8_punch_18 rfl ?_
        refine go_icmp_ge (tgt := 50) (n := 24) dX8_punch_21 rfl rfl (fun c5 => ?_) (fun c5 => ?_)
        · rw [if_pos c5] at E
          exact SX8_punch_L50   _ hrc3 _ _ _  _ E
        · rw [if_neg c5] at E
          refine go_aload_n (j := 0) (n := 25) rfl rfl dX8_punch_24 rfl ?_
          replace E := Option.bind_eq_some_iff.mp E; obtain ⟨v6, ev6, E⟩ := E
          refine go_getP (n := 28) ev6 fl_RX8_9 rfl dX8_punch_25 rfl ?_
          refine go_aload_n (j := 0) (n := 29) rfl rfl dX8_punch_28 rfl ?_
          replace E := Option.bind_eq_some_iff.mp E; obtain ⟨v7, ev7, E⟩ := E
          refine go_getI (n := 32) ev7 fl_RX8_34 rfl dX8_punch_29 rfl ?_
          refine go_iload_n (j := 1) (n := 33) rfl rfl dX8_punch_32 rfl ?_
          refine go_iload_n (j := 2) (n := 34) rfl rfl dX8_punch_33 rfl ?_
          refine go_iushr (n := 35) dX8_punch_34 rfl ?_
          refine go_sipush (z := 255) (n := 38) ⟨by decide, by decide⟩ dX8_punch_35 rfl ?_
          refine go_iand (n := 39) dX8_punch_38 rfl ?_
          replace E := Option.bind_eq_some_iff.mp E; obtain ⟨h8, eh8, E⟩ := E
          refine go_iastore (n := 40) eh8 dX8_punch_39 rfl ?_
          refine go_aload_n (j := 0) (n := 41) rfl rfl dX8_punch_40 rfl ?_
          refine go_dup (n := 42) rfl dX8_punch_41 rfl ?_
          replace E := Option.bind_eq_some_iff.mp E; obtain ⟨v9, ev9, E⟩ := E
          refine go_getI (n := 45) ev9 fl_RX8_34 rfl dX8_punch_42 rfl ?_
          refine go_iconst (z := 1) (n := 46) ⟨by decide, by decide⟩ dX8_punch_45 rfl ?_
          refine go_iadd (n := 47) dX8_punch_46 rfl ?_
          replace E := Option.bind_eq_some_iff.mp E; obtain ⟨h10, eh10, E⟩ := E
          refine go_putI (n := 50) eh10 fl_RX8_34 rfl dX8_punch_47 rfl ?_
          exact SX8_punch_L50   _ hrc3 _ _ _  _ E
noncomputable def X8_punch (F : Nat)   (l0 : Nat) (l1 : Int)  (h : HP) : Option (Unit × HP) :=
  X8_punch_L3 F F l0 l1 24 h
set_option maxRecDepth 100000 in
theorem SX8_punch {K : Ctx} {F : Nat} {r : Unit} {hf : HP}     (l0 : Nat) (l1 : Int)  (h : HP) (E : X8_punch F   l0 l1 h = some (r, hf)) : Go K MX8_punch (QM K none hf) hf 0 [(0, vr (some l0)), (1, vi l1)] [] h := by
  unfold X8_punch at E
  refine go_bipush (z := 24) (n := 2) ⟨by decide, by decide⟩ dX8_punch_0 rfl ?_
  refine go_istore_n (n := 3) (lv' := [(2, vi 24), (0, vr (some l0)), (1, vi l1)]) rfl dX8_punch_2 rfl (Nat.le_of_ble_eq_true rfl) rfl ?_
  refine go_pick (lv' := [(0, vr (some l0)), (1, vi l1), (2, vi 24)]) [1, 2, 0] rfl ?_
  exact SX8_punch_L3     F _ _ _ _ E
theorem OX8_punch {F : Nat} {l0 : Nat} {l1 : Int} {h hf : HP} {r : Unit} (e : X8_punch F l0 l1 h = some (r, hf)) : Ok MX8_punch [vr (some l0), vi l1] none h hf := fun K _ _ _ => SX8_punch l0 l1 h e
theorem yw_X8_punch : YW yX8_punch cX8_punch 3 none 1 := ⟨bw_of 642 (by decide +kernel) rfl, bw_of 118 (by decide +kernel) rfl, ⟨by decide +kernel, by decide +kernel, by decide +kernel⟩, by decide +kernel⟩
theorem wml_RX11_40 : Cond.methodLink RX11 40 yX8_punch ∈ BW := bw_of 639 (by decide +kernel) rfl
theorem wim_X8_punch : Cond.instanceMethod yX8_punch ∈ BW := bw_of 640 (by decide +kernel) rfl
theorem wse_X8_punch : Cond.selects RX8 yX8_punch yX8_punch ∈ BW := bw_of 641 (by decide +kernel) rfl
abbrev MX11_feed : MI := (RX11, cX11_feed, 6, (some .int), 3, none, "feed")
noncomputable def X11_feed (F : Nat)   (l0 : Nat) (l1 : Int) (l2 : Int) (l3 : Int) (l4 : Int) (l5 : Int)  (h : HP) : Option (Int × HP) :=
  (xgP h (some l0) 11 6 0).bind fun v1 =>
  (xgI h v1 8 17 1).bind fun v2 =>
  if (w32 (v2 + 20)) ≤ 400 then
    (xgP h (some l0) 11 6 0).bind fun v4 =>
    (xrc h v4 8 17).bind fun a7 =>
    xb (X8_punch F a7 l1 h) fun v5 h6 =>
    (xgP h6 (some l0) 11 6 0).bind fun v8 =>
    (xrc h6 v8 8 17).bind fun a11 =>
    xb (X8_punch F a11 l2 h6) fun v9 h10 =>
    (xgP h10 (some l0) 11 6 0).bind fun v12 =>
    (xrc h10 v12 8 17).bind fun a15 =>
    xb (X8_punch F a15 l3 h10) fun v13 h14 =>
    (xgP h14 (some l0) 11 6 0).bind fun v16 =>
    (xrc h14 v16 8 17).bind fun a19 =>
    xb (X8_punch F a19 l4 h14) fun v17 h18 =>
    (xgP h18 (some l0) 11 6 0).bind fun v20 =>
    (xrc h18 v20 8 17).bind fun a23 =>
    xb (X8_punch F a23 l5 h18) fun v21 h22 =>
    (xgP h22 (some l0) 11 6 0).bind fun v24 =>
    (xgI h22 v24 8 17 1).bind fun v25 =>
    some (v25, h22)
  else
    some ((-1), h)
set_option maxRecDepth 100000 in
theorem SX11_feed {K : Ctx} {F : Nat} {r : Int} {hf : HP}     (l0 : Nat) (l1 : Int) (l2 : Int) (l3 : Int) (l4 : Int) (l5 : Int)  (h : HP) (E : X11_feed F   l0 l1 l2 l3 l4 l5 h = some (r, hf)) : Go K MX11_feed (QM K (some (vi r)) hf) hf 0 [(0, vr (some l0)), (1, vi l1), (2, vi l2), (3, vi l3), (4, vi l4), (5, vi l5)] [] h := by
  unfold X11_feed at E
  refine go_aload_n (j := 0) (n := 1) rfl rfl dX11_feed_0 rfl ?_
  replace E := Option.bind_eq_some_iff.mp E; obtain ⟨v1, ev1, E⟩ := E
  refine go_getP (n := 4) ev1 fl_RX11_12 rfl dX11_feed_1 rfl ?_
  replace E := Option.bind_eq_some_iff.mp E; obtain ⟨v2, ev2, E⟩ := E
  refine go_getI (n := 7) ev2 fl_RX11_37 rfl dX11_feed_4 rfl ?_
  refine go_bipush (z := 20) (n := 9) ⟨by decide, by decide⟩ dX11_feed_7 rfl ?_
  refine go_iadd (n := 10) dX11_feed_9 rfl ?_
  refine go_sipush (z := 400) (n := 13) ⟨by decide, by decide⟩ dX11_feed_10 rfl ?_
  refine go_icmp_le (tgt := 18) (n := 16) dX11_feed_13 rfl rfl (fun c3 => ?_) (fun c3 => ?_)
  · rw [if_pos c3] at E
    refine go_aload_n (j := 0) (n := 19) rfl rfl dX11_feed_18 rfl ?_
    replace E := Option.bind_eq_some_iff.mp E; obtain ⟨v4, ev4, E⟩ := E
    refine go_getP (n := 22) ev4 fl_RX11_12 rfl dX11_feed_19 rfl ?_
    refine go_iload_n (j := 1) (n := 23) rfl rfl dX11_feed_22 rfl ?_
    replace E := Option.bind_eq_some_iff.mp E; obtain ⟨a7, ea7, E⟩ := E
    obtain ⟨fa7, ga7⟩ := xrc_some ea7
    replace E := xb_some E; obtain ⟨v5, h6, ev5, E⟩ := E
    refine go_callV (y := yX8_punch) (n := 26) (st := []) (as := [vi l1]) (stk9 := []) (OX8_punch ev5) yw_X8_punch ci_8 ga7 wml_RX11_40 wim_X8_punch wse_X8_punch (Nat.le_of_ble_eq_true rfl) rfl ⟨Nat.le_of_ble_eq_true rfl, Nat.le_of_ble_eq_true rfl⟩ (Nat.le_of_ble_eq_true rfl) dX11_feed_23 rfl (by cases fa7; rfl) rfl ?_
    refine go_aload_n (j := 0) (n := 27) rfl rfl dX11_feed_26 rfl ?_
    replace E := Option.bind_eq_some_iff.mp E; obtain ⟨v8, ev8, E⟩ := E
    refine go_getP (n := 30) ev8 fl_RX11_12 rfl dX11_feed_27 rfl ?_
    refine go_iload_n (j := 2) (n := 31) rfl rfl dX11_feed_30 rfl ?_
    replace E := Option.bind_eq_some_iff.mp E; obtain ⟨a11, ea11, E⟩ := E
    obtain ⟨fa11, ga11⟩ := xrc_some ea11
    replace E := xb_some E; obtain ⟨v9, h10, ev9, E⟩ := E
    refine go_callV (y := yX8_punch) (n := 34) (st := []) (as := [vi l2]) (stk9 := []) (OX8_punch ev9) yw_X8_punch ci_8 ga11 wml_RX11_40 wim_X8_punch wse_X8_punch (Nat.le_of_ble_eq_true rfl) rfl ⟨Nat.le_of_ble_eq_true rfl, Nat.le_of_ble_eq_true rfl⟩ (Nat.le_of_ble_eq_true rfl) dX11_feed_31 rfl (by cases fa11; rfl) rfl ?_
    refine go_aload_n (j := 0) (n := 35) rfl rfl dX11_feed_34 rfl ?_
    replace E := Option.bind_eq_some_iff.mp E; obtain ⟨v12, ev12, E⟩ := E
    refine go_getP (n := 38) ev12 fl_RX11_12 rfl dX11_feed_35 rfl ?_
    refine go_iload_n (j := 3) (n := 39) rfl rfl dX11_feed_38 rfl ?_
    replace E := Option.bind_eq_some_iff.mp E; obtain ⟨a15, ea15, E⟩ := E
    obtain ⟨fa15, ga15⟩ := xrc_some ea15
    replace E := xb_some E; obtain ⟨v13, h14, ev13, E⟩ := E
    refine go_callV (y := yX8_punch) (n := 42) (st := []) (as := [vi l3]) (stk9 := []) (OX8_punch ev13) yw_X8_punch ci_8 ga15 wml_RX11_40 wim_X8_punch wse_X8_punch (Nat.le_of_ble_eq_true rfl) rfl ⟨Nat.le_of_ble_eq_true rfl, Nat.le_of_ble_eq_true rfl⟩ (Nat.le_of_ble_eq_true rfl) dX11_feed_39 rfl (by cases fa15; rfl) rfl ?_
    refine go_aload_n (j := 0) (n := 43) rfl rfl dX11_feed_42 rfl ?_
    replace E := Option.bind_eq_some_iff.mp E; obtain ⟨v16, ev16, E⟩ := E
    refine go_getP (n := 46) ev16 fl_RX11_12 rfl dX11_feed_43 rfl ?_
    refine go_iload (j := 4) (n := 48) rfl dX11_feed_46 rfl ?_
    replace E := Option.bind_eq_some_iff.mp E; obtain ⟨a19, ea19, E⟩ := E
    obtain ⟨fa19, ga19⟩ := xrc_some ea19
    replace E := xb_some E; obtain ⟨v17, h18, ev17, E⟩ := E
    refine go_callV (y := yX8_punch) (n := 51) (st := []) (as := [vi l4]) (stk9 := []) (OX8_punch ev17) yw_X8_punch ci_8 ga19 wml_RX11_40 wim_X8_punch wse_X8_punch (Nat.le_of_ble_eq_true rfl) rfl ⟨Nat.le_of_ble_eq_true rfl, Nat.le_of_ble_eq_true rfl⟩ (Nat.le_of_ble_eq_true rfl) dX11_feed_48 rfl (by cases fa19; rfl) rfl ?_
    refine go_aload_n (j := 0) (n := 52) rfl rfl dX11_feed_51 rfl ?_
    replace E := Option.bind_eq_some_iff.mp E; obtain ⟨v20, ev20, E⟩ := E
    refine go_getP (n := 55) ev20 fl_RX11_12 rfl dX11_feed_52 rfl ?_
    refine go_iload (j := 5) (n := 57) rfl dX11_feed_55 rfl ?_
    replace E := Option.bind_eq_some_iff.mp E; obtain ⟨a23, ea23, E⟩ := E
    obtain ⟨fa23, ga23⟩ := xrc_some ea23
    replace E := xb_some E; obtain ⟨v21, h22, ev21, E⟩ := E
    refine go_callV (y := yX8_punch) (n := 60) (st := []) (as := [vi l5]) (stk9 := []) (OX8_punch ev21) yw_X8_punch ci_8 ga23 wml_RX11_40 wim_X8_punch wse_X8_punch (Nat.le_of_ble_eq_true rfl) rfl ⟨Nat.le_of_ble_eq_true rfl, Nat.le_of_ble_eq_true rfl⟩ (Nat.le_of_ble_eq_true rfl) dX11_feed_57 rfl (by cases fa23; rfl) rfl ?_
    refine go_aload_n (j := 0) (n := 61) rfl rfl dX11_feed_60 rfl ?_
    replace E := Option.bind_eq_some_iff.mp E; obtain ⟨v24, ev24, E⟩ := E
    refine go_getP (n := 64) ev24 fl_RX11_12 rfl dX11_feed_61 rfl ?_
    replace E := Option.bind_eq_some_iff.mp E; obtain ⟨v25, ev25, E⟩ := E
    refine go_getI (n := 67) ev25 fl_RX11_37 rfl dX11_feed_64 rfl ?_
    cases E
    exact go_ireturn rfl dX11_feed_67
  · rw [if_neg c3] at E
    refine go_iconst (z := (-1)) (n := 17) ⟨by decide, by decide⟩ dX11_feed_16 rfl ?_
    cases E
    exact go_ireturn rfl dX11_feed_17
theorem OX11_feed {F : Nat} {l0 : Nat} {l1 : Int} {l2 : Int} {l3 : Int} {l4 : Int} {l5 : Int} {h hf : HP} {r : Int} (e : X11_feed F l0 l1 l2 l3 l4 l5 h = some (r, hf)) : Ok MX11_feed [vr (some l0), vi l1, vi l2, vi l3, vi l4, vi l5] (some (vi r)) h hf := fun K _ _ _ => SX11_feed l0 l1 l2 l3 l4 l5 h e
