/-! the methods, decompiled: written by dec.py -/
abbrev MX8_takes : MI := (RX8, cX8_takes, 2, (some .boolean), 2, none, "takes")
noncomputable def X8_takes (F : Nat)   (l0 : Nat) (l1 : Int)  (h : HP) : Option (Int × HP) :=
  (xgI h (some l0) 8 17 6).bind fun v1 =>
  if v1 < 0 then
    some (0, h)
  else
    (xgI h (some l0) 8 17 6).bind fun v3 =>
    (xgI h (some l0) 8 17 5).bind fun v4 =>
    if v4 ≤ v3 then
      some (0, h)
    else
      (xgI h (some l0) 8 17 6).bind fun v6 =>
      if 400 < v6 then
        some (0, h)
      else
        (xgP h (some l0) 8 17 2).bind fun v8 =>
        (xgI h (some l0) 8 17 6).bind fun v9 =>
        (xaI h v8 100 v9).bind fun v10 =>
        if v10 = l1 then
          (xgI h (some l0) 8 17 6).bind fun v12 =>
          (xpI h (some l0) 8 17 6 (w32 (v12 + 1))).bind fun h13 =>
          some (1, h13)
        else
          some (0, h)
set_option maxRecDepth 100000 in
theorem SX8_takes {K : Ctx} {F : Nat} {r : Int} {hf : HP}     (l0 : Nat) (l1 : Int)  (h : HP) (E : X8_takes F   l0 l1 h = some (r, hf)) : Go K MX8_takes (QM K (some (vi r)) hf) hf 0 [(0, vr (some l0)), (1, vi l1)] [] h := by
  unfold X8_takes at E
  refine go_aload_n (j := 0) (n := 1) rfl rfl dX8_takes_0 rfl ?_
  replace E := Option.bind_eq_some_iff.mp E; obtain ⟨v1, ev1, E⟩ := E
  refine go_getI (n := 4) ev1 fl_RX8_50 rfl dX8_takes_1 rfl ?_
  refine go_if_lt (tgt := 41) (n := 7) dX8_takes_4 rfl rfl (fun c2 => ?_) (fun c2 => ?_)
  · rw [if_pos c2] at E
    refine go_iconst (z := 0) (n := 42) ⟨by decide, by decide⟩ dX8_takes_41 rfl ?_
    cases E
    exact go_zreturn rfl (Or.inl rfl) dX8_takes_42
  · rw [if_neg c2] at E
    refine go_aload_n (j := 0) (n := 8) rfl rfl dX8_takes_7 rfl ?_
    replace E := Option.bind_eq_some_iff.mp E; obtain ⟨v3, ev3, E⟩ := E
    refine go_getI (n := 11) ev3 fl_RX8_50 rfl dX8_takes_8 rfl ?_
    refine go_aload_n (j := 0) (n := 12) rfl rfl dX8_takes_11 rfl ?_
    replace E := Option.bind_eq_some_iff.mp E; obtain ⟨v4, ev4, E⟩ := E
    refine go_getI (n := 15) ev4 fl_RX8_155 rfl dX8_takes_12 rfl ?_
    refine go_icmp_ge (tgt := 41) (n := 18) dX8_takes_15 rfl rfl (fun c5 => ?_) (fun c5 => ?_)
    · rw [if_pos c5] at E
      refine go_iconst (z := 0) (n := 42) ⟨by decide, by decide⟩ dX8_takes_41 rfl ?_
      cases E
      exact go_zreturn rfl (Or.inl rfl) dX8_takes_42
    · rw [if_neg c5] at E
      refine go_aload_n (j := 0) (n := 19) rfl rfl dX8_takes_18 rfl ?_
      replace E := Option.bind_eq_some_iff.mp E; obtain ⟨v6, ev6, E⟩ := E
      refine go_getI (n := 22) ev6 fl_RX8_50 rfl dX8_takes_19 rfl ?_
      refine go_sipush (z := 400) (n := 25) ⟨by decide, by decide⟩ dX8_takes_22 rfl ?_
      refine go_icmp_gt (tgt := 41) (n := 28) dX8_takes_25 rfl rfl (fun c7 => ?_) (fun c7 => ?_)
      · rw [if_pos c7] at E
        refine go_iconst (z := 0) (n := 42) ⟨by decide, by decide⟩ dX8_takes_41 rfl ?_
        cases E
        exact go_zreturn rfl (Or.inl rfl) dX8_takes_42
      · rw [if_neg c7] at E
        refine go_aload_n (j := 0) (n := 29) rfl rfl dX8_takes_28 rfl ?_
        replace E := Option.bind_eq_some_iff.mp E; obtain ⟨v8, ev8, E⟩ := E
        refine go_getP (n := 32) ev8 fl_RX8_15 rfl dX8_takes_29 rfl ?_
        refine go_aload_n (j := 0) (n := 33) rfl rfl dX8_takes_32 rfl ?_
        replace E := Option.bind_eq_some_iff.mp E; obtain ⟨v9, ev9, E⟩ := E
        refine go_getI (n := 36) ev9 fl_RX8_50 rfl dX8_takes_33 rfl ?_
        replace E := Option.bind_eq_some_iff.mp E; obtain ⟨v10, ev10, E⟩ := E
        refine go_iaload (n := 37) ev10 dX8_takes_36 rfl ?_
        refine go_iload_n (j := 1) (n := 38) rfl rfl dX8_takes_37 rfl ?_
        refine go_icmp_eq (tgt := 43) (n := 41) dX8_takes_38 rfl rfl (fun c11 => ?_) (fun c11 => ?_)
        · rw [if_pos c11] at E
          refine go_aload_n (j := 0) (n := 44) rfl rfl dX8_takes_43 rfl ?_
          refine go_dup (n := 45) rfl dX8_takes_44 rfl ?_
          replace E := Option.bind_eq_some_iff.mp E; obtain ⟨v12, ev12, E⟩ := E
          refine go_getI (n := 48) ev12 fl_RX8_50 rfl dX8_takes_45 rfl ?_
          refine go_iconst (z := 1) (n := 49) ⟨by decide, by decide⟩ dX8_takes_48 rfl ?_
          refine go_iadd (n := 50) dX8_takes_49 rfl ?_
          replace E := Option.bind_eq_some_iff.mp E; obtain ⟨h13, eh13, E⟩ := E
          refine go_putI (n := 53) eh13 fl_RX8_50 rfl dX8_takes_50 rfl ?_
          refine go_iconst (z := 1) (n := 54) ⟨by decide, by decide⟩ dX8_takes_53 rfl ?_
          cases E
          exact go_zreturn rfl (Or.inr rfl) dX8_takes_54
        · rw [if_neg c11] at E
          refine go_iconst (z := 0) (n := 42) ⟨by decide, by decide⟩ dX8_takes_41 rfl ?_
          cases E
          exact go_zreturn rfl (Or.inl rfl) dX8_takes_42
theorem OX8_takes {F : Nat} {l0 : Nat} {l1 : Int} {h hf : HP} {r : Int} (e : X8_takes F l0 l1 h = some (r, hf)) : Ok MX8_takes [vr (some l0), vi l1] (some (vi r)) h hf := fun K _ _ _ => SX8_takes l0 l1 h e
theorem fl_RX8_98 : FL RX8 98 8 17 7 false := ⟨RX8, TX8, ci_8, by decide, bw_of 167 (by decide +kernel) rfl, rfl, rfl⟩
abbrev MX8_takeNumber : MI := (RX8, cX8_takeNumber, 3, (some .boolean), 2, none, "takeNumber")
noncomputable def X8_takeNumber (F : Nat)   (l0 : Nat) (l1 : Int) (l2 : Int)  (h : HP) : Option (Int × HP) :=
  (xgI h (some l0) 8 17 6).bind fun v1 =>
  if v1 < 0 then
    some (0, h)
  else
    (xgI h (some l0) 8 17 6).bind fun v3 =>
    (xgI h (some l0) 8 17 5).bind fun v4 =>
    if v4 ≤ v3 then
      some (0, h)
    else
      (xgI h (some l0) 8 17 6).bind fun v6 =>
      if 400 < v6 then
        some (0, h)
      else
        (xgP h (some l0) 8 17 2).bind fun v8 =>
        (xgI h (some l0) 8 17 6).bind fun v9 =>
        (xaI h v8 100 v9).bind fun v10 =>
        if v10 = (-2) then
          (xgP h (some l0) 8 17 4).bind fun v12 =>
          (xgI h (some l0) 8 17 6).bind fun v13 =>
          (xaI h v12 100 v13).bind fun v14 =>
          if v14 < l1 then
            some (0, h)
          else
            (xgP h (some l0) 8 17 4).bind fun v16 =>
            (xgI h (some l0) 8 17 6).bind fun v17 =>
            (xaI h v16 100 v17).bind fun v18 =>
            if v18 ≤ l2 then
              (xgP h (some l0) 8 17 4).bind fun v20 =>
              (xgI h (some l0) 8 17 6).bind fun v21 =>
              (xaI h v20 100 v21).bind fun v22 =>
              (xpI h (some l0) 8 17 7 v22).bind fun h23 =>
              (xgI h23 (some l0) 8 17 6).bind fun v24 =>
              (xpI h23 (some l0) 8 17 6 (w32 (v24 + 1))).bind fun h25 =>
              some (1, h25)
            else
              some (0, h)
        else
          some (0, h)
set_option maxRecDepth 100000 in
theorem SX8_takeNumber {K : Ctx} {F : Nat} {r : Int} {hf : HP}     (l0 : Nat) (l1 : Int) (l2 : Int)  (h : HP) (E : X8_takeNumber F   l0 l1 l2 h = some (r, hf)) : Go K MX8_takeNumber (QM K (some (vi r)) hf) hf 0 [(0, vr (some l0)), (1, vi l1), (2, vi l2)] [] h := by
  unfold X8_takeNumber at E
  refine go_aload_n (j := 0) (n := 1) rfl rfl dX8_takeNumber_0 rfl ?_
  replace E := Option.bind_eq_some_iff.mp E; obtain ⟨v1, ev1, E⟩ := E
  refine go_getI (n := 4) ev1 fl_RX8_50 rfl dX8_takeNumber_1 rfl ?_
  refine go_if_lt (tgt := 68) (n := 7) dX8_takeNumber_4 rfl rfl (fun c2 => ?_) (fun c2 => ?_)
  · rw [if_pos c2] at E
    refine go_iconst (z := 0) (n := 69) ⟨by decide, by decide⟩ dX8_takeNumber_68 rfl ?_
    cases E
    exact go_zreturn rfl (Or.inl rfl) dX8_takeNumber_69
  · rw [if_neg c2] at E
    refine go_aload_n (j := 0) (n := 8) rfl rfl dX8_takeNumber_7 rfl ?_
    replace E := Option.bind_eq_some_iff.mp E; obtain ⟨v3, ev3, E⟩ := E
    refine go_getI (n := 11) ev3 fl_RX8_50 rfl dX8_takeNumber_8 rfl ?_
    refine go_aload_n (j := 0) (n := 12) rfl rfl dX8_takeNumber_11 rfl ?_
    replace E := Option.bind_eq_some_iff.mp E; obtain ⟨v4, ev4, E⟩ := E
    refine go_getI (n := 15) ev4 fl_RX8_155 rfl dX8_takeNumber_12 rfl ?_
    refine go_icmp_ge (tgt := 68) (n := 18) dX8_takeNumber_15 rfl rfl (fun c5 => ?_) (fun c5 => ?_)
    · rw [if_pos c5] at E
      refine go_iconst (z := 0) (n := 69) ⟨by decide, by decide⟩ dX8_takeNumber_68 rfl ?_
      cases E
      exact go_zreturn rfl (Or.inl rfl) dX8_takeNumber_69
    · rw [if_neg c5] at E
      refine go_aload_n (j := 0) (n := 19) rfl rfl dX8_takeNumber_18 rfl ?_
      replace E := Option.bind_eq_some_iff.mp E; obtain ⟨v6, ev6, E⟩ := E
      refine go_getI (n := 22) ev6 fl_RX8_50 rfl dX8_takeNumber_19 rfl ?_
      refine go_sipush (z := 400) (n := 25) ⟨by decide, by decide⟩ dX8_takeNumber_22 rfl ?_
      refine go_icmp_gt (tgt := 68) (n := 28) dX8_takeNumber_25 rfl rfl (fun c7 => ?_) (fun c7 => ?_)
      · rw [if_pos c7] at E
        refine go_iconst (z := 0) (n := 69) ⟨by decide, by decide⟩ dX8_takeNumber_68 rfl ?_
        cases E
        exact go_zreturn rfl (Or.inl rfl) dX8_takeNumber_69
      · rw [if_neg c7] at E
        refine go_aload_n (j := 0) (n := 29) rfl rfl dX8_takeNumber_28 rfl ?_
        replace E := Option.bind_eq_some_iff.mp E; obtain ⟨v8, ev8, E⟩ := E
        refine go_getP (n := 32) ev8 fl_RX8_15 rfl dX8_takeNumber_29 rfl ?_
        refine go_aload_n (j := 0) (n := 33) rfl rfl dX8_takeNumber_32 rfl ?_
        replace E := Option.bind_eq_some_iff.mp E; obtain ⟨v9, ev9, E⟩ := E
        refine go_getI (n := 36) ev9 fl_RX8_50 rfl dX8_takeNumber_33 rfl ?_
        replace E := Option.bind_eq_some_iff.mp E; obtain ⟨v10, ev10, E⟩ := E
        refine go_iaload (n := 37) ev10 dX8_takeNumber_36 rfl ?_
        refine go_bipush (z := (-2)) (n := 39) ⟨by decide, by decide⟩ dX8_takeNumber_37 rfl ?_
        refine go_icmp_ne (tgt := 68) (n := 42) dX8_takeNumber_39 rfl rfl (fun c11 => ?_) (fun c11 => ?_)
        · rw [if_neg c11] at E
          refine go_iconst (z := 0) (n := 69) ⟨by decide, by decide⟩ dX8_takeNumber_68 rfl ?_
          cases E
          exact go_zreturn rfl (Or.inl rfl) dX8_takeNumber_69
        · rw [if_pos c11] at E
          refine go_aload_n (j := 0) (n := 43) rfl rfl dX8_takeNumber_42 rfl ?_
          replace E := Option.bind_eq_some_iff.mp E; obtain ⟨v12, ev12, E⟩ := E
          refine go_getP (n := 46) ev12 fl_RX8_21 rfl dX8_takeNumber_43 rfl ?_
          refine go_aload_n (j := 0) (n := 47) rfl rfl dX8_takeNumber_46 rfl ?_
          replace E := Option.bind_eq_some_iff.mp E; obtain ⟨v13, ev13, E⟩ := E
          refine go_getI (n := 50) ev13 fl_RX8_50 rfl dX8_takeNumber_47 rfl ?_
          replace E := Option.bind_eq_some_iff.mp E; obtain ⟨v14, ev14, E⟩ := E
          refine go_iaload (n := 51) ev14 dX8_takeNumber_50 rfl ?_
          refine go_iload_n (j := 1) (n := 52) rfl rfl dX8_takeNumber_51 rfl ?_
          refine go_icmp_lt (tgt := 68) (n := 55) dX8_takeNumber_52 rfl rfl (fun c15 => ?_) (fun c15 => ?_)
          · rw [if_pos c15] at E
            refine go_iconst (z := 0) (n := 69) ⟨by decide, by decide⟩ dX8_takeNumber_68 rfl ?_
            cases E
            exact go_zreturn rfl (Or.inl rfl) dX8_takeNumber_69
          · rw [if_neg c15] at E
            refine go_aload_n (j := 0) (n := 56) rfl rfl dX8_takeNumber_55 rfl ?_
            replace E := Option.bind_eq_some_iff.mp E; obtain ⟨v16, ev16, E⟩ := E
            refine go_getP (n := 59) ev16 fl_RX8_21 rfl dX8_takeNumber_56 rfl ?_
            refine go_aload_n (j := 0) (n := 60) rfl rfl dX8_takeNumber_59 rfl ?_
            replace E := Option.bind_eq_some_iff.mp E; obtain ⟨v17, ev17, E⟩ := E
            refine go_getI (n := 63) ev17 fl_RX8_50 rfl dX8_takeNumber_60 rfl ?_
            replace E := Option.bind_eq_some_iff.mp E; obtain ⟨v18, ev18, E⟩ := E
            refine go_iaload (n := 64) ev18 dX8_takeNumber_63 rfl ?_
            refine go_iload_n (j := 2) (n := 65) rfl rfl dX8_takeNumber_64 rfl ?_
            refine go_icmp_le (tgt := 70) (n := 68) dX8_takeNumber_65 rfl rfl (fun c19 => ?_) (fun c19 => ?_)
            · rw [if_pos c19] at E
              refine go_aload_n (j := 0) (n := 71) rfl rfl dX8_takeNumber_70 rfl ?_
              refine go_aload_n (j := 0) (n := 72) rfl rfl dX8_takeNumber_71 rfl ?_
              replace E := Option.bind_eq_some_iff.mp E; obtain ⟨v20, ev20, E⟩ := E
              refine go_getP (n := 75) ev20 fl_RX8_21 rfl dX8_takeNumber_72 rfl ?_
              refine go_aload_n (j := 0) (n := 76) rfl rfl dX8_takeNumber_75 rfl ?_
              replace E := Option.bind_eq_some_iff.mp E; obtain ⟨v21, ev21, E⟩ := E
              refine go_getI (n := 79) ev21 fl_RX8_50 rfl dX8_takeNumber_76 rfl ?_
              replace E := Option.bind_eq_some_iff.mp E; obtain ⟨v22, ev22, E⟩ := E
              refine go_iaload (n := 80) ev22 dX8_takeNumber_79 rfl ?_
              replace E := Option.bind_eq_some_iff.mp E; obtain ⟨h23, eh23, E⟩ := E
              refine go_putI (n := 83) eh23 fl_RX8_98 rfl dX8_takeNumber_80 rfl ?_
              refine go_aload_n (j := 0) (n := 84) rfl rfl dX8_takeNumber_83 rfl ?_
              refine go_dup (n := 85) rfl dX8_takeNumber_84 rfl ?_
              replace E := Option.bind_eq_some_iff.mp E; obtain ⟨v24, ev24, E⟩ := E
              refine go_getI (n := 88) ev24 fl_RX8_50 rfl dX8_takeNumber_85 rfl ?_
              refine go_iconst (z := 1) (n := 89) ⟨by decide, by decide⟩ dX8_takeNumber_88 rfl ?_
              refine go_iadd (n := 90) dX8_takeNumber_89 rfl ?_
              replace E := Option.bind_eq_some_iff.mp E; obtain ⟨h25, eh25, E⟩ := E
              refine go_putI (n := 93) eh25 fl_RX8_50 rfl dX8_takeNumber_90 rfl ?_
              refine go_iconst (z := 1) (n := 94) ⟨by decide, by decide⟩ dX8_takeNumber_93 rfl ?_
              cases E
              exact go_zreturn rfl (Or.inr rfl) dX8_takeNumber_94
            · rw [if_neg c19] at E
              refine go_iconst (z := 0) (n := 69) ⟨by decide, by decide⟩ dX8_takeNumber_68 rfl ?_
              cases E
              exact go_zreturn rfl (Or.inl rfl) dX8_takeNumber_69
theorem OX8_takeNumber {F : Nat} {l0 : Nat} {l1 : Int} {l2 : Int} {h hf : HP} {r : Int} (e : X8_takeNumber F l0 l1 l2 h = some (r, hf)) : Ok MX8_takeNumber [vr (some l0), vi l1, vi l2] (some (vi r)) h hf := fun K _ _ _ => SX8_takeNumber l0 l1 l2 h e
theorem fl_RX8_53 : FL RX8 53 8 17 9 false := ⟨RX8, TX8, ci_8, by decide, bw_of 169 (by decide +kernel) rfl, rfl, rfl⟩
theorem fl_RX8_24 : FL RX8 24 8 17 8 true := ⟨RX8, TX8, ci_8, by decide, bw_of 168 (by decide +kernel) rfl, rfl, rfl⟩
abbrev MX8_emit : MI := (RX8, cX8_emit, 2, none, 2, none, "emit")
noncomputable def X8_emit (F : Nat)   (l0 : Nat) (l1 : Int)  (h : HP) : Option (Unit × HP) :=
  (xgI h (some l0) 8 17 9).bind fun v1 =>
  if v1 < 0 then
    some ((), h)
  else
    (xgI h (some l0) 8 17 9).bind fun v3 =>
    (xgP h (some l0) 8 17 8).bind fun v4 =>
    (xal h v4).bind fun v5 =>
    if v5 ≤ v3 then
      some ((), h)
    else
      (xgP h (some l0) 8 17 8).bind fun v7 =>
      (xgI h (some l0) 8 17 9).bind fun v8 =>
      (xsI h v7 v8 l1).bind fun h9 =>
      (xgI h9 (some l0) 8 17 9).bind fun v10 =>
      (xpI h9 (some l0) 8 17 9 (w32 (v10 + 1))).bind fun h11 =>
      some ((), h11)
set_option maxRecDepth 100000 in
theorem SX8_emit {K : Ctx} {F : Nat} {r : Unit} {hf : HP}     (l0 : Nat) (l1 : Int)  (h : HP) (E : X8_emit F   l0 l1 h = some (r, hf)) : Go K MX8_emit (QM K none hf) hf 0 [(0, vr (some l0)), (1, vi l1)] [] h := by
  unfold X8_emit at E
  refine go_aload_n (j := 0) (n := 1) rfl rfl dX8_emit_0 rfl ?_
  replace E := Option.bind_eq_some_iff.mp E; obtain ⟨v1, ev1, E⟩ := E
  refine go_getI (n := 4) ev1 fl_RX8_53 rfl dX8_emit_1 rfl ?_
  refine go_if_lt (tgt := 39) (n := 7) dX8_emit_4 rfl rfl (fun c2 => ?_) (fun c2 => ?_)
  · rw [if_pos c2] at E
    cases E
    exact go_return rfl dX8_emit_39
  · rw [if_neg c2] at E
    refine go_aload_n (j := 0) (n := 8) rfl rfl dX8_emit_7 rfl ?_
    replace E := Option.bind_eq_some_iff.mp E; obtain ⟨v3, ev3, E⟩ := E
    refine go_getI (n := 11) ev3 fl_RX8_53 rfl dX8_emit_8 rfl ?_
    refine go_aload_n (j := 0) (n := 12) rfl rfl dX8_emit_11 rfl ?_
    replace E := Option.bind_eq_some_iff.mp E; obtain ⟨v4, ev4, E⟩ := E
    refine go_getP (n := 15) ev4 fl_RX8_24 rfl dX8_emit_12 rfl ?_
    replace E := Option.bind_eq_some_iff.mp E; obtain ⟨v5, ev5, E⟩ := E
    refine go_alen (n := 16) ev5 dX8_emit_15 rfl ?_
    refine go_icmp_ge (tgt := 39) (n := 19) dX8_emit_16 rfl rfl (fun c6 => ?_) (fun c6 => ?_)
    · rw [if_pos c6] at E
      cases E
      exact go_return rfl dX8_emit_39
    · rw [if_neg c6] at E
      refine go_aload_n (j := 0) (n := 20) rfl rfl dX8_emit_19 rfl ?_
      replace E := Option.bind_eq_some_iff.mp E; obtain ⟨v7, ev7, E⟩ := E
      refine go_getP (n := 23) ev7 fl_RX8_24 rfl dX8_emit_20 rfl ?_
      refine go_aload_n (j := 0) (n := 24) rfl rfl dX8_emit_23 rfl ?_
      replace E := Option.bind_eq_some_iff.mp E; obtain ⟨v8, ev8, E⟩ := E
      refine go_getI (n := 27) ev8 fl_RX8_53 rfl dX8_emit_24 rfl ?_
      refine go_iload_n (j := 1) (n := 28) rfl rfl dX8_emit_27 rfl ?_
      replace E := Option.bind_eq_some_iff.mp E; obtain ⟨h9, eh9, E⟩ := E
      refine go_iastore (n := 29) eh9 dX8_emit_28 rfl ?_
      refine go_aload_n (j := 0) (n := 30) rfl rfl dX8_emit_29 rfl ?_
      refine go_dup (n := 31) rfl dX8_emit_30 rfl ?_
      replace E := Option.bind_eq_some_iff.mp E; obtain ⟨v10, ev10, E⟩ := E
      refine go_getI (n := 34) ev10 fl_RX8_53 rfl dX8_emit_31 rfl ?_
      refine go_iconst (z := 1) (n := 35) ⟨by decide, by decide⟩ dX8_emit_34 rfl ?_
      refine go_iadd (n := 36) dX8_emit_35 rfl ?_
      replace E := Option.bind_eq_some_iff.mp E; obtain ⟨h11, eh11, E⟩ := E
      refine go_putI (n := 39) eh11 fl_RX8_53 rfl dX8_emit_36 rfl ?_
      cases E
      exact go_return rfl dX8_emit_39
theorem OX8_emit {F : Nat} {l0 : Nat} {l1 : Int} {h hf : HP} {r : Unit} (e : X8_emit F l0 l1 h = some (r, hf)) : Ok MX8_emit [vr (some l0), vi l1] none h hf := fun K _ _ _ => SX8_emit l0 l1 h e
theorem yw_X8_takeNumber : YW yX8_takeNumber cX8_takeNumber 3 (some .boolean) 2 := ⟨bw_of 1166 (by decide +kernel) rfl, bw_of 118 (by decide +kernel) rfl, ⟨by decide +kernel, by decide +kernel, by decide +kernel⟩, by decide +kernel⟩
theorem wml_RX8_94 : Cond.methodLink RX8 94 yX8_takeNumber ∈ BW := bw_of 1163 (by decide +kernel) rfl
theorem wim_X8_takeNumber : Cond.instanceMethod yX8_takeNumber ∈ BW := bw_of 1165 (by decide +kernel) rfl
theorem wse_X8_takeNumber : Cond.selects RX8 yX8_takeNumber yX8_takeNumber ∈ BW := bw_of 18 (by decide +kernel) rfl
theorem yw_X8_emit : YW yX8_emit cX8_emit 2 none 1 := ⟨bw_of 1178 (by decide +kernel) rfl, bw_of 118 (by decide +kernel) rfl, ⟨by decide +kernel, by decide +kernel, by decide +kernel⟩, by decide +kernel⟩
theorem wml_RX8_110 : Cond.methodLink RX8 110 yX8_emit ∈ BW := bw_of 1175 (by decide +kernel) rfl
theorem wim_X8_emit : Cond.instanceMethod yX8_emit ∈ BW := bw_of 1177 (by decide +kernel) rfl
theorem wse_X8_emit : Cond.selects RX8 yX8_emit yX8_emit ∈ BW := bw_of 21 (by decide +kernel) rfl
theorem fl_RX8_60 : FL RX8 60 8 17 15 false := ⟨RX8, TX8, ci_8, by decide, bw_of 175 (by decide +kernel) rfl, rfl, rfl⟩
abbrev MX8_takeTarget : MI := (RX8, cX8_takeTarget, 2, (some .boolean), 3, none, "takeTarget")
noncomputable def X8_takeTarget (F : Nat)   (l0 : Nat) (l1 : Int)  (h : HP) : Option (Int × HP) :=
  (xrc h (some l0) 8 17).bind fun a3 =>
  xb (X8_takeNumber F a3 16 63 h) fun v1 h2 =>
  if v1 = 0 then
    some (0, h2)
  else
    (xrc h2 (some l0) 8 17).bind fun a7 =>
    xb (X8_emit F a7 l1 h2) fun v5 h6 =>
    (xgI h6 (some l0) 8 17 7).bind fun v8 =>
    (xrc h6 (some l0) 8 17).bind fun a11 =>
    xb (X8_emit F a11 v8 h6) fun v9 h10 =>
    (xgJ h10 (some l0) 8 17 15).bind fun v12 =>
    (xgI h10 (some l0) 8 17 7).bind fun v13 =>
    (xpJ h10 (some l0) 8 17 15 (yor v12 (yshl 1 v13))).bind fun h14 =>
    some (1, h14)
set_option maxRecDepth 100000 in
theorem SX8_takeTarget {K : Ctx} {F : Nat} {r : Int} {hf : HP}     (l0 : Nat) (l1 : Int)  (h : HP) (E : X8_takeTarget F   l0 l1 h = some (r, hf)) : Go K MX8_takeTarget (QM K (some (vi r)) hf) hf 0 [(0, vr (some l0)), (1, vi l1)] [] h := by
  unfold X8_takeTarget at E
  refine go_aload_n (j := 0) (n := 1) rfl rfl dX8_takeTarget_0 rfl ?_
  refine go_bipush (z := 16) (n := 3) ⟨by decide, by decide⟩ dX8_takeTarget_1 rfl ?_
  refine go_bipush (z := 63) (n := 5) ⟨by decide, by decide⟩ dX8_takeTarget_3 rfl ?_
  replace E := Option.bind_eq_some_iff.mp E; obtain ⟨a3, ea3, E⟩ := E
  obtain ⟨fa3, ga3⟩ := xrc_some ea3
  replace E := xb_some E; obtain ⟨v1, h2, ev1, E⟩ := E
  refine go_callV (y := yX8_takeNumber) (n := 8) (st := []) (as := [vi 16, vi 63]) (stk9 := [vi v1]) (OX8_takeNumber ev1) yw_X8_takeNumber ci_8 ga3 wml_RX8_94 wim_X8_takeNumber wse_X8_takeNumber (Nat.le_of_ble_eq_true rfl) rfl ⟨Nat.le_of_ble_eq_true rfl, Nat.le_of_ble_eq_true rfl⟩ (Nat.le_of_ble_eq_true rfl) dX8_takeTarget_5 rfl (by cases fa3; rfl) rfl ?_
  refine go_if_ne (tgt := 13) (n := 11) dX8_takeTarget_8 rfl rfl (fun c4 => ?_) (fun c4 => ?_)
  · rw [if_neg c4] at E
    refine go_aload_n (j := 0) (n := 14) rfl rfl dX8_takeTarget_13 rfl ?_
    refine go_iload_n (j := 1) (n := 15) rfl rfl dX8_takeTarget_14 rfl ?_
    replace E := Option.bind_eq_some_iff.mp E; obtain ⟨a7, ea7, E⟩ := E
    obtain ⟨fa7, ga7⟩ := xrc_some ea7
    replace E := xb_some E; obtain ⟨v5, h6, ev5, E⟩ := E
    refine go_callV (y := yX8_emit) (n := 18) (st := []) (as := [vi l1]) (stk9 := []) (OX8_emit ev5) yw_X8_emit ci_8 ga7 wml_RX8_110 wim_X8_emit wse_X8_emit (Nat.le_of_ble_eq_true rfl) rfl ⟨Nat.le_of_ble_eq_true rfl, Nat.le_of_ble_eq_true rfl⟩ (Nat.le_of_ble_eq_true rfl) dX8_takeTarget_15 rfl (by cases fa7; rfl) rfl ?_
    refine go_aload_n (j := 0) (n := 19) rfl rfl dX8_takeTarget_18 rfl ?_
    refine go_aload_n (j := 0) (n := 20) rfl rfl dX8_takeTarget_19 rfl ?_
    replace E := Option.bind_eq_some_iff.mp E; obtain ⟨v8, ev8, E⟩ := E
    refine go_getI (n := 23) ev8 fl_RX8_98 rfl dX8_takeTarget_20 rfl ?_
    replace E := Option.bind_eq_some_iff.mp E; obtain ⟨a11, ea11, E⟩ := E
    obtain ⟨fa11, ga11⟩ := xrc_some ea11
    replace E := xb_some E; obtain ⟨v9, h10, ev9, E⟩ := E
    refine go_callV (y := yX8_emit) (n := 26) (st := []) (as := [vi v8]) (stk9 := []) (OX8_emit ev9) yw_X8_emit ci_8 ga11 wml_RX8_110 wim_X8_emit wse_X8_emit (Nat.le_of_ble_eq_true rfl) rfl ⟨Nat.le_of_ble_eq_true rfl, Nat.le_of_ble_eq_true rfl⟩ (Nat.le_of_ble_eq_true rfl) dX8_takeTarget_23 rfl (by cases fa11; rfl) rfl ?_
    refine go_aload_n (j := 0) (n := 27) rfl rfl dX8_takeTarget_26 rfl ?_
    refine go_dup (n := 28) rfl dX8_takeTarget_27 rfl ?_
    replace E := Option.bind_eq_some_iff.mp E; obtain ⟨v12, ev12, E⟩ := E
    refine go_getJ (n := 31) ev12 fl_RX8_60 rfl dX8_takeTarget_28 rfl ?_
    refine go_lconst (w := 1) (n := 32) rfl dX8_takeTarget_31 rfl ?_
    refine go_aload_n (j := 0) (n := 33) rfl rfl dX8_takeTarget_32 rfl ?_
    replace E := Option.bind_eq_some_iff.mp E; obtain ⟨v13, ev13, E⟩ := E
    refine go_getI (n := 36) ev13 fl_RX8_98 rfl dX8_takeTarget_33 rfl ?_
    refine go_lshl (n := 37) dX8_takeTarget_36 rfl ?_
    refine go_lor (n := 38) dX8_takeTarget_37 rfl ?_
    replace E := Option.bind_eq_some_iff.mp E; obtain ⟨h14, eh14, E⟩ := E
    refine go_putJ (n := 41) eh14 fl_RX8_60 rfl dX8_takeTarget_38 rfl ?_
    refine go_iconst (z := 1) (n := 42) ⟨by decide, by decide⟩ dX8_takeTarget_41 rfl ?_
    cases E
    exact go_zreturn rfl (Or.inr rfl) dX8_takeTarget_42
  · rw [if_pos c4] at E
    refine go_iconst (z := 0) (n := 12) ⟨by decide, by decide⟩ dX8_takeTarget_11 rfl ?_
    cases E
    exact go_zreturn rfl (Or.inl rfl) dX8_takeTarget_12
theorem OX8_takeTarget {F : Nat} {l0 : Nat} {l1 : Int} {h hf : HP} {r : Int} (e : X8_takeTarget F l0 l1 h = some (r, hf)) : Ok MX8_takeTarget [vr (some l0), vi l1] (some (vi r)) h hf := fun K _ _ _ => SX8_takeTarget l0 l1 h e
abbrev MX8_emitPart : MI := (RX8, cX8_emitPart, 4, (some .boolean), 2, none, "emitPart")
noncomputable def X8_emitPart (F : Nat)   (l0 : Nat) (l1 : Int) (l2 : Int) (l3 : Int)  (h : HP) : Option (Int × HP) :=
  (xgI h (some l0) 8 17 9).bind fun v1 =>
  if v1 < 0 then
    some (0, h)
  else
    (xgI h (some l0) 8 17 9).bind fun v3 =>
    (xgP h (some l0) 8 17 8).bind fun v4 =>
    (xal h v4).bind fun v5 =>
    if (w32 (v3 + 3)) ≤ v5 then
      (xgP h (some l0) 8 17 8).bind fun v7 =>
      (xgI h (some l0) 8 17 9).bind fun v8 =>
      (xsI h v7 v8 l1).bind fun h9 =>
      (xgP h9 (some l0) 8 17 8).bind fun v10 =>
      (xgI h9 (some l0) 8 17 9).bind fun v11 =>
      (xsI h9 v10 (w32 (v11 + 1)) l2).bind fun h12 =>
      (xgP h12 (some l0) 8 17 8).bind fun v13 =>
      (xgI h12 (some l0) 8 17 9).bind fun v14 =>
      (xsI h12 v13 (w32 (v14 + 2)) l3).bind fun h15 =>
      (xgI h15 (some l0) 8 17 9).bind fun v16 =>
      (xpI h15 (some l0) 8 17 9 (w32 (v16 + 3))).bind fun h17 =>
      some (1, h17)
    else
      some (0, h)
set_option maxRecDepth 100000 in
theorem SX8_emitPart {K : Ctx} {F : Nat} {r : Int} {hf : HP}     (l0 : Nat) (l1 : Int) (l2 : Int) (l3 : Int)  (h : HP) (E : X8_emitPart F   l0 l1 l2 l3 h = some (r, hf)) : Go K MX8_emitPart (QM K (some (vi r)) hf) hf 0 [(0, vr (some l0)), (1, vi l1), (2, vi l2), (3, vi l3)] [] h := by
  unfold X8_emitPart at E
  refine go_aload_n (j := 0) (n := 1) rfl rfl dX8_emitPart_0 rfl ?_
  replace E := Option.bind_eq_some_iff.mp E; obtain ⟨v1, ev1, E⟩ := E
  refine go_getI (n := 4) ev1 fl_RX8_53 rfl dX8_emitPart_1 rfl ?_
  refine go_if_lt (tgt := 21) (n := 7) dX8_emitPart_4 rfl rfl (fun c2 => ?_) (fun c2 => ?_)
  · rw [if_pos c2] at E
    refine go_iconst (z := 0) (n := 22) ⟨by decide, by decide⟩ dX8_emitPart_21 rfl ?_
    cases E
    exact go_zreturn rfl (Or.inl rfl) dX8_emitPart_22
  · rw [if_neg c2] at E
    refine go_aload_n (j := 0) (n := 8) rfl rfl dX8_emitPart_7 rfl ?_
    replace E := Option.bind_eq_some_iff.mp E; obtain ⟨v3, ev3, E⟩ := E
    refine go_getI (n := 11) ev3 fl_RX8_53 rfl dX8_emitPart_8 rfl ?_
    refine go_iconst (z := 3) (n := 12) ⟨by decide, by decide⟩ dX8_emitPart_11 rfl ?_
    refine go_iadd (n := 13) dX8_emitPart_12 rfl ?_
    refine go_aload_n (j := 0) (n := 14) rfl rfl dX8_emitPart_13 rfl ?_
    replace E := Option.bind_eq_some_iff.mp E; obtain ⟨v4, ev4, E⟩ := E
    refine go_getP (n := 17) ev4 fl_RX8_24 rfl dX8_emitPart_14 rfl ?_
    replace E := Option.bind_eq_some_iff.mp E; obtain ⟨v5, ev5, E⟩ := E
    refine go_alen (n := 18) ev5 dX8_emitPart_17 rfl ?_
    refine go_icmp_le (tgt := 23) (n := 21) dX8_emitPart_18 rfl rfl (fun c6 => ?_) (fun c6 => ?_)
    · rw [if_pos c6] at E
      refine go_aload_n (j := 0) (n := 24) rfl rfl dX8_emitPart_23 rfl ?_
      replace E := Option.bind_eq_some_iff.mp E; obtain ⟨v7, ev7, E⟩ := E
      refine go_getP (n := 27) ev7 fl_RX8_24 rfl dX8_emitPart_24 rfl ?_
      refine go_aload_n (j := 0) (n := 28) rfl rfl dX8_emitPart_27 rfl ?_
      replace E := Option.bind_eq_some_iff.mp E; obtain ⟨v8, ev8, E⟩ := E
      refine go_getI (n := 31) ev8 fl_RX8_53 rfl dX8_emitPart_28 rfl ?_
      refine go_iload_n (j := 1) (n := 32) rfl rfl dX8_emitPart_31 rfl ?_
      replace E := Option.bind_eq_some_iff.mp E; obtain ⟨h9, eh9, E⟩ := E
      refine go_iastore (n := 33) eh9 dX8_emitPart_32 rfl ?_
      refine go_aload_n (j := 0) (n := 34) rfl rfl dX8_emitPart_33 rfl ?_
      replace E := Option.bind_eq_some_iff.mp E; obtain ⟨v10, ev10, E⟩ := E
      refine go_getP (n := 37) ev10 fl_RX8_24 rfl dX8_emitPart_34 rfl ?_
      refine go_aload_n (j := 0) (n := 38) rfl rfl dX8_emitPart_37 rfl ?_
      replace E := Option.bind_eq_some_iff.mp E; obtain ⟨v11, ev11, E⟩ := E
      refine go_getI (n := 41) ev11 fl_RX8_53 rfl dX8_emitPart_38 rfl ?_
      refine go_iconst (z := 1) (n := 42) ⟨by decide, by decide⟩ dX8_emitPart_41 rfl ?_
      refine go_iadd (n := 43) dX8_emitPart_42 rfl ?_
      refine go_iload_n (j := 2) (n := 44) rfl rfl dX8_emitPart_43 rfl ?_
      replace E := Option.bind_eq_some_iff.mp E; obtain ⟨h12, eh12, E⟩ := E
      refine go_iastore (n := 45) eh12 dX8_emitPart_44 rfl ?_
      refine go_aload_n (j := 0) (n := 46) rfl rfl dX8_emitPart_45 rfl ?_
      replace E := Option.bind_eq_some_iff.mp E; obtain ⟨v13, ev13, E⟩ := E
      refine go_getP (n := 49) ev13 fl_RX8_24 rfl dX8_emitPart_46 rfl ?_
      refine go_aload_n (j := 0) (n := 50) rfl rfl dX8_emitPart_49 rfl ?_
      replace E := Option.bind_eq_some_iff.mp E; obtain ⟨v14, ev14, E⟩ := E
      refine go_getI (n := 53) ev14 fl_RX8_53 rfl dX8_emitPart_50 rfl ?_
      refine go_iconst (z := 2) (n := 54) ⟨by decide, by decide⟩ dX8_emitPart_53 rfl ?_
      refine go_iadd (n := 55) dX8_emitPart_54 rfl ?_
      refine go_iload_n (j := 3) (n := 56) rfl rfl dX8_emitPart_55 rfl ?_
      replace E := Option.bind_eq_some_iff.mp E; obtain ⟨h15, eh15, E⟩ := E
      refine go_iastore (n := 57) eh15 dX8_emitPart_56 rfl ?_
      refine go_aload_n (j := 0) (n := 58) rfl rfl dX8_emitPart_57 rfl ?_
      refine go_dup (n := 59) rfl dX8_emitPart_58 rfl ?_
      replace E := Option.bind_eq_some_iff.mp E; obtain ⟨v16, ev16, E⟩ := E
      refine go_getI (n := 62) ev16 fl_RX8_53 rfl dX8_emitPart_59 rfl ?_
      refine go_iconst (z := 3) (n := 63) ⟨by decide, by decide⟩ dX8_emitPart_62 rfl ?_
      refine go_iadd (n := 64) dX8_emitPart_63 rfl ?_
      replace E := Option.bind_eq_some_iff.mp E; obtain ⟨h17, eh17, E⟩ := E
      refine go_putI (n := 67) eh17 fl_RX8_53 rfl dX8_emitPart_64 rfl ?_
      refine go_iconst (z := 1) (n := 68) ⟨by decide, by decide⟩ dX8_emitPart_67 rfl ?_
      cases E
      exact go_zreturn rfl (Or.inr rfl) dX8_emitPart_68
    · rw [if_neg c6] at E
      refine go_iconst (z := 0) (n := 22) ⟨by decide, by decide⟩ dX8_emitPart_21 rfl ?_
      cases E
      exact go_zreturn rfl (Or.inl rfl) dX8_emitPart_22
theorem OX8_emitPart {F : Nat} {l0 : Nat} {l1 : Int} {l2 : Int} {l3 : Int} {h hf : HP} {r : Int} (e : X8_emitPart F l0 l1 l2 l3 h = some (r, hf)) : Ok MX8_emitPart [vr (some l0), vi l1, vi l2, vi l3] (some (vi r)) h hf := fun K _ _ _ => SX8_emitPart l0 l1 l2 l3 h e
theorem wk_RX8_150 : Cond.constant RX8 150 (Int32.ofInt 999999) ∈ BW := bw_of 1187 (by decide +kernel) rfl
theorem yw_X8_takes : YW yX8_takes cX8_takes 2 (some .boolean) 1 := ⟨bw_of 1162 (by decide +kernel) rfl, bw_of 118 (by decide +kernel) rfl, ⟨by decide +kernel, by decide +kernel, by decide +kernel⟩, by decide +kernel⟩
theorem wml_RX8_76 : Cond.methodLink RX8 76 yX8_takes ∈ BW := bw_of 1159 (by decide +kernel) rfl
theorem wim_X8_takes : Cond.instanceMethod yX8_takes ∈ BW := bw_of 1161 (by decide +kernel) rfl
theorem wse_X8_takes : Cond.selects RX8 yX8_takes yX8_takes ∈ BW := bw_of 17 (by decide +kernel) rfl
theorem yw_X8_emitPart : YW yX8_emitPart cX8_emitPart 4 (some .boolean) 3 := ⟨bw_of 1191 (by decide +kernel) rfl, bw_of 118 (by decide +kernel) rfl, ⟨by decide +kernel, by decide +kernel, by decide +kernel⟩, by decide +kernel⟩
theorem wml_RX8_151 : Cond.methodLink RX8 151 yX8_emitPart ∈ BW := bw_of 1188 (by decide +kernel) rfl
theorem wim_X8_emitPart : Cond.instanceMethod yX8_emitPart ∈ BW := bw_of 1190 (by decide +kernel) rfl
theorem wse_X8_emitPart : Cond.selects RX8 yX8_emitPart yX8_emitPart ∈ BW := bw_of 24 (by decide +kernel) rfl
theorem fl_RX8_67 : FL RX8 67 8 17 13 false := ⟨RX8, TX8, ci_8, by decide, bw_of 173 (by decide +kernel) rfl, rfl, rfl⟩
abbrev MX8_readPart : MI := (RX8, cX8_readPart, 4, (some .boolean), 3, none, "readPart")
noncomputable def X8_readPart_L174 (F : Nat)   (l0 : Nat) (l2 : Int) (l3 : Int)  (h : HP) : Option (Int × HP) :=
  (xgI h (some l0) 8 17 7).bind fun v1 =>
  (xrc h (some l0) 8 17).bind fun a4 =>
  xb (X8_emitPart F a4 l2 l3 v1 h) fun v2 h3 =>
  xz v2 h3
set_option maxRecDepth 100000 in
theorem SX8_readPart_L174 {K : Ctx} {F : Nat} {r : Int} {hf : HP}     (l0 : Nat) (l2 : Int) (l3 : Int)  (h : HP) (E : X8_readPart_L174 F   l0 l2 l3 h = some (r, hf)) : Go K MX8_readPart (QM K (some (vi r)) hf) hf 174 [(0, vr (some l0)), (2, vi l2), (3, vi l3)] [] h := by
  unfold X8_readPart_L174 at E
  refine go_aload_n (j := 0) (n := 175) rfl rfl dX8_readPart_174 rfl ?_
  refine go_iload_n (j := 1) (n := 176) rfl rfl dX8_readPart_175 rfl ?_
  refine go_iload_n (j := 2) (n := 177) rfl rfl dX8_readPart_176 rfl ?_
  refine go_aload_n (j := 0) (n := 178) rfl rfl dX8_readPart_177 rfl ?_
  replace E := Option.bind_eq_some_iff.mp E; obtain ⟨v1, ev1, E⟩ := E
  refine go_getI (n := 181) ev1 fl_RX8_98 rfl dX8_readPart_178 rfl ?_
  replace E := Option.bind_eq_some_iff.mp E; obtain ⟨a4, ea4, E⟩ := E
  obtain ⟨fa4, ga4⟩ := xrc_some ea4
  replace E := xb_some E; obtain ⟨v2, h3, ev2, E⟩ := E
  refine go_callV (y := yX8_emitPart) (n := 184) (st := []) (as := [vi l2, vi l3, vi v1]) (stk9 := [vi v2]) (OX8_emitPart ev2) yw_X8_emitPart ci_8 ga4 wml_RX8_151 wim_X8_emitPart wse_X8_emitPart (Nat.le_of_ble_eq_true rfl) rfl ⟨Nat.le_of_ble_eq_true rfl, Nat.le_of_ble_eq_true rfl⟩ (Nat.le_of_ble_eq_true rfl) dX8_readPart_181 rfl (by cases fa4; rfl) rfl ?_
  unfold xz at E
  split at E
  · next c5 =>
    cases E
    exact go_zreturn rfl c5 dX8_readPart_184
  · cases E
noncomputable def X8_readPart_L134 (F : Nat)   (l0 : Nat) (l2 : Int) (s0 : Int) (h : HP) : Option (Int × HP) :=
  if s0 = (-1) then
    some (0, h)
  else
    (xrc h (some l0) 8 17).bind fun a4 =>
    xb (X8_takeNumber F a4 0 63 h) fun v2 h3 =>
    if v2 = 0 then
      some (0, h3)
    else
      if s0 = 269 then
        (xgJ h3 (some l0) 8 17 13).bind fun v7 =>
        (xgI h3 (some l0) 8 17 7).bind fun v8 =>
        (xpJ h3 (some l0) 8 17 13 (yor v7 (yshl 1 v8))).bind fun h9 =>
        X8_readPart_L174 F l0 l2 s0 h9
      else
        X8_readPart_L174 F l0 l2 s0 h3
set_option maxRecDepth 100000 in
theorem SX8_readPart_L134 {K : Ctx} {F : Nat} {r : Int} {hf : HP}     (l0 : Nat) (l2 : Int) (s0 : Int) (h : HP) (E : X8_readPart_L134 F   l0 l2 s0 h = some (r, hf)) : Go K MX8_readPart (QM K (some (vi r)) hf) hf 134 [(0, vr (some l0)), (2, vi l2)] [vi s0] h := by
  unfold X8_readPart_L134 at E
  refine go_istore_n (n := 135) (lv' := [(3, vi s0), (0, vr (some l0)), (2, vi l2)]) rfl dX8_readPart_134 rfl (Nat.le_of_ble_eq_true rfl) rfl ?_
  refine go_iload_n (j := 0) (n := 136) rfl rfl dX8_readPart_135 rfl ?_
  refine go_iconst (z := (-1)) (n := 137) ⟨by decide, by decide⟩ dX8_readPart_136 rfl ?_
  refine go_icmp_eq (tgt := 150) (n := 140) dX8_readPart_137 rfl rfl (fun c1 => ?_) (fun c1 => ?_)
  · rw [if_pos c1] at E
    refine go_iconst (z := 0) (n := 151) ⟨by decide, by decide⟩ dX8_readPart_150 rfl ?_
    cases E
    exact go_zreturn rfl (Or.inl rfl) dX8_readPart_151
  · rw [if_neg c1] at E
    refine go_aload_n (j := 1) (n := 141) rfl rfl dX8_readPart_140 rfl ?_
    refine go_iconst (z := 0) (n := 142) ⟨by decide, by decide⟩ dX8_readPart_141 rfl ?_
    refine go_bipush (z := 63) (n := 144) ⟨by decide, by decide⟩ dX8_readPart_142 rfl ?_
    replace E := Option.bind_eq_some_iff.mp E; obtain ⟨a4, ea4, E⟩ := E
    obtain ⟨fa4, ga4⟩ := xrc_some ea4
    replace E := xb_some E; obtain ⟨v2, h3, ev2, E⟩ := E
    refine go_callV (y := yX8_takeNumber) (n := 147) (st := []) (as := [vi 0, vi 63]) (stk9 := [vi v2]) (OX8_takeNumber ev2) yw_X8_takeNumber ci_8 ga4 wml_RX8_94 wim_X8_takeNumber wse_X8_takeNumber (Nat.le_of_ble_eq_true rfl) rfl ⟨Nat.le_of_ble_eq_true rfl, Nat.le_of_ble_eq_true rfl⟩ (Nat.le_of_ble_eq_true rfl) dX8_readPart_144 rfl (by cases fa4; rfl) rfl ?_
    refine go_if_ne (tgt := 152) (n := 150) dX8_readPart_147 rfl rfl (fun c5 => ?_) (fun c5 => ?_)
    · rw [if_neg c5] at E
      refine go_iload_n (j := 0) (n := 153) rfl rfl dX8_readPart_152 rfl ?_
      refine go_sipush (z := 269) (n := 156) ⟨by decide, by decide⟩ dX8_readPart_153 rfl ?_
      refine go_icmp_ne (tgt := 174) (n := 159) dX8_readPart_156 rfl rfl (fun c6 => ?_) (fun c6 => ?_)
      · rw [if_neg c6] at E
        refine go_pick (lv' := [(0, vr (some l0)), (2, vi l2), (3, vi s0)]) [1, 2, 0] rfl ?_
        exact SX8_readPart_L174     _ _ _  _ E
      · rw [if_pos c6] at E
        refine go_aload_n (j := 1) (n := 160) rfl rfl dX8_readPart_159 rfl ?_
        refine go_dup (n := 161) rfl dX8_readPart_160 rfl ?_
        replace E := Option.bind_eq_some_iff.mp E; obtain ⟨v7, ev7, E⟩ := E
        refine go_getJ (n := 164) ev7 fl_RX8_67 rfl dX8_readPart_161 rfl ?_
        refine go_lconst (w := 1) (n := 165) rfl dX8_readPart_164 rfl ?_
        refine go_aload_n (j := 1) (n := 166) rfl rfl dX8_readPart_165 rfl ?_
        replace E := Option.bind_eq_some_iff.mp E; obtain ⟨v8, ev8, E⟩ := E
        refine go_getI (n := 169) ev8 fl_RX8_98 rfl dX8_readPart_166 rfl ?_
        refine go_lshl (n := 170) dX8_readPart_169 rfl ?_
        refine go_lor (n := 171) dX8_readPart_170 rfl ?_
        replace E := Option.bind_eq_some_iff.mp E; obtain ⟨h9, eh9, E⟩ := E
        refine go_putJ (n := 174) eh9 fl_RX8_67 rfl dX8_readPart_171 rfl ?_
        refine go_pick (lv' := [(0, vr (some l0)), (2, vi l2), (3, vi s0)]) [1, 2, 0] rfl ?_
        exact SX8_readPart_L174     _ _ _  _ E
    · rw [if_pos c5] at E
      refine go_iconst (z := 0) (n := 151) ⟨by decide, by decide⟩ dX8_readPart_150 rfl ?_
      cases E
      exact go_zreturn rfl (Or.inl rfl) dX8_readPart_151
noncomputable def X8_readPart_L61 (F : Nat)   (l0 : Nat) (l2 : Int)  (h : HP) : Option (Int × HP) :=
  (xrc h (some l0) 8 17).bind fun a3 =>
  xb (X8_takes F a3 271 h) fun v1 h2 =>
  if v1 = 0 then
    (xrc h2 (some l0) 8 17).bind fun a7 =>
    xb (X8_takes F a7 272 h2) fun v5 h6 =>
    if v5 = 0 then
      (xrc h6 (some l0) 8 17).bind fun a11 =>
      xb (X8_takes F a11 269 h6) fun v9 h10 =>
      if v9 = 0 then
        (xrc h10 (some l0) 8 17).bind fun a15 =>
        xb (X8_takes F a15 270 h10) fun v13 h14 =>
        X8_readPart_L134 F l0 l2 (if v13 = 0 then (-1) else 270) h14
      else
        X8_readPart_L134 F l0 l2 269 h10
    else
      (xrc h6 (some l0) 8 17).bind fun a19 =>
      xb (X8_emitPart F a19 l2 272 0 h6) fun v17 h18 =>
      xz v17 h18
  else
    (xrc h2 (some l0) 8 17).bind fun a23 =>
    xb (X8_emitPart F a23 l2 271 0 h2) fun v21 h22 =>
    xz v21 h22
set_option maxRecDepth 100000 in
theorem SX8_readPart_L61 {K : Ctx} {F : Nat} {r : Int} {hf : HP}     (l0 : Nat) (l2 : Int)  (h : HP) (E : X8_readPart_L61 F   l0 l2 h = some (r, hf)) : Go K MX8_readPart (QM K (some (vi r)) hf) hf 61 [(0, vr (some l0)), (2, vi l2)] [] h := by
  unfold X8_readPart_L61 at E
  refine go_aload_n (j := 0) (n := 62) rfl rfl dX8_readPart_61 rfl ?_
  refine go_sipush (z := 271) (n := 65) ⟨by decide, by decide⟩ dX8_readPart_62 rfl ?_
  replace E := Option.bind_eq_some_iff.mp E; obtain ⟨a3, ea3, E⟩ := E
  obtain ⟨fa3, ga3⟩ := xrc_some ea3
  replace E := xb_some E; obtain ⟨v1, h2, ev1, E⟩ := E
  refine go_callV (y := yX8_takes) (n := 68) (st := []) (as := [vi 271]) (stk9 := [vi v1]) (OX8_takes ev1) yw_X8_takes ci_8 ga3 wml_RX8_76 wim_X8_takes wse_X8_takes (Nat.le_of_ble_eq_true rfl) rfl ⟨Nat.le_of_ble_eq_true rfl, Nat.le_of_ble_eq_true rfl⟩ (Nat.le_of_ble_eq_true rfl) dX8_readPart_65 rfl (by cases fa3; rfl) rfl ?_
  refine go_if_eq (tgt := 81) (n := 71) dX8_readPart_68 rfl rfl (fun c4 => ?_) (fun c4 => ?_)
  · rw [if_pos c4] at E
    refine go_aload_n (j := 0) (n := 82) rfl rfl dX8_readPart_81 rfl ?_
    refine go_sipush (z := 272) (n := 85) ⟨by decide, by decide⟩ dX8_readPart_82 rfl ?_
    replace E := Option.bind_eq_some_iff.mp E; obtain ⟨a7, ea7, E⟩ := E
    obtain ⟨fa7, ga7⟩ := xrc_some ea7
    replace E := xb_some E; obtain ⟨v5, h6, ev5, E⟩ := E
    refine go_callV (y := yX8_takes) (n := 88) (st := []) (as := [vi 272]) (stk9 := [vi v5]) (OX8_takes ev5) yw_X8_takes ci_8 ga7 wml_RX8_76 wim_X8_takes wse_X8_takes (Nat.le_of_ble_eq_true rfl) rfl ⟨Nat.le_of_ble_eq_true rfl, Nat.le_of_ble_eq_true rfl⟩ (Nat.le_of_ble_eq_true rfl) dX8_readPart_85 rfl (by cases fa7; rfl) rfl ?_
    refine go_if_eq (tgt := 101) (n := 91) dX8_readPart_88 rfl rfl (fun c8 => ?_) (fun c8 => ?_)
    · rw [if_pos c8] at E
      refine go_aload_n (j := 0) (n := 102) rfl rfl dX8_readPart_101 rfl ?_
      refine go_sipush (z := 269) (n := 105) ⟨by decide, by decide⟩ dX8_readPart_102 rfl ?_
      replace E := Option.bind_eq_some_iff.mp E; obtain ⟨a11, ea11, E⟩ := E
      obtain ⟨fa11, ga11⟩ := xrc_some ea11
      replace E := xb_some E; obtain ⟨v9, h10, ev9, E⟩ := E
      refine go_callV (y := yX8_takes) (n := 108) (st := []) (as := [vi 269]) (stk9 := [vi v9]) (OX8_takes ev9) yw_X8_takes ci_8 ga11 wml_RX8_76 wim_X8_takes wse_X8_takes (Nat.le_of_ble_eq_true rfl) rfl ⟨Nat.le_of_ble_eq_true rfl, Nat.le_of_ble_eq_true rfl⟩ (Nat.le_of_ble_eq_true rfl) dX8_readPart_105 rfl (by cases fa11; rfl) rfl ?_
      refine go_if_eq (tgt := 117) (n := 111) dX8_readPart_108 rfl rfl (fun c12 => ?_) (fun c12 => ?_)
      · rw [if_pos c12] at E
        refine go_aload_n (j := 0) (n := 118) rfl rfl dX8_readPart_117 rfl ?_
        refine go_sipush (z := 270) (n := 121) ⟨by decide, by decide⟩ dX8_readPart_118 rfl ?_
        replace E := Option.bind_eq_some_iff.mp E; obtain ⟨a15, ea15, E⟩ := E
        obtain ⟨fa15, ga15⟩ := xrc_some ea15
        replace E := xb_some E; obtain ⟨v13, h14, ev13, E⟩ := E
        refine go_callV (y := yX8_takes) (n := 124) (st := []) (as := [vi 270]) (stk9 := [vi v13]) (OX8_takes ev13) yw_X8_takes ci_8 ga15 wml_RX8_76 wim_X8_takes wse_X8_takes (Nat.le_of_ble_eq_true rfl) rfl ⟨Nat.le_of_ble_eq_true rfl, Nat.le_of_ble_eq_true rfl⟩ (Nat.le_of_ble_eq_true rfl) dX8_readPart_121 rfl (by cases fa15; rfl) rfl ?_
        refine go_if_eq (tgt := 133) (n := 127) dX8_readPart_124 rfl rfl (fun c16 => ?_) (fun c16 => ?_)
        · simp only [if_pos c16] at E
          refine go_iconst (z := (-1)) (n := 134) ⟨by decide, by decide⟩ dX8_readPart_133 rfl ?_
          exact SX8_readPart_L134     _ _ _ _ E
        · simp only [if_neg c16] at E
          refine go_sipush (z := 270) (n := 130) ⟨by decide, by decide⟩ dX8_readPart_127 rfl ?_
          refine go_goto (tgt := 134) dX8_readPart_130 rfl ?_
          exact SX8_readPart_L134     _ _ _ _ E
      · rw [if_neg c12] at E
        refine go_sipush (z := 269) (n := 114) ⟨by decide, by decide⟩ dX8_readPart_111 rfl ?_
        refine go_goto (tgt := 134) dX8_readPart_114 rfl ?_
        exact SX8_readPart_L134     _ _ _ _ E
    · rw [if_neg c8] at E
      refine go_aload_n (j := 0) (n := 92) rfl rfl dX8_readPart_91 rfl ?_
      refine go_iload_n (j := 1) (n := 93) rfl rfl dX8_readPart_92 rfl ?_
      refine go_sipush (z := 272) (n := 96) ⟨by decide, by decide⟩ dX8_readPart_93 rfl ?_
      refine go_iconst (z := 0) (n := 97) ⟨by decide, by decide⟩ dX8_readPart_96 rfl ?_
      replace E := Option.bind_eq_some_iff.mp E; obtain ⟨a19, ea19, E⟩ := E
      obtain ⟨fa19, ga19⟩ := xrc_some ea19
      replace E := xb_some E; obtain ⟨v17, h18, ev17, E⟩ := E
      refine go_callV (y := yX8_emitPart) (n := 100) (st := []) (as := [vi l2, vi 272, vi 0]) (stk9 := [vi v17]) (OX8_emitPart ev17) yw_X8_emitPart ci_8 ga19 wml_RX8_151 wim_X8_emitPart wse_X8_emitPart (Nat.le_of_ble_eq_true rfl) rfl ⟨Nat.le_of_ble_eq_true rfl, Nat.le_of_ble_eq_true rfl⟩ (Nat.le_of_ble_eq_true rfl) dX8_readPart_97 rfl (by cases fa19; rfl) rfl ?_
      unfold xz at E
      split at E
      · next c20 =>
        cases E
        exact go_zreturn rfl c20 dX8_readPart_100
      · cases E
  · rw [if_neg c4] at E
    refine go_aload_n (j := 0) (n := 72) rfl rfl dX8_readPart_71 rfl ?_
    refine go_iload_n (j := 1) (n := 73) rfl rfl dX8_readPart_72 rfl ?_
    refine go_sipush (z := 271) (n := 76) ⟨by decide, by decide⟩ dX8_readPart_73 rfl ?_
    refine go_iconst (z := 0) (n := 77) ⟨by decide, by decide⟩ dX8_readPart_76 rfl ?_
    replace E := Option.bind_eq_some_iff.mp E; obtain ⟨a23, ea23, E⟩ := E
    obtain ⟨fa23, ga23⟩ := xrc_some ea23
    replace E := xb_some E; obtain ⟨v21, h22, ev21, E⟩ := E
    refine go_callV (y := yX8_emitPart) (n := 80) (st := []) (as := [vi l2, vi 271, vi 0]) (stk9 := [vi v21]) (OX8_emitPart ev21) yw_X8_emitPart ci_8 ga23 wml_RX8_151 wim_X8_emitPart wse_X8_emitPart (Nat.le_of_ble_eq_true rfl) rfl ⟨Nat.le_of_ble_eq_true rfl, Nat.le_of_ble_eq_true rfl⟩ (Nat.le_of_ble_eq_true rfl) dX8_readPart_77 rfl (by cases fa23; rfl) rfl ?_
    unfold xz at E
    split at E
    · next c24 =>
      cases E
      exact go_zreturn rfl c24 dX8_readPart_80
    · cases E
noncomputable def X8_readPart (F : Nat)   (l0 : Nat) (l1 : Int)  (h : HP) : Option (Int × HP) :=
  (xrc h (some l0) 8 17).bind fun a3 =>
  xb (X8_takeNumber F a3 0 999999 h) fun v1 h2 =>
  if v1 = 0 then
    X8_readPart_L61 F l0 l1 h2
  else
    (xgI h2 (some l0) 8 17 7).bind fun v5 =>
    (xrc h2 (some l0) 8 17).bind fun a8 =>
    xb (X8_takes F a8 42 h2) fun v6 h7 =>
    if v6 = 0 then
      (xrc h7 (some l0) 8 17).bind fun a21 =>
      xb (X8_emitPart F a21 l1 (-2) v5 h7) fun v19 h20 =>
      xz v19 h20
    else
      (xrc h7 (some l0) 8 17).bind fun a12 =>
      xb (X8_takeNumber F a12 0 999999 h7) fun v10 h11 =>
      if v10 = 0 then
        X8_readPart_L61 F l0 (w32 (l1 * v5)) h11
      else
        (xgI h11 (some l0) 8 17 7).bind fun v14 =>
        (xrc h11 (some l0) 8 17).bind fun a17 =>
        xb (X8_emitPart F a17 (w32 (l1 * v5)) (-2) v14 h11) fun v15 h16 =>
        xz v15 h16
set_option maxRecDepth 100000 in
theorem SX8_readPart {K : Ctx} {F : Nat} {r : Int} {hf : HP}     (l0 : Nat) (l1 : Int)  (h : HP) (E : X8_readPart F   l0 l1 h = some (r, hf)) : Go K MX8_readPart (QM K (some (vi r)) hf) hf 0 [(0, vr (some l0)), (1, vi l1)] [] h := by
  unfold X8_readPart at E
  refine go_iload_n (j := 1) (n := 1) rfl rfl dX8_readPart_0 rfl ?_
  refine go_istore_n (n := 2) (lv' := [(2, vi l1), (0, vr (some l0)), (1, vi l1)]) rfl dX8_readPart_1 rfl (Nat.le_of_ble_eq_true rfl) rfl ?_
  refine go_aload_n (j := 1) (n := 3) rfl rfl dX8_readPart_2 rfl ?_
  refine go_iconst (z := 0) (n := 4) ⟨by decide, by decide⟩ dX8_readPart_3 rfl ?_
  refine go_ldc (z := 999999) (n := 6) ⟨by decide, by decide⟩ wk_RX8_150 dX8_readPart_4 rfl ?_
  replace E := Option.bind_eq_some_iff.mp E; obtain ⟨a3, ea3, E⟩ := E
  obtain ⟨fa3, ga3⟩ := xrc_some ea3
  replace E := xb_some E; obtain ⟨v1, h2, ev1, E⟩ := E
  refine go_callV (y := yX8_takeNumber) (n := 9) (st := []) (as := [vi 0, vi 999999]) (stk9 := [vi v1]) (OX8_takeNumber ev1) yw_X8_takeNumber ci_8 ga3 wml_RX8_94 wim_X8_takeNumber wse_X8_takeNumber (Nat.le_of_ble_eq_true rfl) rfl ⟨Nat.le_of_ble_eq_true rfl, Nat.le_of_ble_eq_true rfl⟩ (Nat.le_of_ble_eq_true rfl) dX8_readPart_6 rfl (by cases fa3; rfl) rfl ?_
  refine go_if_eq (tgt := 61) (n := 12) dX8_readPart_9 rfl rfl (fun c4 => ?_) (fun c4 => ?_)
  · rw [if_pos c4] at E
    refine go_pick (lv' := [(0, vr (some l0)), (2, vi l1)]) [1, 0] rfl ?_
    exact SX8_readPart_L61     _ _  _ E
  · rw [if_neg c4] at E
    refine go_aload_n (j := 1) (n := 13) rfl rfl dX8_readPart_12 rfl ?_
    replace E := Option.bind_eq_some_iff.mp E; obtain ⟨v5, ev5, E⟩ := E
    refine go_getI (n := 16) ev5 fl_RX8_98 rfl dX8_readPart_13 rfl ?_
    refine go_istore_n (n := 17) (lv' := [(3, vi v5), (2, vi l1), (0, vr (some l0)), (1, vi l1)]) rfl dX8_readPart_16 rfl (Nat.le_of_ble_eq_true rfl) rfl ?_
    refine go_aload_n (j := 2) (n := 18) rfl rfl dX8_readPart_17 rfl ?_
    refine go_bipush (z := 42) (n := 20) ⟨by decide, by decide⟩ dX8_readPart_18 rfl ?_
    replace E := Option.bind_eq_some_iff.mp E; obtain ⟨a8, ea8, E⟩ := E
    obtain ⟨fa8, ga8⟩ := xrc_some ea8
    replace E := xb_some E; obtain ⟨v6, h7, ev6, E⟩ := E
    refine go_callV (y := yX8_takes) (n := 23) (st := []) (as := [vi 42]) (stk9 := [vi v6]) (OX8_takes ev6) yw_X8_takes ci_8 ga8 wml_RX8_76 wim_X8_takes wse_X8_takes (Nat.le_of_ble_eq_true rfl) rfl ⟨Nat.le_of_ble_eq_true rfl, Nat.le_of_ble_eq_true rfl⟩ (Nat.le_of_ble_eq_true rfl) dX8_readPart_20 rfl (by cases fa8; rfl) rfl ?_
    refine go_if_ne (tgt := 35) (n := 26) dX8_readPart_23 rfl rfl (fun c9 => ?_) (fun c9 => ?_)
    · rw [if_neg c9] at E
      refine go_iload_n (j := 3) (n := 36) rfl rfl dX8_readPart_35 rfl ?_
      refine go_iload_n (j := 0) (n := 37) rfl rfl dX8_readPart_36 rfl ?_
      refine go_imul (n := 38) dX8_readPart_37 rfl ?_
      refine go_istore_n (n := 39) (lv' := [(2, vi (w32 (l1 * v5))), (3, vi v5), (0, vr (some l0)), (1, vi l1)]) rfl dX8_readPart_38 rfl (Nat.le_of_ble_eq_true rfl) rfl ?_
      refine go_aload_n (j := 2) (n := 40) rfl rfl dX8_readPart_39 rfl ?_
      refine go_iconst (z := 0) (n := 41) ⟨by decide, by decide⟩ dX8_readPart_40 rfl ?_
      refine go_ldc (z := 999999) (n := 43) ⟨by decide, by decide⟩ wk_RX8_150 dX8_readPart_41 rfl ?_
      replace E := Option.bind_eq_some_iff.mp E; obtain ⟨a12, ea12, E⟩ := E
      obtain ⟨fa12, ga12⟩ := xrc_some ea12
      replace E := xb_some E; obtain ⟨v10, h11, ev10, E⟩ := E
      refine go_callV (y := yX8_takeNumber) (n := 46) (st := []) (as := [vi 0, vi 999999]) (stk9 := [vi v10]) (OX8_takeNumber ev10) yw_X8_takeNumber ci_8 ga12 wml_RX8_94 wim_X8_takeNumber wse_X8_takeNumber (Nat.le_of_ble_eq_true rfl) rfl ⟨Nat.le_of_ble_eq_true rfl, Nat.le_of_ble_eq_true rfl⟩ (Nat.le_of_ble_eq_true rfl) dX8_readPart_43 rfl (by cases fa12; rfl) rfl ?_
      refine go_if_eq (tgt := 61) (n := 49) dX8_readPart_46 rfl rfl (fun c13 => ?_) (fun c13 => ?_)
      · rw [if_pos c13] at E
        refine go_pick (lv' := [(0, vr (some l0)), (2, vi (w32 (l1 * v5)))]) [2, 0] rfl ?_
        exact SX8_readPart_L61     _ _  _ E
      · rw [if_neg c13] at E
        refine go_aload_n (j := 2) (n := 50) rfl rfl dX8_readPart_49 rfl ?_
        refine go_iload_n (j := 0) (n := 51) rfl rfl dX8_readPart_50 rfl ?_
        refine go_bipush (z := (-2)) (n := 53) ⟨by decide, by decide⟩ dX8_readPart_51 rfl ?_
        refine go_aload_n (j := 2) (n := 54) rfl rfl dX8_readPart_53 rfl ?_
        replace E := Option.bind_eq_some_iff.mp E; obtain ⟨v14, ev14, E⟩ := E
        refine go_getI (n := 57) ev14 fl_RX8_98 rfl dX8_readPart_54 rfl ?_
        replace E := Option.bind_eq_some_iff.mp E; obtain ⟨a17, ea17, E⟩ := E
        obtain ⟨fa17, ga17⟩ := xrc_some ea17
        replace E := xb_some E; obtain ⟨v15, h16, ev15, E⟩ := E
        refine go_callV (y := yX8_emitPart) (n := 60) (st := []) (as := [vi (w32 (l1 * v5)), vi (-2), vi v14]) (stk9 := [vi v15]) (OX8_emitPart ev15) yw_X8_emitPart ci_8 ga17 wml_RX8_151 wim_X8_emitPart wse_X8_emitPart (Nat.le_of_ble_eq_true rfl) rfl ⟨Nat.le_of_ble_eq_true rfl, Nat.le_of_ble_eq_true rfl⟩ (Nat.le_of_ble_eq_true rfl) dX8_readPart_57 rfl (by cases fa17; rfl) rfl ?_
        unfold xz at E
        split at E
        · next c18 =>
          cases E
          exact go_zreturn rfl c18 dX8_readPart_60
        · cases E
    · rw [if_pos c9] at E
      refine go_aload_n (j := 2) (n := 27) rfl rfl dX8_readPart_26 rfl ?_
      refine go_iload_n (j := 3) (n := 28) rfl rfl dX8_readPart_27 rfl ?_
      refine go_bipush (z := (-2)) (n := 30) ⟨by decide, by decide⟩ dX8_readPart_28 rfl ?_
      refine go_iload_n (j := 0) (n := 31) rfl rfl dX8_readPart_30 rfl ?_
      replace E := Option.bind_eq_some_iff.mp E; obtain ⟨a21, ea21, E⟩ := E
      obtain ⟨fa21, ga21⟩ := xrc_some ea21
      replace E := xb_some E; obtain ⟨v19, h20, ev19, E⟩ := E
      refine go_callV (y := yX8_emitPart) (n := 34) (st := []) (as := [vi l1, vi (-2), vi v5]) (stk9 := [vi v19]) (OX8_emitPart ev19) yw_X8_emitPart ci_8 ga21 wml_RX8_151 wim_X8_emitPart wse_X8_emitPart (Nat.le_of_ble_eq_true rfl) rfl ⟨Nat.le_of_ble_eq_true rfl, Nat.le_of_ble_eq_true rfl⟩ (Nat.le_of_ble_eq_true rfl) dX8_readPart_31 rfl (by cases fa21; rfl) rfl ?_
      unfold xz at E
      split at E
      · next c22 =>
        cases E
        exact go_zreturn rfl c22 dX8_readPart_34
      · cases E
theorem OX8_readPart {F : Nat} {l0 : Nat} {l1 : Int} {h hf : HP} {r : Int} (e : X8_readPart F l0 l1 h = some (r, hf)) : Ok MX8_readPart [vr (some l0), vi l1] (some (vi r)) h hf := fun K _ _ _ => SX8_readPart l0 l1 h e
abbrev MX8_amend : MI := (RX8, cX8_amend, 3, none, 2, none, "amend")
noncomputable def X8_amend (F : Nat)   (l0 : Nat) (l1 : Int) (l2 : Int)  (h : HP) : Option (Unit × HP) :=
  if l1 < 0 then
    some ((), h)
  else
    (xgP h (some l0) 8 17 8).bind fun v2 =>
    (xal h v2).bind fun v3 =>
    if v3 ≤ l1 then
      some ((), h)
    else
      (xgP h (some l0) 8 17 8).bind fun v5 =>
      (xsI h v5 l1 l2).bind fun h6 =>
      some ((), h6)
set_option maxRecDepth 100000 in
theorem SX8_amend {K : Ctx} {F : Nat} {r : Unit} {hf : HP}     (l0 : Nat) (l1 : Int) (l2 : Int)  (h : HP) (E : X8_amend F   l0 l1 l2 h = some (r, hf)) : Go K MX8_amend (QM K none hf) hf 0 [(0, vr (some l0)), (1, vi l1), (2, vi l2)] [] h := by
  unfold X8_amend at E
  refine go_iload_n (j := 1) (n := 1) rfl rfl dX8_amend_0 rfl ?_
  refine go_if_lt (tgt := 20) (n := 4) dX8_amend_1 rfl rfl (fun c1 => ?_) (fun c1 => ?_)
  · rw [if_pos c1] at E
    cases E
    exact go_return rfl dX8_amend_20
  · rw [if_neg c1] at E
    refine go_iload_n (j := 1) (n := 5) rfl rfl dX8_amend_4 rfl ?_
    refine go_aload_n (j := 0) (n := 6) rfl rfl dX8_amend_5 rfl ?_
    replace E := Option.bind_eq_some_iff.mp E; obtain ⟨v2, ev2, E⟩ := E
    refine go_getP (n := 9) ev2 fl_RX8_24 rfl dX8_amend_6 rfl ?_
    replace E := Option.bind_eq_some_iff.mp E; obtain ⟨v3, ev3, E⟩ := E
    refine go_alen (n := 10) ev3 dX8_amend_9 rfl ?_
    refine go_icmp_ge (tgt := 20) (n := 13) dX8_amend_10 rfl rfl (fun c4 => ?_) (fun c4 => ?_)
    · rw [if_pos c4] at E
      cases E
      exact go_return rfl dX8_amend_20
    · rw [if_neg c4] at E
      refine go_aload_n (j := 0) (n := 14) rfl rfl dX8_amend_13 rfl ?_
      replace E := Option.bind_eq_some_iff.mp E; obtain ⟨v5, ev5, E⟩ := E
      refine go_getP (n := 17) ev5 fl_RX8_24 rfl dX8_amend_14 rfl ?_
      refine go_iload_n (j := 1) (n := 18) rfl rfl dX8_amend_17 rfl ?_
      refine go_iload_n (j := 2) (n := 19) rfl rfl dX8_amend_18 rfl ?_
      replace E := Option.bind_eq_some_iff.mp E; obtain ⟨h6, eh6, E⟩ := E
      refine go_iastore (n := 20) eh6 dX8_amend_19 rfl ?_
      cases E
      exact go_return rfl dX8_amend_20
theorem OX8_amend {F : Nat} {l0 : Nat} {l1 : Int} {l2 : Int} {h hf : HP} {r : Unit} (e : X8_amend F l0 l1 l2 h = some (r, hf)) : Ok MX8_amend [vr (some l0), vi l1, vi l2] none h hf := fun K _ _ _ => SX8_amend l0 l1 l2 h e
theorem yw_X8_readPart : YW yX8_readPart cX8_readPart 4 (some .boolean) 1 := ⟨bw_of 1186 (by decide +kernel) rfl, bw_of 118 (by decide +kernel) rfl, ⟨by decide +kernel, by decide +kernel, by decide +kernel⟩, by decide +kernel⟩
theorem wml_RX8_147 : Cond.methodLink RX8 147 yX8_readPart ∈ BW := bw_of 1183 (by decide +kernel) rfl
theorem wim_X8_readPart : Cond.instanceMethod yX8_readPart ∈ BW := bw_of 1185 (by decide +kernel) rfl
theorem wse_X8_readPart : Cond.selects RX8 yX8_readPart yX8_readPart ∈ BW := bw_of 23 (by decide +kernel) rfl
theorem yw_X8_amend : YW yX8_amend cX8_amend 3 none 2 := ⟨bw_of 1195 (by decide +kernel) rfl, bw_of 118 (by decide +kernel) rfl, ⟨by decide +kernel, by decide +kernel, by decide +kernel⟩, by decide +kernel⟩
theorem wml_RX8_143 : Cond.methodLink RX8 143 yX8_amend ∈ BW := bw_of 1192 (by decide +kernel) rfl
theorem wim_X8_amend : Cond.instanceMethod yX8_amend ∈ BW := bw_of 1194 (by decide +kernel) rfl
theorem wse_X8_amend : Cond.selects RX8 yX8_amend yX8_amend ∈ BW := bw_of 25 (by decide +kernel) rfl
abbrev MX8_readSum : MI := (RX8, cX8_readSum, 4, (some .boolean), 4, none, "readSum")
noncomputable def X8_readSum_L67 (F : Nat)  (rc14 : Nat → Int → Int → Int → HP → Option (Int × HP)) (l0 : Nat) (l1 : Int) (l2 : Int) (l3 : Int)  (h : HP) : Option (Int × HP) :=
  rc14 l0 l1 l2 (w32 (l3 + 1)) h
set_option maxRecDepth 100000 in
theorem SX8_readSum_L67 {K : Ctx} {F : Nat} {r : Int} {hf : HP}   (rc14 : Nat → Int → Int → Int → HP → Option (Int × HP)) (hrc14 : ∀ l0 l1 l2 l3 h, rc14 l0 l1 l2 l3 h = some (r, hf) → Go K MX8_readSum (QM K (some (vi r)) hf) hf 14 [(0, vr (some l0)), (1, vi l1), (2, vi l2), (3, vi l3)] [] h) (l0 : Nat) (l1 : Int) (l2 : Int) (l3 : Int)  (h : HP) (E : X8_readSum_L67 F  rc14 l0 l1 l2 l3 h = some (r, hf)) : Go K MX8_readSum (QM K (some (vi r)) hf) hf 67 [(0, vr (some l0)), (1, vi l1), (2, vi l2), (3, vi l3)] [] h := by
  unfold X8_readSum_L67 at E
  refine go_iinc (j := 3) (n := 70) (lv' := [(3, vi (w32 (l3 + 1))), (0, vr (some l0)), (1, vi l1), (2, vi l2)]) rfl dX8_readSum_67 rfl (Nat.le_of_ble_eq_true rfl) rfl ?_
  refine go_goto (tgt := 14) dX8_readSum_70 rfl ?_
  refine go_pick (lv' := [(0, vr (some l0)), (1, vi l1), (2, vi l2), (3, vi (w32 (l3 + 1)))]) [1, 2, 3, 0] rfl ?_
  exact hrc14 _ _ _ _ _ E
noncomputable def X8_readSum_L14 (F : Nat)   (k : Nat) : Nat → Int → Int → Int → HP → Option (Int × HP) :=
  Nat.rec (motive := fun _ => Nat → Int → Int → Int → HP → Option (Int × HP)) (fun _ _ _ _ _ => none) (fun _ rc14 l0 l1 l2 l3 h =>
    if 400 < l3 then
      some (0, h)
    else
      (xrc h (some l0) 8 17).bind fun a4 =>
      xb (X8_readPart F a4 l2 h) fun v2 h3 =>
      if v2 = 0 then
        some (0, h3)
      else
        (xrc h3 (some l0) 8 17).bind fun a8 =>
        xb (X8_amend F a8 l1 l3 h3) fun v6 h7 =>
        (xrc h7 (some l0) 8 17).bind fun a11 =>
        xb (X8_takes F a11 43 h7) fun v9 h10 =>
        if v9 = 0 then
          (xrc h10 (some l0) 8 17).bind fun a15 =>
          xb (X8_takes F a15 45 h10) fun v13 h14 =>
          if v13 = 0 then
            some (1, h14)
          else
            X8_readSum_L67 F rc14 l0 l1 (-1) l3 h14
        else
          X8_readSum_L67 F rc14 l0 l1 1 l3 h10) k
theorem X8_readSum_L14_s (F : Nat)   (k : Nat) (l0 : Nat) (l1 : Int) (l2 : Int) (l3 : Int)  (h : HP) : X8_readSum_L14 F   (k + 1) l0 l1 l2 l3 h =
    if 400 < l3 then
      some (0, h)
    else
      (xrc h (some l0) 8 17).bind fun a4 =>
      xb (X8_readPart F a4 l2 h) fun v2 h3 =>
      if v2 = 0 then
        some (0, h3)
      else
        (xrc h3 (some l0) 8 17).bind fun a8 =>
        xb (X8_amend F a8 l1 l3 h3) fun v6 h7 =>
        (xrc h7 (some l0) 8 17).bind fun a11 =>
        xb (X8_takes F a11 43 h7) fun v9 h10 =>
        if v9 = 0 then
          (xrc h10 (some l0) 8 17).bind fun a15 =>
          xb (X8_takes F a15 45 h10) fun v13 h14 =>
          if v13 = 0 then
            some (1, h14)
          else
            X8_readSum_L67 F (X8_readSum_L14 F k) l0 l1 (-1) l3 h14
        else
          X8_readSum_L67 F (X8_readSum_L14 F k) l0 l1 1 l3 h10 := rfl
set_option maxRecDepth 100000 in
theorem SX8_readSum_L14 {K : Ctx} {F : Nat} {r : Int} {hf : HP}     : ∀ (k : Nat) (l0 : Nat) (l1 : Int) (l2 : Int) (l3 : Int)  (h : HP), X8_readSum_L14 F   k l0 l1 l2 l3 h = some (r, hf) → Go K MX8_readSum (QM K (some (vi r)) hf) hf 14 [(0, vr (some l0)), (1, vi l1), (2, vi l2), (3, vi l3)] [] h := by
  intro k
  induction k with
  | zero => intro l0 l1 l2 l3 h E; exact nomatch E
  | succ k hrc14 =>
    intro l0 l1 l2 l3 h E
    rw [X8_readSum_L14_s] at E
    refine go_iload_n (j := 3) (n := 15) rfl rfl dX8_readSum_14 rfl ?_
    refine go_sipush (z := 400) (n := 18) ⟨by decide, by decide⟩ dX8_readSum_15 rfl ?_
    refine go_icmp_gt (tgt := 73) (n := 21) dX8_readSum_18 rfl rfl (fun c1 => ?_) (fun c1 => ?_)
    · rw [if_pos c1] at E
      refine go_iconst (z := 0) (n := 74) ⟨by decide, by decide⟩ dX8_readSum_73 rfl ?_
      cases E
      exact go_zreturn rfl (Or.inl rfl) dX8_readSum_74
    · rw [if_neg c1] at E
      refine go_aload_n (j := 0) (n := 22) rfl rfl dX8_readSum_21 rfl ?_
      refine go_iload_n (j := 2) (n := 23) rfl rfl dX8_readSum_22 rfl ?_
      replace E := Option.bind_eq_some_iff.mp E; obtain ⟨a4, ea4, E⟩ := E
      obtain ⟨fa4, ga4⟩ := xrc_some ea4
      replace E := xb_some E; obtain ⟨v2, h3, ev2, E⟩ := E
      refine go_callV (y := yX8_readPart) (n := 26) (st := []) (as := [vi l2]) (stk9 := [vi v2]) (OX8_readPart ev2) yw_X8_readPart ci_8 ga4 wml_RX8_147 wim_X8_readPart wse_X8_readPart (Nat.le_of_ble_eq_true rfl) rfl ⟨Nat.le_of_ble_eq_true rfl, Nat.le_of_ble_eq_true rfl⟩ (Nat.le_of_ble_eq_true rfl) dX8_readSum_23 rfl (by cases fa4; rfl) rfl ?_
      refine go_if_ne (tgt := 31) (n := 29) dX8_readSum_26 rfl rfl (fun c5 => ?_) (fun c5 => ?_)
      · rw [if_neg c5] at E
        refine go_aload_n (j := 0) (n := 32) rfl rfl dX8_readSum_31 rfl ?_
        refine go_iload_n (j := 1) (n := 33) rfl rfl dX8_readSum_32 rfl ?_
        refine go_iload_n (j := 3) (n := 34) rfl rfl dX8_readSum_33 rfl ?_
        replace E := Option.bind_eq_some_iff.mp E; obtain ⟨a8, ea8, E⟩ := E
        obtain ⟨fa8, ga8⟩ := xrc_some ea8
        replace E := xb_some E; obtain ⟨v6, h7, ev6, E⟩ := E
        refine go_callV (y := yX8_amend) (n := 37) (st := []) (as := [vi l1, vi l3]) (stk9 := []) (OX8_amend ev6) yw_X8_amend ci_8 ga8 wml_RX8_143 wim_X8_amend wse_X8_amend (Nat.le_of_ble_eq_true rfl) rfl ⟨Nat.le_of_ble_eq_true rfl, Nat.le_of_ble_eq_true rfl⟩ (Nat.le_of_ble_eq_true rfl) dX8_readSum_34 rfl (by cases fa8; rfl) rfl ?_
        refine go_aload_n (j := 0) (n := 38) rfl rfl dX8_readSum_37 rfl ?_
        refine go_bipush (z := 43) (n := 40) ⟨by decide, by decide⟩ dX8_readSum_38 rfl ?_
        replace E := Option.bind_eq_some_iff.mp E; obtain ⟨a11, ea11, E⟩ := E
        obtain ⟨fa11, ga11⟩ := xrc_some ea11
        replace E := xb_some E; obtain ⟨v9, h10, ev9, E⟩ := E
        refine go_callV (y := yX8_takes) (n := 43) (st := []) (as := [vi 43]) (stk9 := [vi v9]) (OX8_takes ev9) yw_X8_takes ci_8 ga11 wml_RX8_76 wim_X8_takes wse_X8_takes (Nat.le_of_ble_eq_true rfl) rfl ⟨Nat.le_of_ble_eq_true rfl, Nat.le_of_ble_eq_true rfl⟩ (Nat.le_of_ble_eq_true rfl) dX8_readSum_40 rfl (by cases fa11; rfl) rfl ?_
        refine go_if_eq (tgt := 51) (n := 46) dX8_readSum_43 rfl rfl (fun c12 => ?_) (fun c12 => ?_)
        · rw [if_pos c12] at E
          refine go_aload_n (j := 0) (n := 52) rfl rfl dX8_readSum_51 rfl ?_
          refine go_bipush (z := 45) (n := 54) ⟨by decide, by decide⟩ dX8_readSum_52 rfl ?_
          replace E := Option.bind_eq_some_iff.mp E; obtain ⟨a15, ea15, E⟩ := E
          obtain ⟨fa15, ga15⟩ := xrc_some ea15
          replace E := xb_some E; obtain ⟨v13, h14, ev13, E⟩ := E
          refine go_callV (y := yX8_takes) (n := 57) (st := []) (as := [vi 45]) (stk9 := [vi v13]) (OX8_takes ev13) yw_X8_takes ci_8 ga15 wml_RX8_76 wim_X8_takes wse_X8_takes (Nat.le_of_ble_eq_true rfl) rfl ⟨Nat.le_of_ble_eq_true rfl, Nat.le_of_ble_eq_true rfl⟩ (Nat.le_of_ble_eq_true rfl) dX8_readSum_54 rfl (by cases fa15; rfl) rfl ?_
          refine go_if_eq (tgt := 65) (n := 60) dX8_readSum_57 rfl rfl (fun c16 => ?_) (fun c16 => ?_)
          · rw [if_pos c16] at E
            refine go_iconst (z := 1) (n := 66) ⟨by decide, by decide⟩ dX8_readSum_65 rfl ?_
            cases E
            exact go_zreturn rfl (Or.inr rfl) dX8_readSum_66
          · rw [if_neg c16] at E
            refine go_iconst (z := (-1)) (n := 61) ⟨by decide, by decide⟩ dX8_readSum_60 rfl ?_
            refine go_istore_n (n := 62) (lv' := [(2, vi (-1)), (0, vr (some l0)), (1, vi l1), (3, vi l3)]) rfl dX8_readSum_61 rfl (Nat.le_of_ble_eq_true rfl) rfl ?_
            refine go_goto (tgt := 67) dX8_readSum_62 rfl ?_
            refine go_pick (lv' := [(0, vr (some l0)), (1, vi l1), (2, vi (-1)), (3, vi l3)]) [1, 2, 0, 3] rfl ?_
            exact SX8_readSum_L67   _ hrc14 _ _ _ _  _ E
        · rw [if_neg c12] at E
          refine go_iconst (z := 1) (n := 47) ⟨by decide, by decide⟩ dX8_readSum_46 rfl ?_
          refine go_istore_n (n := 48) (lv' := [(2, vi 1), (0, vr (some l0)), (1, vi l1), (3, vi l3)]) rfl dX8_readSum_47 rfl (Nat.le_of_ble_eq_true rfl) rfl ?_
          refine go_goto (tgt := 67) dX8_readSum_48 rfl ?_
          refine go_pick (lv' := [(0, vr (some l0)), (1, vi l1), (2, vi 1), (3, vi l3)]) [1, 2, 0, 3] rfl ?_
          exact SX8_readSum_L67   _ hrc14 _ _ _ _  _ E
      · rw [if_pos c5] at E
        refine go_iconst (z := 0) (n := 30) ⟨by decide, by decide⟩ dX8_readSum_29 rfl ?_
        cases E
        exact go_zreturn rfl (Or.inl rfl) dX8_readSum_30
noncomputable def X8_readSum (F : Nat)   (l0 : Nat)  (h : HP) : Option (Int × HP) :=
  (xgI h (some l0) 8 17 9).bind fun v1 =>
  (xrc h (some l0) 8 17).bind fun a4 =>
  xb (X8_emit F a4 0 h) fun v2 h3 =>
  X8_readSum_L14 F F l0 v1 1 1 h3
set_option maxRecDepth 100000 in
theorem SX8_readSum {K : Ctx} {F : Nat} {r : Int} {hf : HP}     (l0 : Nat)  (h : HP) (E : X8_readSum F   l0 h = some (r, hf)) : Go K MX8_readSum (QM K (some (vi r)) hf) hf 0 [(0, vr (some l0))] [] h := by
  unfold X8_readSum at E
  refine go_aload_n (j := 0) (n := 1) rfl rfl dX8_readSum_0 rfl ?_
  replace E := Option.bind_eq_some_iff.mp E; obtain ⟨v1, ev1, E⟩ := E
  refine go_getI (n := 4) ev1 fl_RX8_53 rfl dX8_readSum_1 rfl ?_
  refine go_istore_n (n := 5) (lv' := [(1, vi v1), (0, vr (some l0))]) rfl dX8_readSum_4 rfl (Nat.le_of_ble_eq_true rfl) rfl ?_
  refine go_aload_n (j := 1) (n := 6) rfl rfl dX8_readSum_5 rfl ?_
  refine go_iconst (z := 0) (n := 7) ⟨by decide, by decide⟩ dX8_readSum_6 rfl ?_
  replace E := Option.bind_eq_some_iff.mp E; obtain ⟨a4, ea4, E⟩ := E
  obtain ⟨fa4, ga4⟩ := xrc_some ea4
  replace E := xb_some E; obtain ⟨v2, h3, ev2, E⟩ := E
  refine go_callV (y := yX8_emit) (n := 10) (st := []) (as := [vi 0]) (stk9 := []) (OX8_emit ev2) yw_X8_emit ci_8 ga4 wml_RX8_110 wim_X8_emit wse_X8_emit (Nat.le_of_ble_eq_true rfl) rfl ⟨Nat.le_of_ble_eq_true rfl, Nat.le_of_ble_eq_true rfl⟩ (Nat.le_of_ble_eq_true rfl) dX8_readSum_7 rfl (by cases fa4; rfl) rfl ?_
  refine go_iconst (z := 1) (n := 11) ⟨by decide, by decide⟩ dX8_readSum_10 rfl ?_
  refine go_istore_n (n := 12) (lv' := [(2, vi 1), (1, vi v1), (0, vr (some l0))]) rfl dX8_readSum_11 rfl (Nat.le_of_ble_eq_true rfl) rfl ?_
  refine go_iconst (z := 1) (n := 13) ⟨by decide, by decide⟩ dX8_readSum_12 rfl ?_
  refine go_istore_n (n := 14) (lv' := [(3, vi 1), (2, vi 1), (1, vi v1), (0, vr (some l0))]) rfl dX8_readSum_13 rfl (Nat.le_of_ble_eq_true rfl) rfl ?_
  refine go_pick (lv' := [(0, vr (some l0)), (1, vi v1), (2, vi 1), (3, vi 1)]) [3, 2, 1, 0] rfl ?_
  exact SX8_readSum_L14     F _ _ _ _ _ E
theorem OX8_readSum {F : Nat} {l0 : Nat} {h hf : HP} {r : Int} (e : X8_readSum F l0 h = some (r, hf)) : Ok MX8_readSum [vr (some l0)] (some (vi r)) h hf := fun K _ _ _ => SX8_readSum l0 h e
theorem yw_X8_takeTarget : YW yX8_takeTarget cX8_takeTarget 2 (some .boolean) 1 := ⟨bw_of 1174 (by decide +kernel) rfl, bw_of 118 (by decide +kernel) rfl, ⟨by decide +kernel, by decide +kernel, by decide +kernel⟩, by decide +kernel⟩
theorem wml_RX8_116 : Cond.methodLink RX8 116 yX8_takeTarget ∈ BW := bw_of 1171 (by decide +kernel) rfl
theorem wim_X8_takeTarget : Cond.instanceMethod yX8_takeTarget ∈ BW := bw_of 1173 (by decide +kernel) rfl
theorem wse_X8_takeTarget : Cond.selects RX8 yX8_takeTarget yX8_takeTarget ∈ BW := bw_of 20 (by decide +kernel) rfl
theorem yw_X8_readSum : YW yX8_readSum cX8_readSum 4 (some .boolean) 0 := ⟨bw_of 1182 (by decide +kernel) rfl, bw_of 118 (by decide +kernel) rfl, ⟨by decide +kernel, by decide +kernel, by decide +kernel⟩, by decide +kernel⟩
theorem wml_RX8_119 : Cond.methodLink RX8 119 yX8_readSum ∈ BW := bw_of 1179 (by decide +kernel) rfl
theorem wim_X8_readSum : Cond.instanceMethod yX8_readSum ∈ BW := bw_of 1181 (by decide +kernel) rfl
theorem wse_X8_readSum : Cond.selects RX8 yX8_readSum yX8_readSum ∈ BW := bw_of 22 (by decide +kernel) rfl
abbrev MX8_readSet : MI := (RX8, cX8_readSet, 2, (some .boolean), 5, none, "readSet")
noncomputable def X8_readSet (F : Nat)   (l0 : Nat) (l1 : Int)  (h : HP) : Option (Int × HP) :=
  (xrc h (some l0) 8 17).bind fun a3 =>
  xb (X8_takeTarget F a3 257 h) fun v1 h2 =>
  if v1 = 0 then
    some (0, h2)
  else
    (xrc h2 (some l0) 8 17).bind fun a7 =>
    xb (X8_takes F a7 61 h2) fun v5 h6 =>
    if v5 = 0 then
      some (0, h6)
    else
      (xrc h6 (some l0) 8 17).bind fun a11 =>
      xb (X8_emit F a11 l1 h6) fun v9 h10 =>
      (xrc h10 (some l0) 8 17).bind fun a14 =>
      xb (X8_readSum F a14 h10) fun v12 h13 =>
      xz v12 h13
set_option maxRecDepth 100000 in
theorem SX8_readSet {K : Ctx} {F : Nat} {r : Int} {hf : HP}     (l0 : Nat) (l1 : Int)  (h : HP) (E : X8_readSet F   l0 l1 h = some (r, hf)) : Go K MX8_readSet (QM K (some (vi r)) hf) hf 0 [(0, vr (some l0)), (1, vi l1)] [] h := by
  unfold X8_readSet at E
  refine go_aload_n (j := 0) (n := 1) rfl rfl dX8_readSet_0 rfl ?_
  refine go_sipush (z := 257) (n := 4) ⟨by decide, by decide⟩ dX8_readSet_1 rfl ?_
  replace E := Option.bind_eq_some_iff.mp E; obtain ⟨a3, ea3, E⟩ := E
  obtain ⟨fa3, ga3⟩ := xrc_some ea3
  replace E := xb_some E; obtain ⟨v1, h2, ev1, E⟩ := E
  refine go_callV (y := yX8_takeTarget) (n := 7) (st := []) (as := [vi 257]) (stk9 := [vi v1]) (OX8_takeTarget ev1) yw_X8_takeTarget ci_8 ga3 wml_RX8_116 wim_X8_takeTarget wse_X8_takeTarget (Nat.le_of_ble_eq_true rfl) rfl ⟨Nat.le_of_ble_eq_true rfl, Nat.le_of_ble_eq_true rfl⟩ (Nat.le_of_ble_eq_true rfl) dX8_readSet_4 rfl (by cases fa3; rfl) rfl ?_
  refine go_if_eq (tgt := 19) (n := 10) dX8_readSet_7 rfl rfl (fun c4 => ?_) (fun c4 => ?_)
  · rw [if_pos c4] at E
    refine go_iconst (z := 0) (n := 20) ⟨by decide, by decide⟩ dX8_readSet_19 rfl ?_
    cases E
    exact go_zreturn rfl (Or.inl rfl) dX8_readSet_20
  · rw [if_neg c4] at E
    refine go_aload_n (j := 0) (n := 11) rfl rfl dX8_readSet_10 rfl ?_
    refine go_bipush (z := 61) (n := 13) ⟨by decide, by decide⟩ dX8_readSet_11 rfl ?_
    replace E := Option.bind_eq_some_iff.mp E; obtain ⟨a7, ea7, E⟩ := E
    obtain ⟨fa7, ga7⟩ := xrc_some ea7
    replace E := xb_some E; obtain ⟨v5, h6, ev5, E⟩ := E
    refine go_callV (y := yX8_takes) (n := 16) (st := []) (as := [vi 61]) (stk9 := [vi v5]) (OX8_takes ev5) yw_X8_takes ci_8 ga7 wml_RX8_76 wim_X8_takes wse_X8_takes (Nat.le_of_ble_eq_true rfl) rfl ⟨Nat.le_of_ble_eq_true rfl, Nat.le_of_ble_eq_true rfl⟩ (Nat.le_of_ble_eq_true rfl) dX8_readSet_13 rfl (by cases fa7; rfl) rfl ?_
    refine go_if_ne (tgt := 21) (n := 19) dX8_readSet_16 rfl rfl (fun c8 => ?_) (fun c8 => ?_)
    · rw [if_neg c8] at E
      refine go_aload_n (j := 0) (n := 22) rfl rfl dX8_readSet_21 rfl ?_
      refine go_iload_n (j := 1) (n := 23) rfl rfl dX8_readSet_22 rfl ?_
      replace E := Option.bind_eq_some_iff.mp E; obtain ⟨a11, ea11, E⟩ := E
      obtain ⟨fa11, ga11⟩ := xrc_some ea11
      replace E := xb_some E; obtain ⟨v9, h10, ev9, E⟩ := E
      refine go_callV (y := yX8_emit) (n := 26) (st := []) (as := [vi l1]) (stk9 := []) (OX8_emit ev9) yw_X8_emit ci_8 ga11 wml_RX8_110 wim_X8_emit wse_X8_emit (Nat.le_of_ble_eq_true rfl) rfl ⟨Nat.le_of_ble_eq_true rfl, Nat.le_of_ble_eq_true rfl⟩ (Nat.le_of_ble_eq_true rfl) dX8_readSet_23 rfl (by cases fa11; rfl) rfl ?_
      refine go_aload_n (j := 0) (n := 27) rfl rfl dX8_readSet_26 rfl ?_
      replace E := Option.bind_eq_some_iff.mp E; obtain ⟨a14, ea14, E⟩ := E
      obtain ⟨fa14, ga14⟩ := xrc_some ea14
      replace E := xb_some E; obtain ⟨v12, h13, ev12, E⟩ := E
      refine go_callV (y := yX8_readSum) (n := 30) (st := []) (as := []) (stk9 := [vi v12]) (OX8_readSum ev12) yw_X8_readSum ci_8 ga14 wml_RX8_119 wim_X8_readSum wse_X8_readSum (Nat.le_of_ble_eq_true rfl) rfl ⟨Nat.le_of_ble_eq_true rfl, Nat.le_of_ble_eq_true rfl⟩ (Nat.le_of_ble_eq_true rfl) dX8_readSet_27 rfl (by cases fa14; rfl) rfl ?_
      unfold xz at E
      split at E
      · next c15 =>
        cases E
        exact go_zreturn rfl c15 dX8_readSet_30
      · cases E
    · rw [if_pos c8] at E
      refine go_iconst (z := 0) (n := 20) ⟨by decide, by decide⟩ dX8_readSet_19 rfl ?_
      cases E
      exact go_zreturn rfl (Or.inl rfl) dX8_readSet_20
theorem OX8_readSet {F : Nat} {l0 : Nat} {l1 : Int} {h hf : HP} {r : Int} (e : X8_readSet F l0 l1 h = some (r, hf)) : Ok MX8_readSet [vr (some l0), vi l1] (some (vi r)) h hf := fun K _ _ _ => SX8_readSet l0 l1 h e
abbrev MX8_readTotal : MI := (RX8, cX8_readTotal, 3, (some .boolean), 4, none, "readTotal")
noncomputable def X8_readTotal_L74 (F : Nat)   (k : Nat) : Nat → Int → HP → Option (Int × HP) :=
  Nat.rec (motive := fun _ => Nat → Int → HP → Option (Int × HP)) (fun _ _ _ => none) (fun _ rc74 l0 l2 h =>
    (xgI h (some l0) 8 17 7).bind fun v1 =>
    if v1 < l2 then
      some (1, h)
    else
      (xgJ h (some l0) 8 17 13).bind fun v3 =>
      (xpJ h (some l0) 8 17 13 (yor v3 (yshl 1 l2))).bind fun h4 =>
      rc74 l0 (w32 (l2 + 1)) h4) k
theorem X8_readTotal_L74_s (F : Nat)   (k : Nat) (l0 : Nat) (l2 : Int)  (h : HP) : X8_readTotal_L74 F   (k + 1) l0 l2 h =
    (xgI h (some l0) 8 17 7).bind fun v1 =>
    if v1 < l2 then
      some (1, h)
    else
      (xgJ h (some l0) 8 17 13).bind fun v3 =>
      (xpJ h (some l0) 8 17 13 (yor v3 (yshl 1 l2))).bind fun h4 =>
      (X8_readTotal_L74 F k) l0 (w32 (l2 + 1)) h4 := rfl
set_option maxRecDepth 100000 in
theorem SX8_readTotal_L74 {K : Ctx} {F : Nat} {r : Int} {hf : HP}     : ∀ (k : Nat) (l0 : Nat) (l2 : Int)  (h : HP), X8_readTotal_L74 F   k l0 l2 h = some (r, hf) → Go K MX8_readTotal (QM K (some (vi r)) hf) hf 74 [(0, vr (some l0)), (2, vi l2)] [] h := by
  intro k
  induction k with
  | zero => intro l0 l2 h E; exact nomatch E
  | succ k hrc74 =>
    intro l0 l2 h E
    rw [X8_readTotal_L74_s] at E
    refine go_iload_n (j := 1) (n := 75) rfl rfl dX8_readTotal_74 rfl ?_
    refine go_aload_n (j := 0) (n := 76) rfl rfl dX8_readTotal_75 rfl ?_
    replace E := Option.bind_eq_some_iff.mp E; obtain ⟨v1, ev1, E⟩ := E
    refine go_getI (n := 79) ev1 fl_RX8_98 rfl dX8_readTotal_76 rfl ?_
    refine go_icmp_gt (tgt := 100) (n := 82) dX8_readTotal_79 rfl rfl (fun c2 => ?_) (fun c2 => ?_)
    · rw [if_pos c2] at E
      refine go_iconst (z := 1) (n := 101) ⟨by decide, by decide⟩ dX8_readTotal_100 rfl ?_
      cases E
      exact go_zreturn rfl (Or.inr rfl) dX8_readTotal_101
    · rw [if_neg c2] at E
      refine go_aload_n (j := 0) (n := 83) rfl rfl dX8_readTotal_82 rfl ?_
      refine go_dup (n := 84) rfl dX8_readTotal_83 rfl ?_
      replace E := Option.bind_eq_some_iff.mp E; obtain ⟨v3, ev3, E⟩ := E
      refine go_getJ (n := 87) ev3 fl_RX8_67 rfl dX8_readTotal_84 rfl ?_
      refine go_lconst (w := 1) (n := 88) rfl dX8_readTotal_87 rfl ?_
      refine go_iload_n (j := 1) (n := 89) rfl rfl dX8_readTotal_88 rfl ?_
      refine go_lshl (n := 90) dX8_readTotal_89 rfl ?_
      refine go_lor (n := 91) dX8_readTotal_90 rfl ?_
      replace E := Option.bind_eq_some_iff.mp E; obtain ⟨h4, eh4, E⟩ := E
      refine go_putJ (n := 94) eh4 fl_RX8_67 rfl dX8_readTotal_91 rfl ?_
      refine go_iinc (j := 1) (n := 97) (lv' := [(2, vi (w32 (l2 + 1))), (0, vr (some l0))]) rfl dX8_readTotal_94 rfl (Nat.le_of_ble_eq_true rfl) rfl ?_
      refine go_goto (tgt := 74) dX8_readTotal_97 rfl ?_
      refine go_pick (lv' := [(0, vr (some l0)), (2, vi (w32 (l2 + 1)))]) [1, 0] rfl ?_
      exact hrc74 _ _ _ E
noncomputable def X8_readTotal (F : Nat)   (l0 : Nat)  (h : HP) : Option (Int × HP) :=
  (xrc h (some l0) 8 17).bind fun a3 =>
  xb (X8_takeTarget F a3 258 h) fun v1 h2 =>
  if v1 = 0 then
    some (0, h2)
  else
    (xrc h2 (some l0) 8 17).bind fun a7 =>
    xb (X8_takes F a7 259 h2) fun v5 h6 =>
    if v5 = 0 then
      some (0, h6)
    else
      (xrc h6 (some l0) 8 17).bind fun a11 =>
      xb (X8_takeNumber F a11 0 63 h6) fun v9 h10 =>
      if v9 = 0 then
        some (0, h10)
      else
        (xgI h10 (some l0) 8 17 7).bind fun v13 =>
        (xrc h10 (some l0) 8 17).bind fun a16 =>
        xb (X8_takes F a16 260 h10) fun v14 h15 =>
        if v14 = 0 then
          some (0, h15)
        else
          (xrc h15 (some l0) 8 17).bind fun a20 =>
          xb (X8_takeNumber F a20 v13 63 h15) fun v18 h19 =>
          if v18 = 0 then
            some (0, h19)
          else
            (xrc h19 (some l0) 8 17).bind fun a24 =>
            xb (X8_emit F a24 v13 h19) fun v22 h23 =>
            (xgI h23 (some l0) 8 17 7).bind fun v25 =>
            (xrc h23 (some l0) 8 17).bind fun a28 =>
            xb (X8_emit F a28 v25 h23) fun v26 h27 =>
            X8_readTotal_L74 F F l0 v13 h27
set_option maxRecDepth 100000 in
theorem SX8_readTotal {K : Ctx} {F : Nat} {r : Int} {hf : HP}     (l0 : Nat)  (h : HP) (E : X8_readTotal F   l0 h = some (r, hf)) : Go K MX8_readTotal (QM K (some (vi r)) hf) hf 0 [(0, vr (some l0))] [] h := by
  unfold X8_readTotal at E
  refine go_aload_n (j := 0) (n := 1) rfl rfl dX8_readTotal_0 rfl ?_
  refine go_sipush (z := 258) (n := 4) ⟨by decide, by decide⟩ dX8_readTotal_1 rfl ?_
  replace E := Option.bind_eq_some_iff.mp E; obtain ⟨a3, ea3, E⟩ := E
  obtain ⟨fa3, ga3⟩ := xrc_some ea3
  replace E := xb_some E; obtain ⟨v1, h2, ev1, E⟩ := E
  refine go_callV (y := yX8_takeTarget) (n := 7) (st := []) (as := [vi 258]) (stk9 := [vi v1]) (OX8_takeTarget ev1) yw_X8_takeTarget ci_8 ga3 wml_RX8_116 wim_X8_takeTarget wse_X8_takeTarget (Nat.le_of_ble_eq_true rfl) rfl ⟨Nat.le_of_ble_eq_true rfl, Nat.le_of_ble_eq_true rfl⟩ (Nat.le_of_ble_eq_true rfl) dX8_readTotal_4 rfl (by cases fa3; rfl) rfl ?_
  refine go_if_eq (tgt := 30) (n := 10) dX8_readTotal_7 rfl rfl (fun c4 => ?_) (fun c4 => ?_)
  · rw [if_pos c4] at E
    refine go_iconst (z := 0) (n := 31) ⟨by decide, by decide⟩ dX8_readTotal_30 rfl ?_
    cases E
    exact go_zreturn rfl (Or.inl rfl) dX8_readTotal_31
  · rw [if_neg c4] at E
    refine go_aload_n (j := 0) (n := 11) rfl rfl dX8_readTotal_10 rfl ?_
    refine go_sipush (z := 259) (n := 14) ⟨by decide, by decide⟩ dX8_readTotal_11 rfl ?_
    replace E := Option.bind_eq_some_iff.mp E; obtain ⟨a7, ea7, E⟩ := E
    obtain ⟨fa7, ga7⟩ := xrc_some ea7
    replace E := xb_some E; obtain ⟨v5, h6, ev5, E⟩ := E
    refine go_callV (y := yX8_takes) (n := 17) (st := []) (as := [vi 259]) (stk9 := [vi v5]) (OX8_takes ev5) yw_X8_takes ci_8 ga7 wml_RX8_76 wim_X8_takes wse_X8_takes (Nat.le_of_ble_eq_true rfl) rfl ⟨Nat.le_of_ble_eq_true rfl, Nat.le_of_ble_eq_true rfl⟩ (Nat.le_of_ble_eq_true rfl) dX8_readTotal_14 rfl (by cases fa7; rfl) rfl ?_
    refine go_if_eq (tgt := 30) (n := 20) dX8_readTotal_17 rfl rfl (fun c8 => ?_) (fun c8 => ?_)
    · rw [if_pos c8] at E
      refine go_iconst (z := 0) (n := 31) ⟨by decide, by decide⟩ dX8_readTotal_30 rfl ?_
      cases E
      exact go_zreturn rfl (Or.inl rfl) dX8_readTotal_31
    · rw [if_neg c8] at E
      refine go_aload_n (j := 0) (n := 21) rfl rfl dX8_readTotal_20 rfl ?_
      refine go_iconst (z := 0) (n := 22) ⟨by decide, by decide⟩ dX8_readTotal_21 rfl ?_
      refine go_bipush (z := 63) (n := 24) ⟨by decide, by decide⟩ dX8_readTotal_22 rfl ?_
      replace E := Option.bind_eq_some_iff.mp E; obtain ⟨a11, ea11, E⟩ := E
      obtain ⟨fa11, ga11⟩ := xrc_some ea11
      replace E := xb_some E; obtain ⟨v9, h10, ev9, E⟩ := E
      refine go_callV (y := yX8_takeNumber) (n := 27) (st := []) (as := [vi 0, vi 63]) (stk9 := [vi v9]) (OX8_takeNumber ev9) yw_X8_takeNumber ci_8 ga11 wml_RX8_94 wim_X8_takeNumber wse_X8_takeNumber (Nat.le_of_ble_eq_true rfl) rfl ⟨Nat.le_of_ble_eq_true rfl, Nat.le_of_ble_eq_true rfl⟩ (Nat.le_of_ble_eq_true rfl) dX8_readTotal_24 rfl (by cases fa11; rfl) rfl ?_
      refine go_if_ne (tgt := 32) (n := 30) dX8_readTotal_27 rfl rfl (fun c12 => ?_) (fun c12 => ?_)
      · rw [if_neg c12] at E
        refine go_aload_n (j := 0) (n := 33) rfl rfl dX8_readTotal_32 rfl ?_
        replace E := Option.bind_eq_some_iff.mp E; obtain ⟨v13, ev13, E⟩ := E
        refine go_getI (n := 36) ev13 fl_RX8_98 rfl dX8_readTotal_33 rfl ?_
        refine go_istore_n (n := 37) (lv' := [(1, vi v13), (0, vr (some l0))]) rfl dX8_readTotal_36 rfl (Nat.le_of_ble_eq_true rfl) rfl ?_
        refine go_aload_n (j := 1) (n := 38) rfl rfl dX8_readTotal_37 rfl ?_
        refine go_sipush (z := 260) (n := 41) ⟨by decide, by decide⟩ dX8_readTotal_38 rfl ?_
        replace E := Option.bind_eq_some_iff.mp E; obtain ⟨a16, ea16, E⟩ := E
        obtain ⟨fa16, ga16⟩ := xrc_some ea16
        replace E := xb_some E; obtain ⟨v14, h15, ev14, E⟩ := E
        refine go_callV (y := yX8_takes) (n := 44) (st := []) (as := [vi 260]) (stk9 := [vi v14]) (OX8_takes ev14) yw_X8_takes ci_8 ga16 wml_RX8_76 wim_X8_takes wse_X8_takes (Nat.le_of_ble_eq_true rfl) rfl ⟨Nat.le_of_ble_eq_true rfl, Nat.le_of_ble_eq_true rfl⟩ (Nat.le_of_ble_eq_true rfl) dX8_readTotal_41 rfl (by cases fa16; rfl) rfl ?_
        refine go_if_eq (tgt := 57) (n := 47) dX8_readTotal_44 rfl rfl (fun c17 => ?_) (fun c17 => ?_)
        · rw [if_pos c17] at E
          refine go_iconst (z := 0) (n := 58) ⟨by decide, by decide⟩ dX8_readTotal_57 rfl ?_
          cases E
          exact go_zreturn rfl (Or.inl rfl) dX8_readTotal_58
        · rw [if_neg c17] at E
          refine go_aload_n (j := 1) (n := 48) rfl rfl dX8_readTotal_47 rfl ?_
          refine go_iload_n (j := 0) (n := 49) rfl rfl dX8_readTotal_48 rfl ?_
          refine go_bipush (z := 63) (n := 51) ⟨by decide, by decide⟩ dX8_readTotal_49 rfl ?_
          replace E := Option.bind_eq_some_iff.mp E; obtain ⟨a20, ea20, E⟩ := E
          obtain ⟨fa20, ga20⟩ := xrc_some ea20
          replace E := xb_some E; obtain ⟨v18, h19, ev18, E⟩ := E
          refine go_callV (y := yX8_takeNumber) (n := 54) (st := []) (as := [vi v13, vi 63]) (stk9 := [vi v18]) (OX8_takeNumber ev18) yw_X8_takeNumber ci_8 ga20 wml_RX8_94 wim_X8_takeNumber wse_X8_takeNumber (Nat.le_of_ble_eq_true rfl) rfl ⟨Nat.le_of_ble_eq_true rfl, Nat.le_of_ble_eq_true rfl⟩ (Nat.le_of_ble_eq_true rfl) dX8_readTotal_51 rfl (by cases fa20; rfl) rfl ?_
          refine go_if_ne (tgt := 59) (n := 57) dX8_readTotal_54 rfl rfl (fun c21 => ?_) (fun c21 => ?_)
          · rw [if_neg c21] at E
            refine go_aload_n (j := 1) (n := 60) rfl rfl dX8_readTotal_59 rfl ?_
            refine go_iload_n (j := 0) (n := 61) rfl rfl dX8_readTotal_60 rfl ?_
            replace E := Option.bind_eq_some_iff.mp E; obtain ⟨a24, ea24, E⟩ := E
            obtain ⟨fa24, ga24⟩ := xrc_some ea24
            replace E := xb_some E; obtain ⟨v22, h23, ev22, E⟩ := E
            refine go_callV (y := yX8_emit) (n := 64) (st := []) (as := [vi v13]) (stk9 := []) (OX8_emit ev22) yw_X8_emit ci_8 ga24 wml_RX8_110 wim_X8_emit wse_X8_emit (Nat.le_of_ble_eq_true rfl) rfl ⟨Nat.le_of_ble_eq_true rfl, Nat.le_of_ble_eq_true rfl⟩ (Nat.le_of_ble_eq_true rfl) dX8_readTotal_61 rfl (by cases fa24; rfl) rfl ?_
            refine go_aload_n (j := 1) (n := 65) rfl rfl dX8_readTotal_64 rfl ?_
            refine go_aload_n (j := 1) (n := 66) rfl rfl dX8_readTotal_65 rfl ?_
            replace E := Option.bind_eq_some_iff.mp E; obtain ⟨v25, ev25, E⟩ := E
            refine go_getI (n := 69) ev25 fl_RX8_98 rfl dX8_readTotal_66 rfl ?_
            replace E := Option.bind_eq_some_iff.mp E; obtain ⟨a28, ea28, E⟩ := E
            obtain ⟨fa28, ga28⟩ := xrc_some ea28
            replace E := xb_some E; obtain ⟨v26, h27, ev26, E⟩ := E
            refine go_callV (y := yX8_emit) (n := 72) (st := []) (as := [vi v25]) (stk9 := []) (OX8_emit ev26) yw_X8_emit ci_8 ga28 wml_RX8_110 wim_X8_emit wse_X8_emit (Nat.le_of_ble_eq_true rfl) rfl ⟨Nat.le_of_ble_eq_true rfl, Nat.le_of_ble_eq_true rfl⟩ (Nat.le_of_ble_eq_true rfl) dX8_readTotal_69 rfl (by cases fa28; rfl) rfl ?_
            refine go_iload_n (j := 0) (n := 73) rfl rfl dX8_readTotal_72 rfl ?_
            refine go_istore_n (n := 74) (lv' := [(2, vi v13), (1, vi v13), (0, vr (some l0))]) rfl dX8_readTotal_73 rfl (Nat.le_of_ble_eq_true rfl) rfl ?_
            refine go_pick (lv' := [(0, vr (some l0)), (2, vi v13)]) [2, 0] rfl ?_
            exact SX8_readTotal_L74     F _ _ _ E
          · rw [if_pos c21] at E
            refine go_iconst (z := 0) (n := 58) ⟨by decide, by decide⟩ dX8_readTotal_57 rfl ?_
            cases E
            exact go_zreturn rfl (Or.inl rfl) dX8_readTotal_58
      · rw [if_pos c12] at E
        refine go_iconst (z := 0) (n := 31) ⟨by decide, by decide⟩ dX8_readTotal_30 rfl ?_
        cases E
        exact go_zreturn rfl (Or.inl rfl) dX8_readTotal_31
theorem OX8_readTotal {F : Nat} {l0 : Nat} {h hf : HP} {r : Int} (e : X8_readTotal F l0 h = some (r, hf)) : Ok MX8_readTotal [vr (some l0)] (some (vi r)) h hf := fun K _ _ _ => SX8_readTotal l0 h e
abbrev MX8_readRound : MI := (RX8, cX8_readRound, 1, (some .boolean), 4, none, "readRound")
noncomputable def X8_readRound (F : Nat)   (l0 : Nat)  (h : HP) : Option (Int × HP) :=
  (xrc h (some l0) 8 17).bind fun a3 =>
  xb (X8_takeTarget F a3 261 h) fun v1 h2 =>
  if v1 = 0 then
    some (0, h2)
  else
    (xgJ h2 (some l0) 8 17 13).bind fun v5 =>
    (xgI h2 (some l0) 8 17 7).bind fun v6 =>
    (xpJ h2 (some l0) 8 17 13 (yor v5 (yshl 1 v6))).bind fun h7 =>
    (xrc h7 (some l0) 8 17).bind fun a10 =>
    xb (X8_takes F a10 262 h7) fun v8 h9 =>
    if v8 = 0 then
      some (0, h9)
    else
      (xrc h9 (some l0) 8 17).bind fun a14 =>
      xb (X8_takeNumber F a14 1 9999 h9) fun v12 h13 =>
      if v12 = 0 then
        some (0, h13)
      else
        (xgI h13 (some l0) 8 17 7).bind fun v16 =>
        (xrc h13 (some l0) 8 17).bind fun a19 =>
        xb (X8_emit F a19 v16 h13) fun v17 h18 =>
        some (1, h18)
set_option maxRecDepth 100000 in
theorem SX8_readRound {K : Ctx} {F : Nat} {r : Int} {hf : HP}     (l0 : Nat)  (h : HP) (E : X8_readRound F   l0 h = some (r, hf)) : Go K MX8_readRound (QM K (some (vi r)) hf) hf 0 [(0, vr (some l0))] [] h := by
  unfold X8_readRound at E
  refine go_aload_n (j := 0) (n := 1) rfl rfl dX8_readRound_0 rfl ?_
  refine go_sipush (z := 261) (n := 4) ⟨by decide, by decide⟩ dX8_readRound_1 rfl ?_
  replace E := Option.bind_eq_some_iff.mp E; obtain ⟨a3, ea3, E⟩ := E
  obtain ⟨fa3, ga3⟩ := xrc_some ea3
  replace E := xb_some E; obtain ⟨v1, h2, ev1, E⟩ := E
  refine go_callV (y := yX8_takeTarget) (n := 7) (st := []) (as := [vi 261]) (stk9 := [vi v1]) (OX8_takeTarget ev1) yw_X8_takeTarget ci_8 ga3 wml_RX8_116 wim_X8_takeTarget wse_X8_takeTarget (Nat.le_of_ble_eq_true rfl) rfl ⟨Nat.le_of_ble_eq_true rfl, Nat.le_of_ble_eq_true rfl⟩ (Nat.le_of_ble_eq_true rfl) dX8_readRound_4 rfl (by cases fa3; rfl) rfl ?_
  refine go_if_ne (tgt := 12) (n := 10) dX8_readRound_7 rfl rfl (fun c4 => ?_) (fun c4 => ?_)
  · rw [if_neg c4] at E
    refine go_aload_n (j := 0) (n := 13) rfl rfl dX8_readRound_12 rfl ?_
    refine go_dup (n := 14) rfl dX8_readRound_13 rfl ?_
    replace E := Option.bind_eq_some_iff.mp E; obtain ⟨v5, ev5, E⟩ := E
    refine go_getJ (n := 17) ev5 fl_RX8_67 rfl dX8_readRound_14 rfl ?_
    refine go_lconst (w := 1) (n := 18) rfl dX8_readRound_17 rfl ?_
    refine go_aload_n (j := 0) (n := 19) rfl rfl dX8_readRound_18 rfl ?_
    replace E := Option.bind_eq_some_iff.mp E; obtain ⟨v6, ev6, E⟩ := E
    refine go_getI (n := 22) ev6 fl_RX8_98 rfl dX8_readRound_19 rfl ?_
    refine go_lshl (n := 23) dX8_readRound_22 rfl ?_
    refine go_lor (n := 24) dX8_readRound_23 rfl ?_
    replace E := Option.bind_eq_some_iff.mp E; obtain ⟨h7, eh7, E⟩ := E
    refine go_putJ (n := 27) eh7 fl_RX8_67 rfl dX8_readRound_24 rfl ?_
    refine go_aload_n (j := 0) (n := 28) rfl rfl dX8_readRound_27 rfl ?_
    refine go_sipush (z := 262) (n := 31) ⟨by decide, by decide⟩ dX8_readRound_28 rfl ?_
    replace E := Option.bind_eq_some_iff.mp E; obtain ⟨a10, ea10, E⟩ := E
    obtain ⟨fa10, ga10⟩ := xrc_some ea10
    replace E := xb_some E; obtain ⟨v8, h9, ev8, E⟩ := E
    refine go_callV (y := yX8_takes) (n := 34) (st := []) (as := [vi 262]) (stk9 := [vi v8]) (OX8_takes ev8) yw_X8_takes ci_8 ga10 wml_RX8_76 wim_X8_takes wse_X8_takes (Nat.le_of_ble_eq_true rfl) rfl ⟨Nat.le_of_ble_eq_true rfl, Nat.le_of_ble_eq_true rfl⟩ (Nat.le_of_ble_eq_true rfl) dX8_readRound_31 rfl (by cases fa10; rfl) rfl ?_
    refine go_if_eq (tgt := 48) (n := 37) dX8_readRound_34 rfl rfl (fun c11 => ?_) (fun c11 => ?_)
    · rw [if_pos c11] at E
      refine go_iconst (z := 0) (n := 49) ⟨by decide, by decide⟩ dX8_readRound_48 rfl ?_
      cases E
      exact go_zreturn rfl (Or.inl rfl) dX8_readRound_49
    · rw [if_neg c11] at E
      refine go_aload_n (j := 0) (n := 38) rfl rfl dX8_readRound_37 rfl ?_
      refine go_iconst (z := 1) (n := 39) ⟨by decide, by decide⟩ dX8_readRound_38 rfl ?_
      refine go_sipush (z := 9999) (n := 42) ⟨by decide, by decide⟩ dX8_readRound_39 rfl ?_
      replace E := Option.bind_eq_some_iff.mp E; obtain ⟨a14, ea14, E⟩ := E
      obtain ⟨fa14, ga14⟩ := xrc_some ea14
      replace E := xb_some E; obtain ⟨v12, h13, ev12, E⟩ := E
      refine go_callV (y := yX8_takeNumber) (n := 45) (st := []) (as := [vi 1, vi 9999]) (stk9 := [vi v12]) (OX8_takeNumber ev12) yw_X8_takeNumber ci_8 ga14 wml_RX8_94 wim_X8_takeNumber wse_X8_takeNumber (Nat.le_of_ble_eq_true rfl) rfl ⟨Nat.le_of_ble_eq_true rfl, Nat.le_of_ble_eq_true rfl⟩ (Nat.le_of_ble_eq_true rfl) dX8_readRound_42 rfl (by cases fa14; rfl) rfl ?_
      refine go_if_ne (tgt := 50) (n := 48) dX8_readRound_45 rfl rfl (fun c15 => ?_) (fun c15 => ?_)
      · rw [if_neg c15] at E
        refine go_aload_n (j := 0) (n := 51) rfl rfl dX8_readRound_50 rfl ?_
        refine go_aload_n (j := 0) (n := 52) rfl rfl dX8_readRound_51 rfl ?_
        replace E := Option.bind_eq_some_iff.mp E; obtain ⟨v16, ev16, E⟩ := E
        refine go_getI (n := 55) ev16 fl_RX8_98 rfl dX8_readRound_52 rfl ?_
        replace E := Option.bind_eq_some_iff.mp E; obtain ⟨a19, ea19, E⟩ := E
        obtain ⟨fa19, ga19⟩ := xrc_some ea19
        replace E := xb_some E; obtain ⟨v17, h18, ev17, E⟩ := E
        refine go_callV (y := yX8_emit) (n := 58) (st := []) (as := [vi v16]) (stk9 := []) (OX8_emit ev17) yw_X8_emit ci_8 ga19 wml_RX8_110 wim_X8_emit wse_X8_emit (Nat.le_of_ble_eq_true rfl) rfl ⟨Nat.le_of_ble_eq_true rfl, Nat.le_of_ble_eq_true rfl⟩ (Nat.le_of_ble_eq_true rfl) dX8_readRound_55 rfl (by cases fa19; rfl) rfl ?_
        refine go_iconst (z := 1) (n := 59) ⟨by decide, by decide⟩ dX8_readRound_58 rfl ?_
        cases E
        exact go_zreturn rfl (Or.inr rfl) dX8_readRound_59
      · rw [if_pos c15] at E
        refine go_iconst (z := 0) (n := 49) ⟨by decide, by decide⟩ dX8_readRound_48 rfl ?_
        cases E
        exact go_zreturn rfl (Or.inl rfl) dX8_readRound_49
  · rw [if_pos c4] at E
    refine go_iconst (z := 0) (n := 11) ⟨by decide, by decide⟩ dX8_readRound_10 rfl ?_
    cases E
    exact go_zreturn rfl (Or.inl rfl) dX8_readRound_11
theorem OX8_readRound {F : Nat} {l0 : Nat} {h hf : HP} {r : Int} (e : X8_readRound F l0 h = some (r, hf)) : Ok MX8_readRound [vr (some l0)] (some (vi r)) h hf := fun K _ _ _ => SX8_readRound l0 h e
theorem fl_RX8_122 : FL RX8 122 8 17 11 false := ⟨RX8, TX8, ci_8, by decide, bw_of 171 (by decide +kernel) rfl, rfl, rfl⟩
theorem fl_RX8_27 : FL RX8 27 8 17 10 true := ⟨RX8, TX8, ci_8, by decide, bw_of 170 (by decide +kernel) rfl, rfl, rfl⟩
abbrev MX8_push : MI := (RX8, cX8_push, 2, none, 2, none, "push")
noncomputable def X8_push (F : Nat)   (l0 : Nat) (l1 : Int)  (h : HP) : Option (Unit × HP) :=
  (xgI h (some l0) 8 17 11).bind fun v1 =>
  if v1 < 0 then
    some ((), h)
  else
    (xgI h (some l0) 8 17 11).bind fun v3 =>
    if 20 ≤ v3 then
      some ((), h)
    else
      (xgP h (some l0) 8 17 10).bind fun v5 =>
      (xgI h (some l0) 8 17 11).bind fun v6 =>
      (xsI h v5 v6 l1).bind fun h7 =>
      (xgI h7 (some l0) 8 17 11).bind fun v8 =>
      (xpI h7 (some l0) 8 17 11 (w32 (v8 + 1))).bind fun h9 =>
      some ((), h9)
set_option maxRecDepth 100000 in
theorem SX8_push {K : Ctx} {F : Nat} {r : Unit} {hf : HP}     (l0 : Nat) (l1 : Int)  (h : HP) (E : X8_push F   l0 l1 h = some (r, hf)) : Go K MX8_push (QM K none hf) hf 0 [(0, vr (some l0)), (1, vi l1)] [] h := by
  unfold X8_push at E
  refine go_aload_n (j := 0) (n := 1) rfl rfl dX8_push_0 rfl ?_
  replace E := Option.bind_eq_some_iff.mp E; obtain ⟨v1, ev1, E⟩ := E
  refine go_getI (n := 4) ev1 fl_RX8_122 rfl dX8_push_1 rfl ?_
  refine go_if_lt (tgt := 36) (n := 7) dX8_push_4 rfl rfl (fun c2 => ?_) (fun c2 => ?_)
  · rw [if_pos c2] at E
    cases E
    exact go_return rfl dX8_push_36
  · rw [if_neg c2] at E
    refine go_aload_n (j := 0) (n := 8) rfl rfl dX8_push_7 rfl ?_
    replace E := Option.bind_eq_some_iff.mp E; obtain ⟨v3, ev3, E⟩ := E
    refine go_getI (n := 11) ev3 fl_RX8_122 rfl dX8_push_8 rfl ?_
    refine go_bipush (z := 20) (n := 13) ⟨by decide, by decide⟩ dX8_push_11 rfl ?_
    refine go_icmp_ge (tgt := 36) (n := 16) dX8_push_13 rfl rfl (fun c4 => ?_) (fun c4 => ?_)
    · rw [if_pos c4] at E
      cases E
      exact go_return rfl dX8_push_36
    · rw [if_neg c4] at E
      refine go_aload_n (j := 0) (n := 17) rfl rfl dX8_push_16 rfl ?_
      replace E := Option.bind_eq_some_iff.mp E; obtain ⟨v5, ev5, E⟩ := E
      refine go_getP (n := 20) ev5 fl_RX8_27 rfl dX8_push_17 rfl ?_
      refine go_aload_n (j := 0) (n := 21) rfl rfl dX8_push_20 rfl ?_
      replace E := Option.bind_eq_some_iff.mp E; obtain ⟨v6, ev6, E⟩ := E
      refine go_getI (n := 24) ev6 fl_RX8_122 rfl dX8_push_21 rfl ?_
      refine go_iload_n (j := 1) (n := 25) rfl rfl dX8_push_24 rfl ?_
      replace E := Option.bind_eq_some_iff.mp E; obtain ⟨h7, eh7, E⟩ := E
      refine go_iastore (n := 26) eh7 dX8_push_25 rfl ?_
      refine go_aload_n (j := 0) (n := 27) rfl rfl dX8_push_26 rfl ?_
      refine go_dup (n := 28) rfl dX8_push_27 rfl ?_
      replace E := Option.bind_eq_some_iff.mp E; obtain ⟨v8, ev8, E⟩ := E
      refine go_getI (n := 31) ev8 fl_RX8_122 rfl dX8_push_28 rfl ?_
      refine go_iconst (z := 1) (n := 32) ⟨by decide, by decide⟩ dX8_push_31 rfl ?_
      refine go_iadd (n := 33) dX8_push_32 rfl ?_
      replace E := Option.bind_eq_some_iff.mp E; obtain ⟨h9, eh9, E⟩ := E
      refine go_putI (n := 36) eh9 fl_RX8_122 rfl dX8_push_33 rfl ?_
      cases E
      exact go_return rfl dX8_push_36
theorem OX8_push {F : Nat} {l0 : Nat} {l1 : Int} {h hf : HP} {r : Unit} (e : X8_push F l0 l1 h = some (r, hf)) : Ok MX8_push [vr (some l0), vi l1] none h hf := fun K _ _ _ => SX8_push l0 l1 h e
abbrev MX8_readCompared : MI := (RX8, cX8_readCompared, 2, (some .boolean), 5, none, "readCompared")
noncomputable def X8_readCompared_L50 (F : Nat)   (l0 : Nat)  (h : HP) : Option (Int × HP) :=
  (xrc h (some l0) 8 17).bind fun a3 =>
  xb (X8_readSum F a3 h) fun v1 h2 =>
  xz v1 h2
set_option maxRecDepth 100000 in
theorem SX8_readCompared_L50 {K : Ctx} {F : Nat} {r : Int} {hf : HP}     (l0 : Nat)  (h : HP) (E : X8_readCompared_L50 F   l0 h = some (r, hf)) : Go K MX8_readCompared (QM K (some (vi r)) hf) hf 50 [(0, vr (some l0))] [] h := by
  unfold X8_readCompared_L50 at E
  refine go_aload_n (j := 0) (n := 51) rfl rfl dX8_readCompared_50 rfl ?_
  replace E := Option.bind_eq_some_iff.mp E; obtain ⟨a3, ea3, E⟩ := E
  obtain ⟨fa3, ga3⟩ := xrc_some ea3
  replace E := xb_some E; obtain ⟨v1, h2, ev1, E⟩ := E
  refine go_callV (y := yX8_readSum) (n := 54) (st := []) (as := []) (stk9 := [vi v1]) (OX8_readSum ev1) yw_X8_readSum ci_8 ga3 wml_RX8_119 wim_X8_readSum wse_X8_readSum (Nat.le_of_ble_eq_true rfl) rfl ⟨Nat.le_of_ble_eq_true rfl, Nat.le_of_ble_eq_true rfl⟩ (Nat.le_of_ble_eq_true rfl) dX8_readCompared_51 rfl (by cases fa3; rfl) rfl ?_
  unfold xz at E
  split at E
  · next c4 =>
    cases E
    exact go_zreturn rfl c4 dX8_readCompared_54
  · cases E
noncomputable def X8_readCompared (F : Nat)   (l0 : Nat)  (h : HP) : Option (Int × HP) :=
  (xgI h (some l0) 8 17 9).bind fun v1 =>
  (xrc h (some l0) 8 17).bind fun a4 =>
  xb (X8_emit F a4 60 h) fun v2 h3 =>
  (xrc h3 (some l0) 8 17).bind fun a7 =>
  xb (X8_readSum F a7 h3) fun v5 h6 =>
  if v5 = 0 then
    some (0, h6)
  else
    (xrc h6 (some l0) 8 17).bind fun a11 =>
    xb (X8_takes F a11 62 h6) fun v9 h10 =>
    if v9 = 0 then
      (xrc h10 (some l0) 8 17).bind fun a15 =>
      xb (X8_takes F a15 60 h10) fun v13 h14 =>
      if v13 = 0 then
        some (0, h14)
      else
        X8_readCompared_L50 F l0 h14
    else
      (xrc h10 (some l0) 8 17).bind fun a19 =>
      xb (X8_amend F a19 v1 62 h10) fun v17 h18 =>
      X8_readCompared_L50 F l0 h18
set_option maxRecDepth 100000 in
theorem SX8_readCompared {K : Ctx} {F : Nat} {r : Int} {hf : HP}     (l0 : Nat)  (h : HP) (E : X8_readCompared F   l0 h = some (r, hf)) : Go K MX8_readCompared (QM K (some (vi r)) hf) hf 0 [(0, vr (some l0))] [] h := by
  unfold X8_readCompared at E
  refine go_aload_n (j := 0) (n := 1) rfl rfl dX8_readCompared_0 rfl ?_
  replace E := Option.bind_eq_some_iff.mp E; obtain ⟨v1, ev1, E⟩ := E
  refine go_getI (n := 4) ev1 fl_RX8_53 rfl dX8_readCompared_1 rfl ?_
  refine go_istore_n (n := 5) (lv' := [(1, vi v1), (0, vr (some l0))]) rfl dX8_readCompared_4 rfl (Nat.le_of_ble_eq_true rfl) rfl ?_
  refine go_aload_n (j := 1) (n := 6) rfl rfl dX8_readCompared_5 rfl ?_
  refine go_bipush (z := 60) (n := 8) ⟨by decide, by decide⟩ dX8_readCompared_6 rfl ?_
  replace E := Option.bind_eq_some_iff.mp E; obtain ⟨a4, ea4, E⟩ := E
  obtain ⟨fa4, ga4⟩ := xrc_some ea4
  replace E := xb_some E; obtain ⟨v2, h3, ev2, E⟩ := E
  refine go_callV (y := yX8_emit) (n := 11) (st := []) (as := [vi 60]) (stk9 := []) (OX8_emit ev2) yw_X8_emit ci_8 ga4 wml_RX8_110 wim_X8_emit wse_X8_emit (Nat.le_of_ble_eq_true rfl) rfl ⟨Nat.le_of_ble_eq_true rfl, Nat.le_of_ble_eq_true rfl⟩ (Nat.le_of_ble_eq_true rfl) dX8_readCompared_8 rfl (by cases fa4; rfl) rfl ?_
  refine go_aload_n (j := 1) (n := 12) rfl rfl dX8_readCompared_11 rfl ?_
  replace E := Option.bind_eq_some_iff.mp E; obtain ⟨a7, ea7, E⟩ := E
  obtain ⟨fa7, ga7⟩ := xrc_some ea7
  replace E := xb_some E; obtain ⟨v5, h6, ev5, E⟩ := E
  refine go_callV (y := yX8_readSum) (n := 15) (st := []) (as := []) (stk9 := [vi v5]) (OX8_readSum ev5) yw_X8_readSum ci_8 ga7 wml_RX8_119 wim_X8_readSum wse_X8_readSum (Nat.le_of_ble_eq_true rfl) rfl ⟨Nat.le_of_ble_eq_true rfl, Nat.le_of_ble_eq_true rfl⟩ (Nat.le_of_ble_eq_true rfl) dX8_readCompared_12 rfl (by cases fa7; rfl) rfl ?_
  refine go_if_ne (tgt := 20) (n := 18) dX8_readCompared_15 rfl rfl (fun c8 => ?_) (fun c8 => ?_)
  · rw [if_neg c8] at E
    refine go_aload_n (j := 1) (n := 21) rfl rfl dX8_readCompared_20 rfl ?_
    refine go_bipush (z := 62) (n := 23) ⟨by decide, by decide⟩ dX8_readCompared_21 rfl ?_
    replace E := Option.bind_eq_some_iff.mp E; obtain ⟨a11, ea11, E⟩ := E
    obtain ⟨fa11, ga11⟩ := xrc_some ea11
    replace E := xb_some E; obtain ⟨v9, h10, ev9, E⟩ := E
    refine go_callV (y := yX8_takes) (n := 26) (st := []) (as := [vi 62]) (stk9 := [vi v9]) (OX8_takes ev9) yw_X8_takes ci_8 ga11 wml_RX8_76 wim_X8_takes wse_X8_takes (Nat.le_of_ble_eq_true rfl) rfl ⟨Nat.le_of_ble_eq_true rfl, Nat.le_of_ble_eq_true rfl⟩ (Nat.le_of_ble_eq_true rfl) dX8_readCompared_23 rfl (by cases fa11; rfl) rfl ?_
    refine go_if_eq (tgt := 39) (n := 29) dX8_readCompared_26 rfl rfl (fun c12 => ?_) (fun c12 => ?_)
    · rw [if_pos c12] at E
      refine go_aload_n (j := 1) (n := 40) rfl rfl dX8_readCompared_39 rfl ?_
      refine go_bipush (z := 60) (n := 42) ⟨by decide, by decide⟩ dX8_readCompared_40 rfl ?_
      replace E := Option.bind_eq_some_iff.mp E; obtain ⟨a15, ea15, E⟩ := E
      obtain ⟨fa15, ga15⟩ := xrc_some ea15
      replace E := xb_some E; obtain ⟨v13, h14, ev13, E⟩ := E
      refine go_callV (y := yX8_takes) (n := 45) (st := []) (as := [vi 60]) (stk9 := [vi v13]) (OX8_takes ev13) yw_X8_takes ci_8 ga15 wml_RX8_76 wim_X8_takes wse_X8_takes (Nat.le_of_ble_eq_true rfl) rfl ⟨Nat.le_of_ble_eq_true rfl, Nat.le_of_ble_eq_true rfl⟩ (Nat.le_of_ble_eq_true rfl) dX8_readCompared_42 rfl (by cases fa15; rfl) rfl ?_
      refine go_if_ne (tgt := 50) (n := 48) dX8_readCompared_45 rfl rfl (fun c16 => ?_) (fun c16 => ?_)
      · rw [if_neg c16] at E
        refine go_pick (lv' := [(0, vr (some l0))]) [1] rfl ?_
        exact SX8_readCompared_L50     _  _ E
      · rw [if_pos c16] at E
        refine go_iconst (z := 0) (n := 49) ⟨by decide, by decide⟩ dX8_readCompared_48 rfl ?_
        cases E
        exact go_zreturn rfl (Or.inl rfl) dX8_readCompared_49
    · rw [if_neg c12] at E
      refine go_aload_n (j := 1) (n := 30) rfl rfl dX8_readCompared_29 rfl ?_
      refine go_iload_n (j := 0) (n := 31) rfl rfl dX8_readCompared_30 rfl ?_
      refine go_bipush (z := 62) (n := 33) ⟨by decide, by decide⟩ dX8_readCompared_31 rfl ?_
      replace E := Option.bind_eq_some_iff.mp E; obtain ⟨a19, ea19, E⟩ := E
      obtain ⟨fa19, ga19⟩ := xrc_some ea19
      replace E := xb_some E; obtain ⟨v17, h18, ev17, E⟩ := E
      refine go_callV (y := yX8_amend) (n := 36) (st := []) (as := [vi v1, vi 62]) (stk9 := []) (OX8_amend ev17) yw_X8_amend ci_8 ga19 wml_RX8_143 wim_X8_amend wse_X8_amend (Nat.le_of_ble_eq_true rfl) rfl ⟨Nat.le_of_ble_eq_true rfl, Nat.le_of_ble_eq_true rfl⟩ (Nat.le_of_ble_eq_true rfl) dX8_readCompared_33 rfl (by cases fa19; rfl) rfl ?_
      refine go_goto (tgt := 50) dX8_readCompared_36 rfl ?_
      refine go_pick (lv' := [(0, vr (some l0))]) [1] rfl ?_
      exact SX8_readCompared_L50     _  _ E
  · rw [if_pos c8] at E
    refine go_iconst (z := 0) (n := 19) ⟨by decide, by decide⟩ dX8_readCompared_18 rfl ?_
    cases E
    exact go_zreturn rfl (Or.inl rfl) dX8_readCompared_19
theorem OX8_readCompared {F : Nat} {l0 : Nat} {h hf : HP} {r : Int} (e : X8_readCompared F l0 h = some (r, hf)) : Ok MX8_readCompared [vr (some l0)] (some (vi r)) h hf := fun K _ _ _ => SX8_readCompared l0 h e
theorem fl_RX8_125 : FL RX8 125 8 17 12 false := ⟨RX8, TX8, ci_8, by decide, bw_of 172 (by decide +kernel) rfl, rfl, rfl⟩
abbrev MX8_dropNots : MI := (RX8, cX8_dropNots, 1, none, 3, none, "dropNots")
noncomputable def X8_dropNots_L0 (F : Nat)   (k : Nat) : Nat → HP → Option (Unit × HP) :=
  Nat.rec (motive := fun _ => Nat → HP → Option (Unit × HP)) (fun _ _ => none) (fun _ rc0 l0 h =>
    (xgI h (some l0) 8 17 11).bind fun v1 =>
    if v1 ≤ 0 then
      some ((), h)
    else
      (xgI h (some l0) 8 17 11).bind fun v3 =>
      if 20 < v3 then
        some ((), h)
      else
        (xgP h (some l0) 8 17 10).bind fun v5 =>
        (xgI h (some l0) 8 17 11).bind fun v6 =>
        (xaI h v5 100 (w32 (v6 - 1))).bind fun v7 =>
        if v7 = 268 then
          (xrc h (some l0) 8 17).bind fun a11 =>
          xb (X8_emit F a11 268 h) fun v9 h10 =>
          (xgI h10 (some l0) 8 17 11).bind fun v12 =>
          (xpI h10 (some l0) 8 17 11 (w32 (v12 - 1))).bind fun h13 =>
          (xgI h13 (some l0) 8 17 12).bind fun v14 =>
          (xpI h13 (some l0) 8 17 12 (w32 (v14 - 1))).bind fun h15 =>
          rc0 l0 h15
        else
          some ((), h)) k
theorem X8_dropNots_L0_s (F : Nat)   (k : Nat) (l0 : Nat)  (h : HP) : X8_dropNots_L0 F   (k + 1) l0 h =
    (xgI h (some l0) 8 17 11).bind fun v1 =>
    if v1 ≤ 0 then
      some ((), h)
    else
      (xgI h (some l0) 8 17 11).bind fun v3 =>
      if 20 < v3 then
        some ((), h)
      else
        (xgP h (some l0) 8 17 10).bind fun v5 =>
        (xgI h (some l0) 8 17 11).bind fun v6 =>
        (xaI h v5 100 (w32 (v6 - 1))).bind fun v7 =>
        if v7 = 268 then
          (xrc h (some l0) 8 17).bind fun a11 =>
          xb (X8_emit F a11 268 h) fun v9 h10 =>
          (xgI h10 (some l0) 8 17 11).bind fun v12 =>
          (xpI h10 (some l0) 8 17 11 (w32 (v12 - 1))).bind fun h13 =>
          (xgI h13 (some l0) 8 17 12).bind fun v14 =>
          (xpI h13 (some l0) 8 17 12 (w32 (v14 - 1))).bind fun h15 =>
          (X8_dropNots_L0 F k) l0 h15
        else
          some ((), h) := rfl
set_option maxRecDepth 100000 in
theorem SX8_dropNots_L0 {K : Ctx} {F : Nat} {r : Unit} {hf : HP}     : ∀ (k : Nat) (l0 : Nat)  (h : HP), X8_dropNots_L0 F   k l0 h = some (r, hf) → Go K MX8_dropNots (QM K none hf) hf 0 [(0, vr (some l0))] [] h := by
  intro k
  induction k with
  | zero => intro l0 h E; exact nomatch E
  | succ k hrc0 =>
    intro l0 h E
    rw [X8_dropNots_L0_s] at E
    refine go_aload_n (j := 0) (n := 1) rfl rfl dX8_dropNots_0 rfl ?_
    replace E := Option.bind_eq_some_iff.mp E; obtain ⟨v1, ev1, E⟩ := E
    refine go_getI (n := 4) ev1 fl_RX8_122 rfl dX8_dropNots_1 rfl ?_
    refine go_if_le (tgt := 63) (n := 7) dX8_dropNots_4 rfl rfl (fun c2 => ?_) (fun c2 => ?_)
    · rw [if_pos c2] at E
      cases E
      exact go_return rfl dX8_dropNots_63
    · rw [if_neg c2] at E
      refine go_aload_n (j := 0) (n := 8) rfl rfl dX8_dropNots_7 rfl ?_
      replace E := Option.bind_eq_some_iff.mp E; obtain ⟨v3, ev3, E⟩ := E
      refine go_getI (n := 11) ev3 fl_RX8_122 rfl dX8_dropNots_8 rfl ?_
      refine go_bipush (z := 20) (n := 13) ⟨by decide, by decide⟩ dX8_dropNots_11 rfl ?_
      refine go_icmp_gt (tgt := 63) (n := 16) dX8_dropNots_13 rfl rfl (fun c4 => ?_) (fun c4 => ?_)
      · rw [if_pos c4] at E
        cases E
        exact go_return rfl dX8_dropNots_63
      · rw [if_neg c4] at E
        refine go_aload_n (j := 0) (n := 17) rfl rfl dX8_dropNots_16 rfl ?_
        replace E := Option.bind_eq_some_iff.mp E; obtain ⟨v5, ev5, E⟩ := E
        refine go_getP (n := 20) ev5 fl_RX8_27 rfl dX8_dropNots_17 rfl ?_
        refine go_aload_n (j := 0) (n := 21) rfl rfl dX8_dropNots_20 rfl ?_
        replace E := Option.bind_eq_some_iff.mp E; obtain ⟨v6, ev6, E⟩ := E
        refine go_getI (n := 24) ev6 fl_RX8_122 rfl dX8_dropNots_21 rfl ?_
        refine go_iconst (z := 1) (n := 25) ⟨by decide, by decide⟩ dX8_dropNots_24 rfl ?_
        refine go_isub (n := 26) dX8_dropNots_25 rfl ?_
        replace E := Option.bind_eq_some_iff.mp E; obtain ⟨v7, ev7, E⟩ := E
        refine go_iaload (n := 27) ev7 dX8_dropNots_26 rfl ?_
        refine go_sipush (z := 268) (n := 30) ⟨by decide, by decide⟩ dX8_dropNots_27 rfl ?_
        refine go_icmp_ne (tgt := 63) (n := 33) dX8_dropNots_30 rfl rfl (fun c8 => ?_) (fun c8 => ?_)
        · rw [if_neg c8] at E
          cases E
          exact go_return rfl dX8_dropNots_63
        · rw [if_pos c8] at E
          refine go_aload_n (j := 0) (n := 34) rfl rfl dX8_dropNots_33 rfl ?_
          refine go_sipush (z := 268) (n := 37) ⟨by decide, by decide⟩ dX8_dropNots_34 rfl ?_
          replace E := Option.bind_eq_some_iff.mp E; obtain ⟨a11, ea11, E⟩ := E
          obtain ⟨fa11, ga11⟩ := xrc_some ea11
          replace E := xb_some E; obtain ⟨v9, h10, ev9, E⟩ := E
          refine go_callV (y := yX8_emit) (n := 40) (st := []) (as := [vi 268]) (stk9 := []) (OX8_emit ev9) yw_X8_emit ci_8 ga11 wml_RX8_110 wim_X8_emit wse_X8_emit (Nat.le_of_ble_eq_true rfl) rfl ⟨Nat.le_of_ble_eq_true rfl, Nat.le_of_ble_eq_true rfl⟩ (Nat.le_of_ble_eq_true rfl) dX8_dropNots_37 rfl (by cases fa11; rfl) rfl ?_
          refine go_aload_n (j := 0) (n := 41) rfl rfl dX8_dropNots_40 rfl ?_
          refine go_dup (n := 42) rfl dX8_dropNots_41 rfl ?_
          replace E := Option.bind_eq_some_iff.mp E; obtain ⟨v12, ev12, E⟩ := E
          refine go_getI (n := 45) ev12 fl_RX8_122 rfl dX8_dropNots_42 rfl ?_
          refine go_iconst (z := 1) (n := 46) ⟨by decide, by decide⟩ dX8_dropNots_45 rfl ?_
          refine go_isub (n := 47) dX8_dropNots_46 rfl ?_
          replace E := Option.bind_eq_some_iff.mp E; obtain ⟨h13, eh13, E⟩ := E
          refine go_putI (n := 50) eh13 fl_RX8_122 rfl dX8_dropNots_47 rfl ?_
          refine go_aload_n (j := 0) (n := 51) rfl rfl dX8_dropNots_50 rfl ?_
          refine go_dup (n := 52) rfl dX8_dropNots_51 rfl ?_
          replace E := Option.bind_eq_some_iff.mp E; obtain ⟨v14, ev14, E⟩ := E
          refine go_getI (n := 55) ev14 fl_RX8_125 rfl dX8_dropNots_52 rfl ?_
          refine go_iconst (z := 1) (n := 56) ⟨by decide, by decide⟩ dX8_dropNots_55 rfl ?_
          refine go_isub (n := 57) dX8_dropNots_56 rfl ?_
          replace E := Option.bind_eq_some_iff.mp E; obtain ⟨h15, eh15, E⟩ := E
          refine go_putI (n := 60) eh15 fl_RX8_125 rfl dX8_dropNots_57 rfl ?_
          refine go_goto (tgt := 0) dX8_dropNots_60 rfl ?_
          exact hrc0 _ _ E
noncomputable def X8_dropNots (F : Nat)   (l0 : Nat)  (h : HP) : Option (Unit × HP) :=
  X8_dropNots_L0 F F l0 h
set_option maxRecDepth 100000 in
theorem SX8_dropNots {K : Ctx} {F : Nat} {r : Unit} {hf : HP}     (l0 : Nat)  (h : HP) (E : X8_dropNots F   l0 h = some (r, hf)) : Go K MX8_dropNots (QM K none hf) hf 0 [(0, vr (some l0))] [] h := by
  unfold X8_dropNots at E
  exact SX8_dropNots_L0     F _ _ E
theorem OX8_dropNots {F : Nat} {l0 : Nat} {h hf : HP} {r : Unit} (e : X8_dropNots F l0 h = some (r, hf)) : Ok MX8_dropNots [vr (some l0)] none h hf := fun K _ _ _ => SX8_dropNots l0 h e
abbrev MX8_settle : MI := (RX8, cX8_settle, 2, none, 3, none, "settle")
noncomputable def X8_settle_L50 (F : Nat)   (l0 : Nat) (l1 : Int)  (h : HP) : Option (Unit × HP) :=
  if l1 = 266 then
    (xgI h (some l0) 8 17 11).bind fun v2 =>
    if v2 ≤ 0 then
      some ((), h)
    else
      (xgI h (some l0) 8 17 11).bind fun v4 =>
      if 20 < v4 then
        some ((), h)
      else
        (xgP h (some l0) 8 17 10).bind fun v6 =>
        (xgI h (some l0) 8 17 11).bind fun v7 =>
        (xaI h v6 100 (w32 (v7 - 1))).bind fun v8 =>
        if v8 = 266 then
          (xrc h (some l0) 8 17).bind fun a12 =>
          xb (X8_emit F a12 266 h) fun v10 h11 =>
          (xgI h11 (some l0) 8 17 11).bind fun v13 =>
          (xpI h11 (some l0) 8 17 11 (w32 (v13 - 1))).bind fun h14 =>
          some ((), h14)
        else
          some ((), h)
  else
    some ((), h)
set_option maxRecDepth 100000 in
theorem SX8_settle_L50 {K : Ctx} {F : Nat} {r : Unit} {hf : HP}     (l0 : Nat) (l1 : Int)  (h : HP) (E : X8_settle_L50 F   l0 l1 h = some (r, hf)) : Go K MX8_settle (QM K none hf) hf 50 [(0, vr (some l0)), (1, vi l1)] [] h := by
  unfold X8_settle_L50 at E
  refine go_iload_n (j := 1) (n := 51) rfl rfl dX8_settle_50 rfl ?_
  refine go_sipush (z := 266) (n := 54) ⟨by decide, by decide⟩ dX8_settle_51 rfl ?_
  refine go_icmp_ne (tgt := 107) (n := 57) dX8_settle_54 rfl rfl (fun c1 => ?_) (fun c1 => ?_)
  · rw [if_neg c1] at E
    cases E
    exact go_return rfl dX8_settle_107
  · rw [if_pos c1] at E
    refine go_aload_n (j := 0) (n := 58) rfl rfl dX8_settle_57 rfl ?_
    replace E := Option.bind_eq_some_iff.mp E; obtain ⟨v2, ev2, E⟩ := E
    refine go_getI (n := 61) ev2 fl_RX8_122 rfl dX8_settle_58 rfl ?_
    refine go_if_le (tgt := 107) (n := 64) dX8_settle_61 rfl rfl (fun c3 => ?_) (fun c3 => ?_)
    · rw [if_pos c3] at E
      cases E
      exact go_return rfl dX8_settle_107
    · rw [if_neg c3] at E
      refine go_aload_n (j := 0) (n := 65) rfl rfl dX8_settle_64 rfl ?_
      replace E := Option.bind_eq_some_iff.mp E; obtain ⟨v4, ev4, E⟩ := E
      refine go_getI (n := 68) ev4 fl_RX8_122 rfl dX8_settle_65 rfl ?_
      refine go_bipush (z := 20) (n := 70) ⟨by decide, by decide⟩ dX8_settle_68 rfl ?_
      refine go_icmp_gt (tgt := 107) (n := 73) dX8_settle_70 rfl rfl (fun c5 => ?_) (fun c5 => ?_)
      · rw [if_pos c5] at E
        cases E
        exact go_return rfl dX8_settle_107
      · rw [if_neg c5] at E
        refine go_aload_n (j := 0) (n := 74) rfl rfl dX8_settle_73 rfl ?_
        replace E := Option.bind_eq_some_iff.mp E; obtain ⟨v6, ev6, E⟩ := E
        refine go_getP (n := 77) ev6 fl_RX8_27 rfl dX8_settle_74 rfl ?_
        refine go_aload_n (j := 0) (n := 78) rfl rfl dX8_settle_77 rfl ?_
        replace E := Option.bind_eq_some_iff.mp E; obtain ⟨v7, ev7, E⟩ := E
        refine go_getI (n := 81) ev7 fl_RX8_122 rfl dX8_settle_78 rfl ?_
        refine go_iconst (z := 1) (n := 82) ⟨by decide, by decide⟩ dX8_settle_81 rfl ?_
        refine go_isub (n := 83) dX8_settle_82 rfl ?_
        replace E := Option.bind_eq_some_iff.mp E; obtain ⟨v8, ev8, E⟩ := E
        refine go_iaload (n := 84) ev8 dX8_settle_83 rfl ?_
        refine go_sipush (z := 266) (n := 87) ⟨by decide, by decide⟩ dX8_settle_84 rfl ?_
        refine go_icmp_ne (tgt := 107) (n := 90) dX8_settle_87 rfl rfl (fun c9 => ?_) (fun c9 => ?_)
        · rw [if_neg c9] at E
          cases E
          exact go_return rfl dX8_settle_107
        · rw [if_pos c9] at E
          refine go_aload_n (j := 0) (n := 91) rfl rfl dX8_settle_90 rfl ?_
          refine go_sipush (z := 266) (n := 94) ⟨by decide, by decide⟩ dX8_settle_91 rfl ?_
          replace E := Option.bind_eq_some_iff.mp E; obtain ⟨a12, ea12, E⟩ := E
          obtain ⟨fa12, ga12⟩ := xrc_some ea12
          replace E := xb_some E; obtain ⟨v10, h11, ev10, E⟩ := E
          refine go_callV (y := yX8_emit) (n := 97) (st := []) (as := [vi 266]) (stk9 := []) (OX8_emit ev10) yw_X8_emit ci_8 ga12 wml_RX8_110 wim_X8_emit wse_X8_emit (Nat.le_of_ble_eq_true rfl) rfl ⟨Nat.le_of_ble_eq_true rfl, Nat.le_of_ble_eq_true rfl⟩ (Nat.le_of_ble_eq_true rfl) dX8_settle_94 rfl (by cases fa12; rfl) rfl ?_
          refine go_aload_n (j := 0) (n := 98) rfl rfl dX8_settle_97 rfl ?_
          refine go_dup (n := 99) rfl dX8_settle_98 rfl ?_
          replace E := Option.bind_eq_some_iff.mp E; obtain ⟨v13, ev13, E⟩ := E
          refine go_getI (n := 102) ev13 fl_RX8_122 rfl dX8_settle_99 rfl ?_
          refine go_iconst (z := 1) (n := 103) ⟨by decide, by decide⟩ dX8_settle_102 rfl ?_
          refine go_isub (n := 104) dX8_settle_103 rfl ?_
          replace E := Option.bind_eq_some_iff.mp E; obtain ⟨h14, eh14, E⟩ := E
          refine go_putI (n := 107) eh14 fl_RX8_122 rfl dX8_settle_104 rfl ?_
          cases E
          exact go_return rfl dX8_settle_107
noncomputable def X8_settle (F : Nat)   (l0 : Nat) (l1 : Int)  (h : HP) : Option (Unit × HP) :=
  (xgI h (some l0) 8 17 11).bind fun v1 =>
  if v1 ≤ 0 then
    X8_settle_L50 F l0 l1 h
  else
    (xgI h (some l0) 8 17 11).bind fun v3 =>
    if 20 < v3 then
      X8_settle_L50 F l0 l1 h
    else
      (xgP h (some l0) 8 17 10).bind fun v5 =>
      (xgI h (some l0) 8 17 11).bind fun v6 =>
      (xaI h v5 100 (w32 (v6 - 1))).bind fun v7 =>
      if v7 = 267 then
        (xrc h (some l0) 8 17).bind fun a11 =>
        xb (X8_emit F a11 267 h) fun v9 h10 =>
        (xgI h10 (some l0) 8 17 11).bind fun v12 =>
        (xpI h10 (some l0) 8 17 11 (w32 (v12 - 1))).bind fun h13 =>
        X8_settle_L50 F l0 l1 h13
      else
        X8_settle_L50 F l0 l1 h
set_option maxRecDepth 100000 in
theorem SX8_settle {K : Ctx} {F : Nat} {r : Unit} {hf : HP}     (l0 : Nat) (l1 : Int)  (h : HP) (E : X8_settle F   l0 l1 h = some (r, hf)) : Go K MX8_settle (QM K none hf) hf 0 [(0, vr (some l0)), (1, vi l1)] [] h := by
  unfold X8_settle at E
  refine go_aload_n (j := 0) (n := 1) rfl rfl dX8_settle_0 rfl ?_
  replace E := Option.bind_eq_some_iff.mp E; obtain ⟨v1, ev1, E⟩ := E
  refine go_getI (n := 4) ev1 fl_RX8_122 rfl dX8_settle_1 rfl ?_
  refine go_if_le (tgt := 50) (n := 7) dX8_settle_4 rfl rfl (fun c2 => ?_) (fun c2 => ?_)
  · rw [if_pos c2] at E
    exact SX8_settle_L50     _ _  _ E
  · rw [if_neg c2] at E
    refine go_aload_n (j := 0) (n := 8) rfl rfl dX8_settle_7 rfl ?_
    replace E := Option.bind_eq_some_iff.mp E; obtain ⟨v3, ev3, E⟩ := E
    refine go_getI (n := 11) ev3 fl_RX8_122 rfl dX8_settle_8 rfl ?_
    refine go_bipush (z := 20) (n := 13) ⟨by decide, by decide⟩ dX8_settle_11 rfl ?_
    refine go_icmp_gt (tgt := 50) (n := 16) dX8_settle_13 rfl rfl (fun c4 => ?_) (fun c4 => ?_)
    · rw [if_pos c4] at E
      exact SX8_settle_L50     _ _  _ E
    · rw [if_neg c4] at E
      refine go_aload_n (j := 0) (n := 17) rfl rfl dX8_settle_16 rfl ?_
      replace E := Option.bind_eq_some_iff.mp E; obtain ⟨v5, ev5, E⟩ := E
      refine go_getP (n := 20) ev5 fl_RX8_27 rfl dX8_settle_17 rfl ?_
      refine go_aload_n (j := 0) (n := 21) rfl rfl dX8_settle_20 rfl ?_
      replace E := Option.bind_eq_some_iff.mp E; obtain ⟨v6, ev6, E⟩ := E
      refine go_getI (n := 24) ev6 fl_RX8_122 rfl dX8_settle_21 rfl ?_
      refine go_iconst (z := 1) (n := 25) ⟨by decide, by decide⟩ dX8_settle_24 rfl ?_
      refine go_isub (n := 26) dX8_settle_25 rfl ?_
      replace E := Option.bind_eq_some_iff.mp E; obtain ⟨v7, ev7, E⟩ := E
      refine go_iaload (n := 27) ev7 dX8_settle_26 rfl ?_
      refine go_sipush (z := 267) (n := 30) ⟨by decide, by decide⟩ dX8_settle_27 rfl ?_
      refine go_icmp_ne (tgt := 50) (n := 33) dX8_settle_30 rfl rfl (fun c8 => ?_) (fun c8 => ?_)
      · rw [if_neg c8] at E
        exact SX8_settle_L50     _ _  _ E
      · rw [if_pos c8] at E
        refine go_aload_n (j := 0) (n := 34) rfl rfl dX8_settle_33 rfl ?_
        refine go_sipush (z := 267) (n := 37) ⟨by decide, by decide⟩ dX8_settle_34 rfl ?_
        replace E := Option.bind_eq_some_iff.mp E; obtain ⟨a11, ea11, E⟩ := E
        obtain ⟨fa11, ga11⟩ := xrc_some ea11
        replace E := xb_some E; obtain ⟨v9, h10, ev9, E⟩ := E
        refine go_callV (y := yX8_emit) (n := 40) (st := []) (as := [vi 267]) (stk9 := []) (OX8_emit ev9) yw_X8_emit ci_8 ga11 wml_RX8_110 wim_X8_emit wse_X8_emit (Nat.le_of_ble_eq_true rfl) rfl ⟨Nat.le_of_ble_eq_true rfl, Nat.le_of_ble_eq_true rfl⟩ (Nat.le_of_ble_eq_true rfl) dX8_settle_37 rfl (by cases fa11; rfl) rfl ?_
        refine go_aload_n (j := 0) (n := 41) rfl rfl dX8_settle_40 rfl ?_
        refine go_dup (n := 42) rfl dX8_settle_41 rfl ?_
        replace E := Option.bind_eq_some_iff.mp E; obtain ⟨v12, ev12, E⟩ := E
        refine go_getI (n := 45) ev12 fl_RX8_122 rfl dX8_settle_42 rfl ?_
        refine go_iconst (z := 1) (n := 46) ⟨by decide, by decide⟩ dX8_settle_45 rfl ?_
        refine go_isub (n := 47) dX8_settle_46 rfl ?_
        replace E := Option.bind_eq_some_iff.mp E; obtain ⟨h13, eh13, E⟩ := E
        refine go_putI (n := 50) eh13 fl_RX8_122 rfl dX8_settle_47 rfl ?_
        exact SX8_settle_L50     _ _  _ E
theorem OX8_settle {F : Nat} {l0 : Nat} {l1 : Int} {h hf : HP} {r : Unit} (e : X8_settle F l0 l1 h = some (r, hf)) : Ok MX8_settle [vr (some l0), vi l1] none h hf := fun K _ _ _ => SX8_settle l0 l1 h e
theorem yw_X8_dropNots : YW yX8_dropNots cX8_dropNots 1 none 0 := ⟨bw_of 1223 (by decide +kernel) rfl, bw_of 118 (by decide +kernel) rfl, ⟨by decide +kernel, by decide +kernel, by decide +kernel⟩, by decide +kernel⟩
theorem wml_RX8_140 : Cond.methodLink RX8 140 yX8_dropNots ∈ BW := bw_of 1220 (by decide +kernel) rfl
theorem wim_X8_dropNots : Cond.instanceMethod yX8_dropNots ∈ BW := bw_of 1222 (by decide +kernel) rfl
theorem wse_X8_dropNots : Cond.selects RX8 yX8_dropNots yX8_dropNots ∈ BW := bw_of 32 (by decide +kernel) rfl
theorem yw_X8_settle : YW yX8_settle cX8_settle 2 none 1 := ⟨bw_of 1227 (by decide +kernel) rfl, bw_of 118 (by decide +kernel) rfl, ⟨by decide +kernel, by decide +kernel, by decide +kernel⟩, by decide +kernel⟩
theorem wml_RX8_137 : Cond.methodLink RX8 137 yX8_settle ∈ BW := bw_of 1224 (by decide +kernel) rfl
theorem wim_X8_settle : Cond.instanceMethod yX8_settle ∈ BW := bw_of 1226 (by decide +kernel) rfl
theorem wse_X8_settle : Cond.selects RX8 yX8_settle yX8_settle ∈ BW := bw_of 33 (by decide +kernel) rfl
abbrev MX8_closeWhatEnds : MI := (RX8, cX8_closeWhatEnds, 2, none, 4, none, "closeWhatEnds")
noncomputable def X8_closeWhatEnds_L6 (F : Nat)   (k : Nat) : Nat → Int → HP → Option (Unit × HP) :=
  Nat.rec (motive := fun _ => Nat → Int → HP → Option (Unit × HP)) (fun _ _ _ => none) (fun _ rc6 l0 l1 h =>
    if 6 ≤ l1 then
      some ((), h)
    else
      (xgI h (some l0) 8 17 12).bind fun v2 =>
      if v2 ≤ 0 then
        some ((), h)
      else
        (xrc h (some l0) 8 17).bind fun a6 =>
        xb (X8_takes F a6 41 h) fun v4 h5 =>
        if v4 = 0 then
          some ((), h5)
        else
          (xrc h5 (some l0) 8 17).bind fun a10 =>
          xb (X8_settle F a10 266 h5) fun v8 h9 =>
          (xgI h9 (some l0) 8 17 11).bind fun v11 =>
          (xpI h9 (some l0) 8 17 11 (max 0 (w32 (v11 - 1)))).bind fun h12 =>
          (xgI h12 (some l0) 8 17 12).bind fun v13 =>
          (xpI h12 (some l0) 8 17 12 (w32 (v13 - 1))).bind fun h14 =>
          (xrc h14 (some l0) 8 17).bind fun a17 =>
          xb (X8_dropNots F a17 h14) fun v15 h16 =>
          rc6 l0 (w32 (l1 + 1)) h16) k
theorem X8_closeWhatEnds_L6_s (F : Nat)   (k : Nat) (l0 : Nat) (l1 : Int)  (h : HP) : X8_closeWhatEnds_L6 F   (k + 1) l0 l1 h =
    if 6 ≤ l1 then
      some ((), h)
    else
      (xgI h (some l0) 8 17 12).bind fun v2 =>
      if v2 ≤ 0 then
        some ((), h)
      else
        (xrc h (some l0) 8 17).bind fun a6 =>
        xb (X8_takes F a6 41 h) fun v4 h5 =>
        if v4 = 0 then
          some ((), h5)
        else
          (xrc h5 (some l0) 8 17).bind fun a10 =>
          xb (X8_settle F a10 266 h5) fun v8 h9 =>
          (xgI h9 (some l0) 8 17 11).bind fun v11 =>
          (xpI h9 (some l0) 8 17 11 (max 0 (w32 (v11 - 1)))).bind fun h12 =>
          (xgI h12 (some l0) 8 17 12).bind fun v13 =>
          (xpI h12 (some l0) 8 17 12 (w32 (v13 - 1))).bind fun h14 =>
          (xrc h14 (some l0) 8 17).bind fun a17 =>
          xb (X8_dropNots F a17 h14) fun v15 h16 =>
          (X8_closeWhatEnds_L6 F k) l0 (w32 (l1 + 1)) h16 := rfl
set_option maxRecDepth 100000 in
theorem SX8_closeWhatEnds_L6 {K : Ctx} {F : Nat} {r : Unit} {hf : HP}     : ∀ (k : Nat) (l0 : Nat) (l1 : Int)  (h : HP), X8_closeWhatEnds_L6 F   k l0 l1 h = some (r, hf) → Go K MX8_closeWhatEnds (QM K none hf) hf 6 [(0, vr (some l0)), (1, vi l1)] [] h := by
  intro k
  induction k with
  | zero => intro l0 l1 h E; exact nomatch E
  | succ k hrc6 =>
    intro l0 l1 h E
    rw [X8_closeWhatEnds_L6_s] at E
    refine go_iload_n (j := 1) (n := 7) rfl rfl dX8_closeWhatEnds_6 rfl ?_
    refine go_bipush (z := 6) (n := 9) ⟨by decide, by decide⟩ dX8_closeWhatEnds_7 rfl ?_
    refine go_icmp_ge (tgt := 69) (n := 12) dX8_closeWhatEnds_9 rfl rfl (fun c1 => ?_) (fun c1 => ?_)
    · rw [if_pos c1] at E
      cases E
      exact go_return rfl dX8_closeWhatEnds_69
    · rw [if_neg c1] at E
      refine go_aload_n (j := 0) (n := 13) rfl rfl dX8_closeWhatEnds_12 rfl ?_
      replace E := Option.bind_eq_some_iff.mp E; obtain ⟨v2, ev2, E⟩ := E
      refine go_getI (n := 16) ev2 fl_RX8_125 rfl dX8_closeWhatEnds_13 rfl ?_
      refine go_if_le (tgt := 69) (n := 19) dX8_closeWhatEnds_16 rfl rfl (fun c3 => ?_) (fun c3 => ?_)
      · rw [if_pos c3] at E
        cases E
        exact go_return rfl dX8_closeWhatEnds_69
      · rw [if_neg c3] at E
        refine go_aload_n (j := 0) (n := 20) rfl rfl dX8_closeWhatEnds_19 rfl ?_
        refine go_bipush (z := 41) (n := 22) ⟨by decide, by decide⟩ dX8_closeWhatEnds_20 rfl ?_
        replace E := Option.bind_eq_some_iff.mp E; obtain ⟨a6, ea6, E⟩ := E
        obtain ⟨fa6, ga6⟩ := xrc_some ea6
        replace E := xb_some E; obtain ⟨v4, h5, ev4, E⟩ := E
        refine go_callV (y := yX8_takes) (n := 25) (st := []) (as := [vi 41]) (stk9 := [vi v4]) (OX8_takes ev4) yw_X8_takes ci_8 ga6 wml_RX8_76 wim_X8_takes wse_X8_takes (Nat.le_of_ble_eq_true rfl) rfl ⟨Nat.le_of_ble_eq_true rfl, Nat.le_of_ble_eq_true rfl⟩ (Nat.le_of_ble_eq_true rfl) dX8_closeWhatEnds_22 rfl (by cases fa6; rfl) rfl ?_
        refine go_if_eq (tgt := 69) (n := 28) dX8_closeWhatEnds_25 rfl rfl (fun c7 => ?_) (fun c7 => ?_)
        · rw [if_pos c7] at E
          cases E
          exact go_return rfl dX8_closeWhatEnds_69
        · rw [if_neg c7] at E
          refine go_aload_n (j := 0) (n := 29) rfl rfl dX8_closeWhatEnds_28 rfl ?_
          refine go_sipush (z := 266) (n := 32) ⟨by decide, by decide⟩ dX8_closeWhatEnds_29 rfl ?_
          replace E := Option.bind_eq_some_iff.mp E; obtain ⟨a10, ea10, E⟩ := E
          obtain ⟨fa10, ga10⟩ := xrc_some ea10
          replace E := xb_some E; obtain ⟨v8, h9, ev8, E⟩ := E
          refine go_callV (y := yX8_settle) (n := 35) (st := []) (as := [vi 266]) (stk9 := []) (OX8_settle ev8) yw_X8_settle ci_8 ga10 wml_RX8_137 wim_X8_settle wse_X8_settle (Nat.le_of_ble_eq_true rfl) rfl ⟨Nat.le_of_ble_eq_true rfl, Nat.le_of_ble_eq_true rfl⟩ (Nat.le_of_ble_eq_true rfl) dX8_closeWhatEnds_32 rfl (by cases fa10; rfl) rfl ?_
          refine go_aload_n (j := 0) (n := 36) rfl rfl dX8_closeWhatEnds_35 rfl ?_
          refine go_iconst (z := 0) (n := 37) ⟨by decide, by decide⟩ dX8_closeWhatEnds_36 rfl ?_
          refine go_aload_n (j := 0) (n := 38) rfl rfl dX8_closeWhatEnds_37 rfl ?_
          replace E := Option.bind_eq_some_iff.mp E; obtain ⟨v11, ev11, E⟩ := E
          refine go_getI (n := 41) ev11 fl_RX8_122 rfl dX8_closeWhatEnds_38 rfl ?_
          refine go_iconst (z := 1) (n := 42) ⟨by decide, by decide⟩ dX8_closeWhatEnds_41 rfl ?_
          refine go_isub (n := 43) dX8_closeWhatEnds_42 rfl ?_
          refine go_mmax (n := 46) wml_RX8_43 jm_max_i (Nat.le_of_ble_eq_true rfl) (Nat.le_of_ble_eq_true rfl) dX8_closeWhatEnds_43 rfl ?_
          replace E := Option.bind_eq_some_iff.mp E; obtain ⟨h12, eh12, E⟩ := E
          refine go_putI (n := 49) eh12 fl_RX8_122 rfl dX8_closeWhatEnds_46 rfl ?_
          refine go_aload_n (j := 0) (n := 50) rfl rfl dX8_closeWhatEnds_49 rfl ?_
          refine go_dup (n := 51) rfl dX8_closeWhatEnds_50 rfl ?_
          replace E := Option.bind_eq_some_iff.mp E; obtain ⟨v13, ev13, E⟩ := E
          refine go_getI (n := 54) ev13 fl_RX8_125 rfl dX8_closeWhatEnds_51 rfl ?_
          refine go_iconst (z := 1) (n := 55) ⟨by decide, by decide⟩ dX8_closeWhatEnds_54 rfl ?_
          refine go_isub (n := 56) dX8_closeWhatEnds_55 rfl ?_
          replace E := Option.bind_eq_some_iff.mp E; obtain ⟨h14, eh14, E⟩ := E
          refine go_putI (n := 59) eh14 fl_RX8_125 rfl dX8_closeWhatEnds_56 rfl ?_
          refine go_aload_n (j := 0) (n := 60) rfl rfl dX8_closeWhatEnds_59 rfl ?_
          replace E := Option.bind_eq_some_iff.mp E; obtain ⟨a17, ea17, E⟩ := E
          obtain ⟨fa17, ga17⟩ := xrc_some ea17
          replace E := xb_some E; obtain ⟨v15, h16, ev15, E⟩ := E
          refine go_callV (y := yX8_dropNots) (n := 63) (st := []) (as := []) (stk9 := []) (OX8_dropNots ev15) yw_X8_dropNots ci_8 ga17 wml_RX8_140 wim_X8_dropNots wse_X8_dropNots (Nat.le_of_ble_eq_true rfl) rfl ⟨Nat.le_of_ble_eq_true rfl, Nat.le_of_ble_eq_true rfl⟩ (Nat.le_of_ble_eq_true rfl) dX8_closeWhatEnds_60 rfl (by cases fa17; rfl) rfl ?_
          refine go_iinc (j := 1) (n := 66) (lv' := [(1, vi (w32 (l1 + 1))), (0, vr (some l0))]) rfl dX8_closeWhatEnds_63 rfl (Nat.le_of_ble_eq_true rfl) rfl ?_
          refine go_goto (tgt := 6) dX8_closeWhatEnds_66 rfl ?_
          refine go_pick (lv' := [(0, vr (some l0)), (1, vi (w32 (l1 + 1)))]) [1, 0] rfl ?_
          exact hrc6 _ _ _ E
noncomputable def X8_closeWhatEnds (F : Nat)   (l0 : Nat)  (h : HP) : Option (Unit × HP) :=
  (xrc h (some l0) 8 17).bind fun a3 =>
  xb (X8_dropNots F a3 h) fun v1 h2 =>
  X8_closeWhatEnds_L6 F F l0 0 h2
set_option maxRecDepth 100000 in
theorem SX8_closeWhatEnds {K : Ctx} {F : Nat} {r : Unit} {hf : HP}     (l0 : Nat)  (h : HP) (E : X8_closeWhatEnds F   l0 h = some (r, hf)) : Go K MX8_closeWhatEnds (QM K none hf) hf 0 [(0, vr (some l0))] [] h := by
  unfold X8_closeWhatEnds at E
  refine go_aload_n (j := 0) (n := 1) rfl rfl dX8_closeWhatEnds_0 rfl ?_
  replace E := Option.bind_eq_some_iff.mp E; obtain ⟨a3, ea3, E⟩ := E
  obtain ⟨fa3, ga3⟩ := xrc_some ea3
  replace E := xb_some E; obtain ⟨v1, h2, ev1, E⟩ := E
  refine go_callV (y := yX8_dropNots) (n := 4) (st := []) (as := []) (stk9 := []) (OX8_dropNots ev1) yw_X8_dropNots ci_8 ga3 wml_RX8_140 wim_X8_dropNots wse_X8_dropNots (Nat.le_of_ble_eq_true rfl) rfl ⟨Nat.le_of_ble_eq_true rfl, Nat.le_of_ble_eq_true rfl⟩ (Nat.le_of_ble_eq_true rfl) dX8_closeWhatEnds_1 rfl (by cases fa3; rfl) rfl ?_
  refine go_iconst (z := 0) (n := 5) ⟨by decide, by decide⟩ dX8_closeWhatEnds_4 rfl ?_
  refine go_istore_n (n := 6) (lv' := [(1, vi 0), (0, vr (some l0))]) rfl dX8_closeWhatEnds_5 rfl (Nat.le_of_ble_eq_true rfl) rfl ?_
  refine go_pick (lv' := [(0, vr (some l0)), (1, vi 0)]) [1, 0] rfl ?_
  exact SX8_closeWhatEnds_L6     F _ _ _ E
theorem OX8_closeWhatEnds {F : Nat} {l0 : Nat} {h hf : HP} {r : Unit} (e : X8_closeWhatEnds F l0 h = some (r, hf)) : Ok MX8_closeWhatEnds [vr (some l0)] none h hf := fun K _ _ _ => SX8_closeWhatEnds l0 h e
