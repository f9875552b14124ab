/-! the methods, decompiled: written by dec.py -/
abbrev MX12_out : MI := (RX12, cX12_out, 4, (some .int), 4, none, "out")
noncomputable def X12_out_L137 (F : Nat)   (l0 : Nat)  (h : HP) : Option (Int × HP) :=
  (xgP h (some l0) 12 31 1).bind fun v1 =>
  (xaI h v1 100 3).bind fun v2 =>
  some (v2, h)
set_option maxRecDepth 100000 in
theorem SX12_out_L137 {K : Ctx} {F : Nat} {r : Int} {hf : HP}     (l0 : Nat)  (h : HP) (E : X12_out_L137 F   l0 h = some (r, hf)) : Go K MX12_out (QM K (some (vi r)) hf) hf 137 [(0, vr (some l0))] [] h := by
  unfold X12_out_L137 at E
  refine go_aload_n (j := 0) (n := 138) rfl rfl dX12_out_137 rfl ?_
  replace E := Option.bind_eq_some_iff.mp E; obtain ⟨v1, ev1, E⟩ := E
  refine go_getP (n := 141) ev1 fl_RX12_14 rfl dX12_out_138 rfl ?_
  refine go_iconst (z := 3) (n := 142) ⟨by decide, by decide⟩ dX12_out_141 rfl ?_
  replace E := Option.bind_eq_some_iff.mp E; obtain ⟨v2, ev2, E⟩ := E
  refine go_iaload (n := 143) ev2 dX12_out_142 rfl ?_
  cases E
  exact go_ireturn rfl dX12_out_143
noncomputable def X12_out_L133 (F : Nat)   (l0 : Nat) (s0 : Int) (s1 : Int) (s2 : Int) (s3 : Int) (s4 : Option Nat) (h : HP) : Option (Int × HP) :=
  (xrc h s4 12 31).bind fun a3 =>
  xb (X12_sets F a3 s3 s2 (w32 (s1 - s0)) h) fun v1 h2 =>
  X12_out_L137 F l0 h2
set_option maxRecDepth 100000 in
theorem SX12_out_L133 {K : Ctx} {F : Nat} {r : Int} {hf : HP}     (l0 : Nat) (s0 : Int) (s1 : Int) (s2 : Int) (s3 : Int) (s4 : Option Nat) (h : HP) (E : X12_out_L133 F   l0 s0 s1 s2 s3 s4 h = some (r, hf)) : Go K MX12_out (QM K (some (vi r)) hf) hf 133 [(0, vr (some l0))] [vi s0, vi s1, vi s2, vi s3, vr s4] h := by
  unfold X12_out_L133 at E
  refine go_isub (n := 134) dX12_out_133 rfl ?_
  replace E := Option.bind_eq_some_iff.mp E; obtain ⟨a3, ea3, E⟩ := E
  obtain ⟨fa3, ga3⟩ := xrc_some ea3
  replace E := xb_some E; obtain ⟨v1, h2, ev1, E⟩ := E
  refine go_callV (y := yX12_sets) (n := 137) (st := []) (as := [vi s3, vi s2, vi (w32 (s1 - s0))]) (stk9 := []) (OX12_sets ev1) yw_X12_sets ci_12 ga3 wml_RX12_243 wim_X12_sets wse_X12_sets (Nat.le_of_ble_eq_true rfl) rfl ⟨Nat.le_of_ble_eq_true rfl, Nat.le_of_ble_eq_true rfl⟩ (Nat.le_of_ble_eq_true rfl) dX12_out_134 rfl (by cases fa3; rfl) rfl ?_
  exact SX12_out_L137     _  _ E
noncomputable def X12_out_L48 (F : Nat)   (l0 : Nat) (l1 : Int) (s0 : Int) (s1 : Option Nat) (h : HP) : Option (Int × HP) :=
  (xrc h s1 12 31).bind fun a3 =>
  xb (X12_throwsIf F a3 s0 2 h) fun v1 h2 =>
  if v1 = 0 then
    (xgP h2 (some l0) 12 31 1).bind fun v5 =>
    (xaI h2 v5 100 3).bind fun v6 =>
    (xsI h2 v5 3 (w32 (v6 + l1))).bind fun h7 =>
    (xgP h7 (some l0) 12 31 1).bind fun v8 =>
    (xaI h7 v8 100 4).bind fun v9 =>
    if v9 < 0 then
      X12_out_L137 F l0 h7
    else
      (xrc h7 (some l0) 12 31).bind fun a13 =>
      xb (X12_its F a13 v9 21 h7) fun v11 h12 =>
      (xrc h12 (some l0) 12 31).bind fun a16 =>
      xb (X12_its F a16 v9 9 h12) fun v14 h15 =>
      (xrc h15 (some l0) 12 31).bind fun a19 =>
      xb (X12_its F a19 v9 21 h15) fun v17 h18 =>
      (xrc h18 (some l0) 12 31).bind fun a22 =>
      xb (X12_its F a22 v9 3 h18) fun v20 h21 =>
      if v20 = 0 then
        X12_out_L133 F l0 0 v17 9 v9 (some l0) h21
      else
        (xrc h21 (some l0) 12 31).bind fun a26 =>
        xb (X12_its F a26 v9 3 h21) fun v24 h25 =>
        (xd v24).bind fun u27 =>
        (xrc h25 (some l0) 12 31).bind fun a30 =>
        xb (X12_its F a30 v9 3 h25) fun v28 h29 =>
        X12_out_L133 F l0 (w32 ((w32 ((w32 (v11 - v14)).tdiv v24)) * v28)) v17 9 v9 (some l0) h29
  else
    some (0, h2)
set_option maxRecDepth 100000 in
theorem SX12_out_L48 {K : Ctx} {F : Nat} {r : Int} {hf : HP}     (l0 : Nat) (l1 : Int) (s0 : Int) (s1 : Option Nat) (h : HP) (E : X12_out_L48 F   l0 l1 s0 s1 h = some (r, hf)) : Go K MX12_out (QM K (some (vi r)) hf) hf 48 [(0, vr (some l0)), (1, vi l1)] [vi s0, vr s1] h := by
  unfold X12_out_L48 at E
  refine go_iconst (z := 2) (n := 49) ⟨by decide, by decide⟩ dX12_out_48 rfl ?_
  replace E := Option.bind_eq_some_iff.mp E; obtain ⟨a3, ea3, E⟩ := E
  obtain ⟨fa3, ga3⟩ := xrc_some ea3
  replace E := xb_some E; obtain ⟨v1, h2, ev1, E⟩ := E
  refine go_callV (y := yX12_throwsIf) (n := 52) (st := []) (as := [vi s0, vi 2]) (stk9 := [vi v1]) (OX12_throwsIf ev1) yw_X12_throwsIf ci_12 ga3 wml_RX12_65 wim_X12_throwsIf wse_X12_throwsIf (Nat.le_of_ble_eq_true rfl) rfl ⟨Nat.le_of_ble_eq_true rfl, Nat.le_of_ble_eq_true rfl⟩ (Nat.le_of_ble_eq_true rfl) dX12_out_49 rfl (by cases fa3; rfl) rfl ?_
  refine go_if_eq (tgt := 57) (n := 55) dX12_out_52 rfl rfl (fun c4 => ?_) (fun c4 => ?_)
  · rw [if_pos c4] at E
    refine go_aload_n (j := 0) (n := 58) rfl rfl dX12_out_57 rfl ?_
    replace E := Option.bind_eq_some_iff.mp E; obtain ⟨v5, ev5, E⟩ := E
    refine go_getP (n := 61) ev5 fl_RX12_14 rfl dX12_out_58 rfl ?_
    refine go_iconst (z := 3) (n := 62) ⟨by decide, by decide⟩ dX12_out_61 rfl ?_
    refine go_dup2 (n := 63) rfl rfl dX12_out_62 rfl ?_
    replace E := Option.bind_eq_some_iff.mp E; obtain ⟨v6, ev6, E⟩ := E
    refine go_iaload (n := 64) ev6 dX12_out_63 rfl ?_
    refine go_iload_n (j := 1) (n := 65) rfl rfl dX12_out_64 rfl ?_
    refine go_iadd (n := 66) dX12_out_65 rfl ?_
    replace E := Option.bind_eq_some_iff.mp E; obtain ⟨h7, eh7, E⟩ := E
    refine go_iastore (n := 67) eh7 dX12_out_66 rfl ?_
    refine go_aload_n (j := 0) (n := 68) rfl rfl dX12_out_67 rfl ?_
    replace E := Option.bind_eq_some_iff.mp E; obtain ⟨v8, ev8, E⟩ := E
    refine go_getP (n := 71) ev8 fl_RX12_14 rfl dX12_out_68 rfl ?_
    refine go_iconst (z := 4) (n := 72) ⟨by decide, by decide⟩ dX12_out_71 rfl ?_
    replace E := Option.bind_eq_some_iff.mp E; obtain ⟨v9, ev9, E⟩ := E
    refine go_iaload (n := 73) ev9 dX12_out_72 rfl ?_
    refine go_istore_n (n := 74) (lv' := [(2, vi v9), (0, vr (some l0)), (1, vi l1)]) rfl dX12_out_73 rfl (Nat.le_of_ble_eq_true rfl) rfl ?_
    refine go_iload_n (j := 0) (n := 75) rfl rfl dX12_out_74 rfl ?_
    refine go_if_lt (tgt := 137) (n := 78) dX12_out_75 rfl rfl (fun c10 => ?_) (fun c10 => ?_)
    · rw [if_pos c10] at E
      refine go_pick (lv' := [(0, vr (some l0))]) [1] rfl ?_
      exact SX12_out_L137     _  _ E
    · rw [if_neg c10] at E
      refine go_aload_n (j := 1) (n := 79) rfl rfl dX12_out_78 rfl ?_
      refine go_iload_n (j := 0) (n := 80) rfl rfl dX12_out_79 rfl ?_
      refine go_bipush (z := 21) (n := 82) ⟨by decide, by decide⟩ dX12_out_80 rfl ?_
      replace E := Option.bind_eq_some_iff.mp E; obtain ⟨a13, ea13, E⟩ := E
      obtain ⟨fa13, ga13⟩ := xrc_some ea13
      replace E := xb_some E; obtain ⟨v11, h12, ev11, E⟩ := E
      refine go_callV (y := yX12_its) (n := 85) (st := []) (as := [vi v9, vi 21]) (stk9 := [vi v11]) (OX12_its ev11) yw_X12_its ci_12 ga13 wml_RX12_250 wim_X12_its wse_X12_its (Nat.le_of_ble_eq_true rfl) rfl ⟨Nat.le_of_ble_eq_true rfl, Nat.le_of_ble_eq_true rfl⟩ (Nat.le_of_ble_eq_true rfl) dX12_out_82 rfl (by cases fa13; rfl) rfl ?_
      refine go_aload_n (j := 1) (n := 86) rfl rfl dX12_out_85 rfl ?_
      refine go_iload_n (j := 0) (n := 87) rfl rfl dX12_out_86 rfl ?_
      refine go_bipush (z := 9) (n := 89) ⟨by decide, by decide⟩ dX12_out_87 rfl ?_
      replace E := Option.bind_eq_some_iff.mp E; obtain ⟨a16, ea16, E⟩ := E
      obtain ⟨fa16, ga16⟩ := xrc_some ea16
      replace E := xb_some E; obtain ⟨v14, h15, ev14, E⟩ := E
      refine go_callV (y := yX12_its) (n := 92) (st := [vi v11]) (as := [vi v9, vi 9]) (stk9 := [vi v14, vi v11]) (OX12_its ev14) yw_X12_its ci_12 ga16 wml_RX12_250 wim_X12_its wse_X12_its (Nat.le_of_ble_eq_true rfl) rfl ⟨Nat.le_of_ble_eq_true rfl, Nat.le_of_ble_eq_true rfl⟩ (Nat.le_of_ble_eq_true rfl) dX12_out_89 rfl (by cases fa16; rfl) rfl ?_
      refine go_isub (n := 93) dX12_out_92 rfl ?_
      refine go_istore_n (n := 94) (lv' := [(3, vi (w32 (v11 - v14))), (2, vi v9), (0, vr (some l0)), (1, vi l1)]) rfl dX12_out_93 rfl (Nat.le_of_ble_eq_true rfl) rfl ?_
      refine go_aload_n (j := 2) (n := 95) rfl rfl dX12_out_94 rfl ?_
      refine go_iload_n (j := 1) (n := 96) rfl rfl dX12_out_95 rfl ?_
      refine go_bipush (z := 9) (n := 98) ⟨by decide, by decide⟩ dX12_out_96 rfl ?_
      refine go_aload_n (j := 2) (n := 99) rfl rfl dX12_out_98 rfl ?_
      refine go_iload_n (j := 1) (n := 100) rfl rfl dX12_out_99 rfl ?_
      refine go_bipush (z := 21) (n := 102) ⟨by decide, by decide⟩ dX12_out_100 rfl ?_
      replace E := Option.bind_eq_some_iff.mp E; obtain ⟨a19, ea19, E⟩ := E
      obtain ⟨fa19, ga19⟩ := xrc_some ea19
      replace E := xb_some E; obtain ⟨v17, h18, ev17, E⟩ := E
      refine go_callV (y := yX12_its) (n := 105) (st := [vi 9, vi v9, vr (some l0)]) (as := [vi v9, vi 21]) (stk9 := [vi v17, vi 9, vi v9, vr (some l0)]) (OX12_its ev17) yw_X12_its ci_12 ga19 wml_RX12_250 wim_X12_its wse_X12_its (Nat.le_of_ble_eq_true rfl) rfl ⟨Nat.le_of_ble_eq_true rfl, Nat.le_of_ble_eq_true rfl⟩ (Nat.le_of_ble_eq_true rfl) dX12_out_102 rfl (by cases fa19; rfl) rfl ?_
      refine go_aload_n (j := 2) (n := 106) rfl rfl dX12_out_105 rfl ?_
      refine go_iload_n (j := 1) (n := 107) rfl rfl dX12_out_106 rfl ?_
      refine go_iconst (z := 3) (n := 108) ⟨by decide, by decide⟩ dX12_out_107 rfl ?_
      replace E := Option.bind_eq_some_iff.mp E; obtain ⟨a22, ea22, E⟩ := E
      obtain ⟨fa22, ga22⟩ := xrc_some ea22
      replace E := xb_some E; obtain ⟨v20, h21, ev20, E⟩ := E
      refine go_callV (y := yX12_its) (n := 111) (st := [vi v17, vi 9, vi v9, vr (some l0)]) (as := [vi v9, vi 3]) (stk9 := [vi v20, vi v17, vi 9, vi v9, vr (some l0)]) (OX12_its ev20) yw_X12_its ci_12 ga22 wml_RX12_250 wim_X12_its wse_X12_its (Nat.le_of_ble_eq_true rfl) rfl ⟨Nat.le_of_ble_eq_true rfl, Nat.le_of_ble_eq_true rfl⟩ (Nat.le_of_ble_eq_true rfl) dX12_out_108 rfl (by cases fa22; rfl) rfl ?_
      refine go_if_ne (tgt := 118) (n := 114) dX12_out_111 rfl rfl (fun c23 => ?_) (fun c23 => ?_)
      · rw [if_neg c23] at E
        refine go_iload_n (j := 0) (n := 119) rfl rfl dX12_out_118 rfl ?_
        refine go_aload_n (j := 2) (n := 120) rfl rfl dX12_out_119 rfl ?_
        refine go_iload_n (j := 1) (n := 121) rfl rfl dX12_out_120 rfl ?_
        refine go_iconst (z := 3) (n := 122) ⟨by decide, by decide⟩ dX12_out_121 rfl ?_
        replace E := Option.bind_eq_some_iff.mp E; obtain ⟨a26, ea26, E⟩ := E
        obtain ⟨fa26, ga26⟩ := xrc_some ea26
        replace E := xb_some E; obtain ⟨v24, h25, ev24, E⟩ := E
        refine go_callV (y := yX12_its) (n := 125) (st := [vi (w32 (v11 - v14)), vi v17, vi 9, vi v9, vr (some l0)]) (as := [vi v9, vi 3]) (stk9 := [vi v24, vi (w32 (v11 - v14)), vi v17, vi 9, vi v9, vr (some l0)]) (OX12_its ev24) yw_X12_its ci_12 ga26 wml_RX12_250 wim_X12_its wse_X12_its (Nat.le_of_ble_eq_true rfl) rfl ⟨Nat.le_of_ble_eq_true rfl, Nat.le_of_ble_eq_true rfl⟩ (Nat.le_of_ble_eq_true rfl) dX12_out_122 rfl (by cases fa26; rfl) rfl ?_
        replace E := Option.bind_eq_some_iff.mp E; obtain ⟨u27, eu27, E⟩ := E
        refine go_idiv (n := 126) (xd_some eu27) dX12_out_125 rfl ?_
        refine go_aload_n (j := 2) (n := 127) rfl rfl dX12_out_126 rfl ?_
        refine go_iload_n (j := 1) (n := 128) rfl rfl dX12_out_127 rfl ?_
        refine go_iconst (z := 3) (n := 129) ⟨by decide, by decide⟩ dX12_out_128 rfl ?_
        replace E := Option.bind_eq_some_iff.mp E; obtain ⟨a30, ea30, E⟩ := E
        obtain ⟨fa30, ga30⟩ := xrc_some ea30
        replace E := xb_some E; obtain ⟨v28, h29, ev28, E⟩ := E
        refine go_callV (y := yX12_its) (n := 132) (st := [vi (w32 ((w32 (v11 - v14)).tdiv v24)), vi v17, vi 9, vi v9, vr (some l0)]) (as := [vi v9, vi 3]) (stk9 := [vi v28, vi (w32 ((w32 (v11 - v14)).tdiv v24)), vi v17, vi 9, vi v9, vr (some l0)]) (OX12_its ev28) yw_X12_its ci_12 ga30 wml_RX12_250 wim_X12_its wse_X12_its (Nat.le_of_ble_eq_true rfl) rfl ⟨Nat.le_of_ble_eq_true rfl, Nat.le_of_ble_eq_true rfl⟩ (Nat.le_of_ble_eq_true rfl) dX12_out_129 rfl (by cases fa30; rfl) rfl ?_
        refine go_imul (n := 133) dX12_out_132 rfl ?_
        refine go_pick (lv' := [(0, vr (some l0))]) [2] rfl ?_
        exact SX12_out_L133     _ _ _ _ _ _ _ E
      · rw [if_pos c23] at E
        refine go_iconst (z := 0) (n := 115) ⟨by decide, by decide⟩ dX12_out_114 rfl ?_
        refine go_goto (tgt := 133) dX12_out_115 rfl ?_
        refine go_pick (lv' := [(0, vr (some l0))]) [2] rfl ?_
        exact SX12_out_L133     _ _ _ _ _ _ _ E
  · rw [if_neg c4] at E
    refine go_iconst (z := 0) (n := 56) ⟨by decide, by decide⟩ dX12_out_55 rfl ?_
    cases E
    exact go_ireturn rfl dX12_out_56
noncomputable def X12_out_L21 (F : Nat)   (l0 : Nat) (l1 : Int) (s0 : Int) (s1 : Option Nat) (h : HP) : Option (Int × HP) :=
  (xrc h s1 12 31).bind fun a3 =>
  xb (X12_throwsIf F a3 s0 1 h) fun v1 h2 =>
  if v1 = 0 then
    (xgP h2 (some l0) 12 31 1).bind fun v5 =>
    (xaI h2 v5 100 3).bind fun v6 =>
    X12_out_L48 F l0 l1 (if (w32 (v6 + l1)) ≤ 480 then 0 else 1) (some l0) h2
  else
    some (0, h2)
set_option maxRecDepth 100000 in
theorem SX12_out_L21 {K : Ctx} {F : Nat} {r : Int} {hf : HP}     (l0 : Nat) (l1 : Int) (s0 : Int) (s1 : Option Nat) (h : HP) (E : X12_out_L21 F   l0 l1 s0 s1 h = some (r, hf)) : Go K MX12_out (QM K (some (vi r)) hf) hf 21 [(0, vr (some l0)), (1, vi l1)] [vi s0, vr s1] h := by
  unfold X12_out_L21 at E
  refine go_iconst (z := 1) (n := 22) ⟨by decide, by decide⟩ dX12_out_21 rfl ?_
  replace E := Option.bind_eq_some_iff.mp E; obtain ⟨a3, ea3, E⟩ := E
  obtain ⟨fa3, ga3⟩ := xrc_some ea3
  replace E := xb_some E; obtain ⟨v1, h2, ev1, E⟩ := E
  refine go_callV (y := yX12_throwsIf) (n := 25) (st := []) (as := [vi s0, vi 1]) (stk9 := [vi v1]) (OX12_throwsIf ev1) yw_X12_throwsIf ci_12 ga3 wml_RX12_65 wim_X12_throwsIf wse_X12_throwsIf (Nat.le_of_ble_eq_true rfl) rfl ⟨Nat.le_of_ble_eq_true rfl, Nat.le_of_ble_eq_true rfl⟩ (Nat.le_of_ble_eq_true rfl) dX12_out_22 rfl (by cases fa3; rfl) rfl ?_
  refine go_if_ne (tgt := 55) (n := 28) dX12_out_25 rfl rfl (fun c4 => ?_) (fun c4 => ?_)
  · rw [if_neg c4] at E
    refine go_iconst (z := 0) (n := 56) ⟨by decide, by decide⟩ dX12_out_55 rfl ?_
    cases E
    exact go_ireturn rfl dX12_out_56
  · rw [if_pos c4] at E
    refine go_aload_n (j := 0) (n := 29) rfl rfl dX12_out_28 rfl ?_
    refine go_aload_n (j := 0) (n := 30) rfl rfl dX12_out_29 rfl ?_
    replace E := Option.bind_eq_some_iff.mp E; obtain ⟨v5, ev5, E⟩ := E
    refine go_getP (n := 33) ev5 fl_RX12_14 rfl dX12_out_30 rfl ?_
    refine go_iconst (z := 3) (n := 34) ⟨by decide, by decide⟩ dX12_out_33 rfl ?_
    replace E := Option.bind_eq_some_iff.mp E; obtain ⟨v6, ev6, E⟩ := E
    refine go_iaload (n := 35) ev6 dX12_out_34 rfl ?_
    refine go_iload_n (j := 1) (n := 36) rfl rfl dX12_out_35 rfl ?_
    refine go_iadd (n := 37) dX12_out_36 rfl ?_
    refine go_sipush (z := 480) (n := 40) ⟨by decide, by decide⟩ dX12_out_37 rfl ?_
    refine go_icmp_le (tgt := 47) (n := 43) dX12_out_40 rfl rfl (fun c7 => ?_) (fun c7 => ?_)
    · simp only [if_pos c7] at E
      refine go_iconst (z := 0) (n := 48) ⟨by decide, by decide⟩ dX12_out_47 rfl ?_
      exact SX12_out_L48     _ _ _ _ _ E
    · simp only [if_neg c7] at E
      refine go_iconst (z := 1) (n := 44) ⟨by decide, by decide⟩ dX12_out_43 rfl ?_
      refine go_goto (tgt := 48) dX12_out_44 rfl ?_
      exact SX12_out_L48     _ _ _ _ _ E
noncomputable def X12_out (F : Nat)   (l0 : Nat) (l1 : Int)  (h : HP) : Option (Int × HP) :=
  (xpI h (some l0) 12 31 0 0).bind fun h1 =>
  xb (X12_in F l1 1 60 h1) fun v2 h3 =>
  X12_out_L21 F l0 l1 (if v2 = 0 then 1 else 0) (some l0) h3
set_option maxRecDepth 100000 in
theorem SX12_out {K : Ctx} {F : Nat} {r : Int} {hf : HP}     (l0 : Nat) (l1 : Int)  (h : HP) (E : X12_out F   l0 l1 h = some (r, hf)) : Go K MX12_out (QM K (some (vi r)) hf) hf 0 [(0, vr (some l0)), (1, vi l1)] [] h := by
  unfold X12_out at E
  refine go_aload_n (j := 0) (n := 1) rfl rfl dX12_out_0 rfl ?_
  refine go_iconst (z := 0) (n := 2) ⟨by decide, by decide⟩ dX12_out_1 rfl ?_
  replace E := Option.bind_eq_some_iff.mp E; obtain ⟨h1, eh1, E⟩ := E
  refine go_putI (n := 5) eh1 fl_RX12_3 rfl dX12_out_2 rfl ?_
  refine go_aload_n (j := 0) (n := 6) rfl rfl dX12_out_5 rfl ?_
  refine go_iload_n (j := 1) (n := 7) rfl rfl dX12_out_6 rfl ?_
  refine go_iconst (z := 1) (n := 8) ⟨by decide, by decide⟩ dX12_out_7 rfl ?_
  refine go_bipush (z := 60) (n := 10) ⟨by decide, by decide⟩ dX12_out_8 rfl ?_
  replace E := xb_some E; obtain ⟨v2, h3, ev2, E⟩ := E
  refine go_callS (y := yX12_in) (n := 13) (st := [vr (some l0)]) (as := [vi l1, vi 1, vi 60]) (stk9 := [vi v2, vr (some l0)]) (OX12_in ev2) yw_X12_in wml_RX12_61 wst_X12_in (Nat.le_of_ble_eq_true rfl) rfl ⟨Nat.le_of_ble_eq_true rfl, Nat.le_of_ble_eq_true rfl⟩ (Nat.le_of_ble_eq_true rfl) dX12_out_10 rfl rfl rfl ?_
  refine go_if_ne (tgt := 20) (n := 16) dX12_out_13 rfl rfl (fun c4 => ?_) (fun c4 => ?_)
  · simp only [if_neg c4] at E
    refine go_iconst (z := 0) (n := 21) ⟨by decide, by decide⟩ dX12_out_20 rfl ?_
    exact SX12_out_L21     _ _ _ _ _ E
  · simp only [if_pos c4] at E
    refine go_iconst (z := 1) (n := 17) ⟨by decide, by decide⟩ dX12_out_16 rfl ?_
    refine go_goto (tgt := 21) dX12_out_17 rfl ?_
    exact SX12_out_L21     _ _ _ _ _ E
theorem OX12_out {F : Nat} {l0 : Nat} {l1 : Int} {h hf : HP} {r : Int} (e : X12_out F l0 l1 h = some (r, hf)) : Ok MX12_out [vr (some l0), vi l1] (some (vi r)) h hf := fun K _ _ _ => SX12_out l0 l1 h e
abbrev MX12_isReady : MI := (RX12, cX12_isReady, 5, (some .boolean), 6, none, "isReady")
noncomputable def X12_isReady_L80 (F : Nat)  (rc34 : Nat → Int → Int → Int → HP → Option (Int × HP)) (l0 : Nat) (l2 : Int) (l4 : Int) (s0 : Int) (h : HP) : Option (Int × HP) :=
  rc34 l0 l2 s0 (w32 (l4 + 1)) h
set_option maxRecDepth 100000 in
theorem SX12_isReady_L80 {K : Ctx} {F : Nat} {r : Int} {hf : HP}   (rc34 : Nat → Int → Int → Int → HP → Option (Int × HP)) (hrc34 : ∀ l0 l2 l3 l4 h, rc34 l0 l2 l3 l4 h = some (r, hf) → Go K MX12_isReady (QM K (some (vi r)) hf) hf 34 [(0, vr (some l0)), (2, vi l2), (3, vi l3), (4, vi l4)] [] h) (l0 : Nat) (l2 : Int) (l4 : Int) (s0 : Int) (h : HP) (E : X12_isReady_L80 F  rc34 l0 l2 l4 s0 h = some (r, hf)) : Go K MX12_isReady (QM K (some (vi r)) hf) hf 80 [(0, vr (some l0)), (2, vi l2), (4, vi l4)] [vi s0] h := by
  unfold X12_isReady_L80 at E
  refine go_istore_n (n := 81) (lv' := [(3, vi s0), (0, vr (some l0)), (2, vi l2), (4, vi l4)]) rfl dX12_isReady_80 rfl (Nat.le_of_ble_eq_true rfl) rfl ?_
  refine go_iinc (j := 3) (n := 84) (lv' := [(4, vi (w32 (l4 + 1))), (3, vi s0), (0, vr (some l0)), (2, vi l2)]) rfl dX12_isReady_81 rfl (Nat.le_of_ble_eq_true rfl) rfl ?_
  refine go_goto (tgt := 34) dX12_isReady_84 rfl ?_
  refine go_pick (lv' := [(0, vr (some l0)), (2, vi l2), (3, vi s0), (4, vi (w32 (l4 + 1)))]) [2, 3, 1, 0] rfl ?_
  exact hrc34 _ _ _ _ _ E
noncomputable def X12_isReady_L79 (F : Nat)  (rc34 : Nat → Int → Int → Int → HP → Option (Int × HP)) (l0 : Nat) (l2 : Int) (l4 : Int)  (h : HP) : Option (Int × HP) :=
  X12_isReady_L80 F rc34 l0 l2 l4 0 h
set_option maxRecDepth 100000 in
theorem SX12_isReady_L79 {K : Ctx} {F : Nat} {r : Int} {hf : HP}   (rc34 : Nat → Int → Int → Int → HP → Option (Int × HP)) (hrc34 : ∀ l0 l2 l3 l4 h, rc34 l0 l2 l3 l4 h = some (r, hf) → Go K MX12_isReady (QM K (some (vi r)) hf) hf 34 [(0, vr (some l0)), (2, vi l2), (3, vi l3), (4, vi l4)] [] h) (l0 : Nat) (l2 : Int) (l4 : Int)  (h : HP) (E : X12_isReady_L79 F  rc34 l0 l2 l4 h = some (r, hf)) : Go K MX12_isReady (QM K (some (vi r)) hf) hf 79 [(0, vr (some l0)), (2, vi l2), (4, vi l4)] [] h := by
  unfold X12_isReady_L79 at E
  refine go_iconst (z := 0) (n := 80) ⟨by decide, by decide⟩ dX12_isReady_79 rfl ?_
  exact SX12_isReady_L80   _ hrc34 _ _ _ _ _ E
noncomputable def X12_isReady_L75 (F : Nat)  (rc34 : Nat → Int → Int → Int → HP → Option (Int × HP)) (l0 : Nat) (l2 : Int) (l4 : Int)  (h : HP) : Option (Int × HP) :=
  X12_isReady_L80 F rc34 l0 l2 l4 1 h
set_option maxRecDepth 100000 in
theorem SX12_isReady_L75 {K : Ctx} {F : Nat} {r : Int} {hf : HP}   (rc34 : Nat → Int → Int → Int → HP → Option (Int × HP)) (hrc34 : ∀ l0 l2 l3 l4 h, rc34 l0 l2 l3 l4 h = some (r, hf) → Go K MX12_isReady (QM K (some (vi r)) hf) hf 34 [(0, vr (some l0)), (2, vi l2), (3, vi l3), (4, vi l4)] [] h) (l0 : Nat) (l2 : Int) (l4 : Int)  (h : HP) (E : X12_isReady_L75 F  rc34 l0 l2 l4 h = some (r, hf)) : Go K MX12_isReady (QM K (some (vi r)) hf) hf 75 [(0, vr (some l0)), (2, vi l2), (4, vi l4)] [] h := by
  unfold X12_isReady_L75 at E
  refine go_iconst (z := 1) (n := 76) ⟨by decide, by decide⟩ dX12_isReady_75 rfl ?_
  refine go_goto (tgt := 80) dX12_isReady_76 rfl ?_
  exact SX12_isReady_L80   _ hrc34 _ _ _ _ _ E
noncomputable def X12_isReady_L34 (F : Nat)   (k : Nat) : Nat → Int → Int → Int → HP → Option (Int × HP) :=
  Nat.rec (motive := fun _ => Nat → Int → Int → Int → HP → Option (Int × HP)) (fun _ _ _ _ _ => none) (fun _ rc34 l0 l2 l3 l4 h =>
    (xgP h (some l0) 12 31 1).bind fun v1 =>
    (xaI h v1 100 8).bind fun v2 =>
    if v2 ≤ l4 then
      xz l3 h
    else
      if l3 = 0 then
        X12_isReady_L79 F rc34 l0 l2 l4 h
      else
        if (xand (xshr l2 l4) 1) = 0 then
          X12_isReady_L75 F rc34 l0 l2 l4 h
        else
          (xrc h (some l0) 12 31).bind fun a9 =>
          xb (X12_its F a9 l4 8 h) fun v7 h8 =>
          xb (X12_in F v7 2 4 h8) fun v10 h11 =>
          if v10 = 0 then
            X12_isReady_L79 F rc34 l0 l2 l4 h11
          else
            X12_isReady_L75 F rc34 l0 l2 l4 h11) k
theorem X12_isReady_L34_s (F : Nat)   (k : Nat) (l0 : Nat) (l2 : Int) (l3 : Int) (l4 : Int)  (h : HP) : X12_isReady_L34 F   (k + 1) l0 l2 l3 l4 h =
    (xgP h (some l0) 12 31 1).bind fun v1 =>
    (xaI h v1 100 8).bind fun v2 =>
    if v2 ≤ l4 then
      xz l3 h
    else
      if l3 = 0 then
        X12_isReady_L79 F (X12_isReady_L34 F k) l0 l2 l4 h
      else
        if (xand (xshr l2 l4) 1) = 0 then
          X12_isReady_L75 F (X12_isReady_L34 F k) l0 l2 l4 h
        else
          (xrc h (some l0) 12 31).bind fun a9 =>
          xb (X12_its F a9 l4 8 h) fun v7 h8 =>
          xb (X12_in F v7 2 4 h8) fun v10 h11 =>
          if v10 = 0 then
            X12_isReady_L79 F (X12_isReady_L34 F k) l0 l2 l4 h11
          else
            X12_isReady_L75 F (X12_isReady_L34 F k) l0 l2 l4 h11 := rfl
set_option maxRecDepth 100000 in
theorem SX12_isReady_L34 {K : Ctx} {F : Nat} {r : Int} {hf : HP}     : ∀ (k : Nat) (l0 : Nat) (l2 : Int) (l3 : Int) (l4 : Int)  (h : HP), X12_isReady_L34 F   k l0 l2 l3 l4 h = some (r, hf) → Go K MX12_isReady (QM K (some (vi r)) hf) hf 34 [(0, vr (some l0)), (2, vi l2), (3, vi l3), (4, vi l4)] [] h := by
  intro k
  induction k with
  | zero => intro l0 l2 l3 l4 h E; exact nomatch E
  | succ k hrc34 =>
    intro l0 l2 l3 l4 h E
    rw [X12_isReady_L34_s] at E
    refine go_iload (j := 3) (n := 36) rfl dX12_isReady_34 rfl ?_
    refine go_aload_n (j := 0) (n := 37) rfl rfl dX12_isReady_36 rfl ?_
    replace E := Option.bind_eq_some_iff.mp E; obtain ⟨v1, ev1, E⟩ := E
    refine go_getP (n := 40) ev1 fl_RX12_14 rfl dX12_isReady_37 rfl ?_
    refine go_bipush (z := 8) (n := 42) ⟨by decide, by decide⟩ dX12_isReady_40 rfl ?_
    replace E := Option.bind_eq_some_iff.mp E; obtain ⟨v2, ev2, E⟩ := E
    refine go_iaload (n := 43) ev2 dX12_isReady_42 rfl ?_
    refine go_icmp_ge (tgt := 87) (n := 46) dX12_isReady_43 rfl rfl (fun c3 => ?_) (fun c3 => ?_)
    · rw [if_pos c3] at E
      refine go_iload_n (j := 2) (n := 88) rfl rfl dX12_isReady_87 rfl ?_
      unfold xz at E
      split at E
      · next c4 =>
        cases E
        exact go_zreturn rfl c4 dX12_isReady_88
      · cases E
    · rw [if_neg c3] at E
      refine go_iload_n (j := 2) (n := 47) rfl rfl dX12_isReady_46 rfl ?_
      refine go_if_eq (tgt := 79) (n := 50) dX12_isReady_47 rfl rfl (fun c5 => ?_) (fun c5 => ?_)
      · rw [if_pos c5] at E
        refine go_pick (lv' := [(0, vr (some l0)), (2, vi l2), (4, vi l4)]) [0, 1, 3] rfl ?_
        exact SX12_isReady_L79   _ hrc34 _ _ _  _ E
      · rw [if_neg c5] at E
        refine go_iload_n (j := 1) (n := 51) rfl rfl dX12_isReady_50 rfl ?_
        refine go_iload (j := 3) (n := 53) rfl dX12_isReady_51 rfl ?_
        refine go_ishr (n := 54) dX12_isReady_53 rfl ?_
        refine go_iconst (z := 1) (n := 55) ⟨by decide, by decide⟩ dX12_isReady_54 rfl ?_
        refine go_iand (n := 56) dX12_isReady_55 rfl ?_
        refine go_if_eq (tgt := 75) (n := 59) dX12_isReady_56 rfl rfl (fun c6 => ?_) (fun c6 => ?_)
        · rw [if_pos c6] at E
          refine go_pick (lv' := [(0, vr (some l0)), (2, vi l2), (4, vi l4)]) [0, 1, 3] rfl ?_
          exact SX12_isReady_L75   _ hrc34 _ _ _  _ E
        · rw [if_neg c6] at E
          refine go_aload_n (j := 0) (n := 60) rfl rfl dX12_isReady_59 rfl ?_
          refine go_iload (j := 3) (n := 62) rfl dX12_isReady_60 rfl ?_
          refine go_bipush (z := 8) (n := 64) ⟨by decide, by decide⟩ dX12_isReady_62 rfl ?_
          replace E := Option.bind_eq_some_iff.mp E; obtain ⟨a9, ea9, E⟩ := E
          obtain ⟨fa9, ga9⟩ := xrc_some ea9
          replace E := xb_some E; obtain ⟨v7, h8, ev7, E⟩ := E
          refine go_callV (y := yX12_its) (n := 67) (st := []) (as := [vi l4, vi 8]) (stk9 := [vi v7]) (OX12_its ev7) yw_X12_its ci_12 ga9 wml_RX12_250 wim_X12_its wse_X12_its (Nat.le_of_ble_eq_true rfl) rfl ⟨Nat.le_of_ble_eq_true rfl, Nat.le_of_ble_eq_true rfl⟩ (Nat.le_of_ble_eq_true rfl) dX12_isReady_64 rfl (by cases fa9; rfl) rfl ?_
          refine go_iconst (z := 2) (n := 68) ⟨by decide, by decide⟩ dX12_isReady_67 rfl ?_
          refine go_iconst (z := 4) (n := 69) ⟨by decide, by decide⟩ dX12_isReady_68 rfl ?_
          replace E := xb_some E; obtain ⟨v10, h11, ev10, E⟩ := E
          refine go_callS (y := yX12_in) (n := 72) (st := []) (as := [vi v7, vi 2, vi 4]) (stk9 := [vi v10]) (OX12_in ev10) yw_X12_in wml_RX12_61 wst_X12_in (Nat.le_of_ble_eq_true rfl) rfl ⟨Nat.le_of_ble_eq_true rfl, Nat.le_of_ble_eq_true rfl⟩ (Nat.le_of_ble_eq_true rfl) dX12_isReady_69 rfl rfl rfl ?_
          refine go_if_eq (tgt := 79) (n := 75) dX12_isReady_72 rfl rfl (fun c12 => ?_) (fun c12 => ?_)
          · rw [if_pos c12] at E
            refine go_pick (lv' := [(0, vr (some l0)), (2, vi l2), (4, vi l4)]) [0, 1, 3] rfl ?_
            exact SX12_isReady_L79   _ hrc34 _ _ _  _ E
          · rw [if_neg c12] at E
            refine go_pick (lv' := [(0, vr (some l0)), (2, vi l2), (4, vi l4)]) [0, 1, 3] rfl ?_
            exact SX12_isReady_L75   _ hrc34 _ _ _  _ E
noncomputable def X12_isReady (F : Nat)   (l0 : Nat) (l1 : Int)  (h : HP) : Option (Int × HP) :=
  (xrc h (some l0) 12 31).bind fun a3 =>
  xb (X12_its F a3 l1 8 h) fun v1 h2 =>
  if v1 = 0 then
    (xrc h2 (some l0) 12 31).bind fun a7 =>
    xb (X12_its F a7 l1 11 h2) fun v5 h6 =>
    if v5 = 2 then
      some (0, h6)
    else
      (xrc h6 (some l0) 12 31).bind fun a11 =>
      xb (X12_leansOf F a11 l1 h6) fun v9 h10 =>
      X12_isReady_L34 F F l0 v9 1 0 h10
  else
    some (0, h2)
set_option maxRecDepth 100000 in
theorem SX12_isReady {K : Ctx} {F : Nat} {r : Int} {hf : HP}     (l0 : Nat) (l1 : Int)  (h : HP) (E : X12_isReady F   l0 l1 h = some (r, hf)) : Go K MX12_isReady (QM K (some (vi r)) hf) hf 0 [(0, vr (some l0)), (1, vi l1)] [] h := by
  unfold X12_isReady at E
  refine go_aload_n (j := 0) (n := 1) rfl rfl dX12_isReady_0 rfl ?_
  refine go_iload_n (j := 1) (n := 2) rfl rfl dX12_isReady_1 rfl ?_
  refine go_bipush (z := 8) (n := 4) ⟨by decide, by decide⟩ dX12_isReady_2 rfl ?_
  replace E := Option.bind_eq_some_iff.mp E; obtain ⟨a3, ea3, E⟩ := E
  obtain ⟨fa3, ga3⟩ := xrc_some ea3
  replace E := xb_some E; obtain ⟨v1, h2, ev1, E⟩ := E
  refine go_callV (y := yX12_its) (n := 7) (st := []) (as := [vi l1, vi 8]) (stk9 := [vi v1]) (OX12_its ev1) yw_X12_its ci_12 ga3 wml_RX12_250 wim_X12_its wse_X12_its (Nat.le_of_ble_eq_true rfl) rfl ⟨Nat.le_of_ble_eq_true rfl, Nat.le_of_ble_eq_true rfl⟩ (Nat.le_of_ble_eq_true rfl) dX12_isReady_4 rfl (by cases fa3; rfl) rfl ?_
  refine go_if_ne (tgt := 21) (n := 10) dX12_isReady_7 rfl rfl (fun c4 => ?_) (fun c4 => ?_)
  · rw [if_neg c4] at E
    refine go_iconst (z := 0) (n := 22) ⟨by decide, by decide⟩ dX12_isReady_21 rfl ?_
    cases E
    exact go_zreturn rfl (Or.inl rfl) dX12_isReady_22
  · rw [if_pos c4] at E
    refine go_aload_n (j := 0) (n := 11) rfl rfl dX12_isReady_10 rfl ?_
    refine go_iload_n (j := 1) (n := 12) rfl rfl dX12_isReady_11 rfl ?_
    refine go_bipush (z := 11) (n := 14) ⟨by decide, by decide⟩ dX12_isReady_12 rfl ?_
    replace E := Option.bind_eq_some_iff.mp E; obtain ⟨a7, ea7, E⟩ := E
    obtain ⟨fa7, ga7⟩ := xrc_some ea7
    replace E := xb_some E; obtain ⟨v5, h6, ev5, E⟩ := E
    refine go_callV (y := yX12_its) (n := 17) (st := []) (as := [vi l1, vi 11]) (stk9 := [vi v5]) (OX12_its ev5) yw_X12_its ci_12 ga7 wml_RX12_250 wim_X12_its wse_X12_its (Nat.le_of_ble_eq_true rfl) rfl ⟨Nat.le_of_ble_eq_true rfl, Nat.le_of_ble_eq_true rfl⟩ (Nat.le_of_ble_eq_true rfl) dX12_isReady_14 rfl (by cases fa7; rfl) rfl ?_
    refine go_iconst (z := 2) (n := 18) ⟨by decide, by decide⟩ dX12_isReady_17 rfl ?_
    refine go_icmp_ne (tgt := 23) (n := 21) dX12_isReady_18 rfl rfl (fun c8 => ?_) (fun c8 => ?_)
    · rw [if_neg c8] at E
      refine go_aload_n (j := 0) (n := 24) rfl rfl dX12_isReady_23 rfl ?_
      refine go_iload_n (j := 1) (n := 25) rfl rfl dX12_isReady_24 rfl ?_
      replace E := Option.bind_eq_some_iff.mp E; obtain ⟨a11, ea11, E⟩ := E
      obtain ⟨fa11, ga11⟩ := xrc_some ea11
      replace E := xb_some E; obtain ⟨v9, h10, ev9, E⟩ := E
      refine go_callV (y := yX12_leansOf) (n := 28) (st := []) (as := [vi l1]) (stk9 := [vi v9]) (OX12_leansOf ev9) yw_X12_leansOf ci_12 ga11 wml_RX12_259 wim_X12_leansOf wse_X12_leansOf (Nat.le_of_ble_eq_true rfl) rfl ⟨Nat.le_of_ble_eq_true rfl, Nat.le_of_ble_eq_true rfl⟩ (Nat.le_of_ble_eq_true rfl) dX12_isReady_25 rfl (by cases fa11; rfl) rfl ?_
      refine go_istore_n (n := 29) (lv' := [(2, vi v9), (0, vr (some l0)), (1, vi l1)]) rfl dX12_isReady_28 rfl (Nat.le_of_ble_eq_true rfl) rfl ?_
      refine go_iconst (z := 1) (n := 30) ⟨by decide, by decide⟩ dX12_isReady_29 rfl ?_
      refine go_istore_n (n := 31) (lv' := [(3, vi 1), (2, vi v9), (0, vr (some l0)), (1, vi l1)]) rfl dX12_isReady_30 rfl (Nat.le_of_ble_eq_true rfl) rfl ?_
      refine go_iconst (z := 0) (n := 32) ⟨by decide, by decide⟩ dX12_isReady_31 rfl ?_
      refine go_istore (n := 34) (lv' := [(4, vi 0), (3, vi 1), (2, vi v9), (0, vr (some l0)), (1, vi l1)]) dX12_isReady_32 rfl (Nat.le_of_ble_eq_true rfl) rfl ?_
      refine go_pick (lv' := [(0, vr (some l0)), (2, vi v9), (3, vi 1), (4, vi 0)]) [3, 2, 1, 0] rfl ?_
      exact SX12_isReady_L34     F _ _ _ _ _ E
    · rw [if_pos c8] at E
      refine go_iconst (z := 0) (n := 22) ⟨by decide, by decide⟩ dX12_isReady_21 rfl ?_
      cases E
      exact go_zreturn rfl (Or.inl rfl) dX12_isReady_22
theorem OX12_isReady {F : Nat} {l0 : Nat} {l1 : Int} {h hf : HP} {r : Int} (e : X12_isReady F l0 l1 h = some (r, hf)) : Ok MX12_isReady [vr (some l0), vi l1] (some (vi r)) h hf := fun K _ _ _ => SX12_isReady l0 l1 h e
abbrev MX12_totalOf : MI := (RX12, cX12_totalOf, 2, (some .int), 4, none, "totalOf")
noncomputable def X12_totalOf (F : Nat)   (l0 : Nat) (l1 : Int)  (h : HP) : Option (Int × HP) :=
  (xrc h (some l0) 12 31).bind fun a3 =>
  xb (X12_its F a3 l1 11 h) fun v1 h2 =>
  if v1 = 1 then
    (xrc h2 (some l0) 12 31).bind fun a10 =>
    xb (X12_its F a10 l1 5 h2) fun v8 h9 =>
    some (v8, h9)
  else
    (xrc h2 (some l0) 12 31).bind fun a7 =>
    xb (X12_its F a7 l1 0 h2) fun v5 h6 =>
    some (v5, h6)
set_option maxRecDepth 100000 in
theorem SX12_totalOf {K : Ctx} {F : Nat} {r : Int} {hf : HP}     (l0 : Nat) (l1 : Int)  (h : HP) (E : X12_totalOf F   l0 l1 h = some (r, hf)) : Go K MX12_totalOf (QM K (some (vi r)) hf) hf 0 [(0, vr (some l0)), (1, vi l1)] [] h := by
  unfold X12_totalOf at E
  refine go_aload_n (j := 0) (n := 1) rfl rfl dX12_totalOf_0 rfl ?_
  refine go_iload_n (j := 1) (n := 2) rfl rfl dX12_totalOf_1 rfl ?_
  refine go_bipush (z := 11) (n := 4) ⟨by decide, by decide⟩ dX12_totalOf_2 rfl ?_
  replace E := Option.bind_eq_some_iff.mp E; obtain ⟨a3, ea3, E⟩ := E
  obtain ⟨fa3, ga3⟩ := xrc_some ea3
  replace E := xb_some E; obtain ⟨v1, h2, ev1, E⟩ := E
  refine go_callV (y := yX12_its) (n := 7) (st := []) (as := [vi l1, vi 11]) (stk9 := [vi v1]) (OX12_its ev1) yw_X12_its ci_12 ga3 wml_RX12_250 wim_X12_its wse_X12_its (Nat.le_of_ble_eq_true rfl) rfl ⟨Nat.le_of_ble_eq_true rfl, Nat.le_of_ble_eq_true rfl⟩ (Nat.le_of_ble_eq_true rfl) dX12_totalOf_4 rfl (by cases fa3; rfl) rfl ?_
  refine go_iconst (z := 1) (n := 8) ⟨by decide, by decide⟩ dX12_totalOf_7 rfl ?_
  refine go_icmp_ne (tgt := 20) (n := 11) dX12_totalOf_8 rfl rfl (fun c4 => ?_) (fun c4 => ?_)
  · rw [if_neg c4] at E
    refine go_aload_n (j := 0) (n := 21) rfl rfl dX12_totalOf_20 rfl ?_
    refine go_iload_n (j := 1) (n := 22) rfl rfl dX12_totalOf_21 rfl ?_
    refine go_iconst (z := 0) (n := 23) ⟨by decide, by decide⟩ dX12_totalOf_22 rfl ?_
    replace E := Option.bind_eq_some_iff.mp E; obtain ⟨a7, ea7, E⟩ := E
    obtain ⟨fa7, ga7⟩ := xrc_some ea7
    replace E := xb_some E; obtain ⟨v5, h6, ev5, E⟩ := E
    refine go_callV (y := yX12_its) (n := 26) (st := []) (as := [vi l1, vi 0]) (stk9 := [vi v5]) (OX12_its ev5) yw_X12_its ci_12 ga7 wml_RX12_250 wim_X12_its wse_X12_its (Nat.le_of_ble_eq_true rfl) rfl ⟨Nat.le_of_ble_eq_true rfl, Nat.le_of_ble_eq_true rfl⟩ (Nat.le_of_ble_eq_true rfl) dX12_totalOf_23 rfl (by cases fa7; rfl) rfl ?_
    cases E
    exact go_ireturn rfl dX12_totalOf_26
  · rw [if_pos c4] at E
    refine go_aload_n (j := 0) (n := 12) rfl rfl dX12_totalOf_11 rfl ?_
    refine go_iload_n (j := 1) (n := 13) rfl rfl dX12_totalOf_12 rfl ?_
    refine go_iconst (z := 5) (n := 14) ⟨by decide, by decide⟩ dX12_totalOf_13 rfl ?_
    replace E := Option.bind_eq_some_iff.mp E; obtain ⟨a10, ea10, E⟩ := E
    obtain ⟨fa10, ga10⟩ := xrc_some ea10
    replace E := xb_some E; obtain ⟨v8, h9, ev8, E⟩ := E
    refine go_callV (y := yX12_its) (n := 17) (st := []) (as := [vi l1, vi 5]) (stk9 := [vi v8]) (OX12_its ev8) yw_X12_its ci_12 ga10 wml_RX12_250 wim_X12_its wse_X12_its (Nat.le_of_ble_eq_true rfl) rfl ⟨Nat.le_of_ble_eq_true rfl, Nat.le_of_ble_eq_true rfl⟩ (Nat.le_of_ble_eq_true rfl) dX12_totalOf_14 rfl (by cases fa10; rfl) rfl ?_
    refine go_goto (tgt := 26) dX12_totalOf_17 rfl ?_
    cases E
    exact go_ireturn rfl dX12_totalOf_26
theorem OX12_totalOf {F : Nat} {l0 : Nat} {l1 : Int} {h hf : HP} {r : Int} (e : X12_totalOf F l0 l1 h = some (r, hf)) : Ok MX12_totalOf [vr (some l0), vi l1] (some (vi r)) h hf := fun K _ _ _ => SX12_totalOf l0 l1 h e
theorem yw_X12_isReady : YW yX12_isReady cX12_isReady 5 (some .boolean) 1 := ⟨bw_of 2126 (by decide +kernel) rfl, bw_of 129 (by decide +kernel) rfl, ⟨by decide +kernel, by decide +kernel, by decide +kernel⟩, by decide +kernel⟩
theorem wml_RX12_289 : Cond.methodLink RX12 289 yX12_isReady ∈ BW := bw_of 2123 (by decide +kernel) rfl
theorem wim_X12_isReady : Cond.instanceMethod yX12_isReady ∈ BW := bw_of 2125 (by decide +kernel) rfl
theorem wse_X12_isReady : Cond.selects RX12 yX12_isReady yX12_isReady ∈ BW := bw_of 93 (by decide +kernel) rfl
theorem yw_X12_totalOf : YW yX12_totalOf cX12_totalOf 2 (some .int) 1 := ⟨bw_of 2130 (by decide +kernel) rfl, bw_of 129 (by decide +kernel) rfl, ⟨by decide +kernel, by decide +kernel, by decide +kernel⟩, by decide +kernel⟩
theorem wml_RX12_292 : Cond.methodLink RX12 292 yX12_totalOf ∈ BW := bw_of 2127 (by decide +kernel) rfl
theorem wim_X12_totalOf : Cond.instanceMethod yX12_totalOf ∈ BW := bw_of 2129 (by decide +kernel) rfl
theorem wse_X12_totalOf : Cond.selects RX12 yX12_totalOf yX12_totalOf ∈ BW := bw_of 94 (by decide +kernel) rfl
abbrev MX12_begins : MI := (RX12, cX12_begins, 4, none, 7, none, "begins")
noncomputable def X12_begins_L32 (F : Nat)  (rc7 : Nat → Int → Int → HP → Option (Unit × HP)) (l0 : Nat) (l1 : Int) (l2 : Int) (s0 : Int) (h : HP) : Option (Unit × HP) :=
  (xrc h (some l0) 12 31).bind fun a3 =>
  xb (X12_isReady F a3 s0 h) fun v1 h2 =>
  if v1 = 0 then
    rc7 l0 l1 (w32 (l2 + 1)) h2
  else
    (xrc h2 (some l0) 12 31).bind fun a7 =>
    xb (X12_sets F a7 s0 8 1 h2) fun v5 h6 =>
    (xrc h6 (some l0) 12 31).bind fun a10 =>
    xb (X12_totalOf F a10 s0 h6) fun v8 h9 =>
    (xrc h9 (some l0) 12 31).bind fun a13 =>
    xb (X12_sets F a13 s0 21 v8 h9) fun v11 h12 =>
    (xrc h12 (some l0) 12 31).bind fun a16 =>
    xb (X12_totalOf F a16 s0 h12) fun v14 h15 =>
    (xrc h15 (some l0) 12 31).bind fun a19 =>
    xb (X12_sets F a19 s0 9 v14 h15) fun v17 h18 =>
    (xgP h18 (some l0) 12 31 1).bind fun v20 =>
    (xsI h18 v20 4 s0).bind fun h21 =>
    some ((), h21)
set_option maxRecDepth 100000 in
theorem SX12_begins_L32 {K : Ctx} {F : Nat} {r : Unit} {hf : HP}   (rc7 : Nat → Int → Int → HP → Option (Unit × HP)) (hrc7 : ∀ l0 l1 l2 h, rc7 l0 l1 l2 h = some (r, hf) → Go K MX12_begins (QM K none hf) hf 7 [(0, vr (some l0)), (1, vi l1), (2, vi l2)] [] h) (l0 : Nat) (l1 : Int) (l2 : Int) (s0 : Int) (h : HP) (E : X12_begins_L32 F  rc7 l0 l1 l2 s0 h = some (r, hf)) : Go K MX12_begins (QM K none hf) hf 32 [(0, vr (some l0)), (1, vi l1), (2, vi l2)] [vi s0] h := by
  unfold X12_begins_L32 at E
  refine go_istore_n (n := 33) (lv' := [(3, vi s0), (0, vr (some l0)), (1, vi l1), (2, vi l2)]) rfl dX12_begins_32 rfl (Nat.le_of_ble_eq_true rfl) rfl ?_
  refine go_aload_n (j := 1) (n := 34) rfl rfl dX12_begins_33 rfl ?_
  refine go_iload_n (j := 0) (n := 35) rfl rfl dX12_begins_34 rfl ?_
  replace E := Option.bind_eq_some_iff.mp E; obtain ⟨a3, ea3, E⟩ := E
  obtain ⟨fa3, ga3⟩ := xrc_some ea3
  replace E := xb_some E; obtain ⟨v1, h2, ev1, E⟩ := E
  refine go_callV (y := yX12_isReady) (n := 38) (st := []) (as := [vi s0]) (stk9 := [vi v1]) (OX12_isReady ev1) yw_X12_isReady ci_12 ga3 wml_RX12_289 wim_X12_isReady wse_X12_isReady (Nat.le_of_ble_eq_true rfl) rfl ⟨Nat.le_of_ble_eq_true rfl, Nat.le_of_ble_eq_true rfl⟩ (Nat.le_of_ble_eq_true rfl) dX12_begins_35 rfl (by cases fa3; rfl) rfl ?_
  refine go_if_ne (tgt := 44) (n := 41) dX12_begins_38 rfl rfl (fun c4 => ?_) (fun c4 => ?_)
  · rw [if_neg c4] at E
    refine go_aload_n (j := 1) (n := 45) rfl rfl dX12_begins_44 rfl ?_
    refine go_iload_n (j := 0) (n := 46) rfl rfl dX12_begins_45 rfl ?_
    refine go_bipush (z := 8) (n := 48) ⟨by decide, by decide⟩ dX12_begins_46 rfl ?_
    refine go_iconst (z := 1) (n := 49) ⟨by decide, by decide⟩ dX12_begins_48 rfl ?_
    replace E := Option.bind_eq_some_iff.mp E; obtain ⟨a7, ea7, E⟩ := E
    obtain ⟨fa7, ga7⟩ := xrc_some ea7
    replace E := xb_some E; obtain ⟨v5, h6, ev5, E⟩ := E
    refine go_callV (y := yX12_sets) (n := 52) (st := []) (as := [vi s0, vi 8, vi 1]) (stk9 := []) (OX12_sets ev5) yw_X12_sets ci_12 ga7 wml_RX12_243 wim_X12_sets wse_X12_sets (Nat.le_of_ble_eq_true rfl) rfl ⟨Nat.le_of_ble_eq_true rfl, Nat.le_of_ble_eq_true rfl⟩ (Nat.le_of_ble_eq_true rfl) dX12_begins_49 rfl (by cases fa7; rfl) rfl ?_
    refine go_aload_n (j := 1) (n := 53) rfl rfl dX12_begins_52 rfl ?_
    refine go_iload_n (j := 0) (n := 54) rfl rfl dX12_begins_53 rfl ?_
    refine go_bipush (z := 21) (n := 56) ⟨by decide, by decide⟩ dX12_begins_54 rfl ?_
    refine go_aload_n (j := 1) (n := 57) rfl rfl dX12_begins_56 rfl ?_
    refine go_iload_n (j := 0) (n := 58) rfl rfl dX12_begins_57 rfl ?_
    replace E := Option.bind_eq_some_iff.mp E; obtain ⟨a10, ea10, E⟩ := E
    obtain ⟨fa10, ga10⟩ := xrc_some ea10
    replace E := xb_some E; obtain ⟨v8, h9, ev8, E⟩ := E
    refine go_callV (y := yX12_totalOf) (n := 61) (st := [vi 21, vi s0, vr (some l0)]) (as := [vi s0]) (stk9 := [vi v8, vi 21, vi s0, vr (some l0)]) (OX12_totalOf ev8) yw_X12_totalOf ci_12 ga10 wml_RX12_292 wim_X12_totalOf wse_X12_totalOf (Nat.le_of_ble_eq_true rfl) rfl ⟨Nat.le_of_ble_eq_true rfl, Nat.le_of_ble_eq_true rfl⟩ (Nat.le_of_ble_eq_true rfl) dX12_begins_58 rfl (by cases fa10; rfl) rfl ?_
    replace E := Option.bind_eq_some_iff.mp E; obtain ⟨a13, ea13, E⟩ := E
    obtain ⟨fa13, ga13⟩ := xrc_some ea13
    replace E := xb_some E; obtain ⟨v11, h12, ev11, E⟩ := E
    refine go_callV (y := yX12_sets) (n := 64) (st := []) (as := [vi s0, vi 21, vi v8]) (stk9 := []) (OX12_sets ev11) yw_X12_sets ci_12 ga13 wml_RX12_243 wim_X12_sets wse_X12_sets (Nat.le_of_ble_eq_true rfl) rfl ⟨Nat.le_of_ble_eq_true rfl, Nat.le_of_ble_eq_true rfl⟩ (Nat.le_of_ble_eq_true rfl) dX12_begins_61 rfl (by cases fa13; rfl) rfl ?_
    refine go_aload_n (j := 1) (n := 65) rfl rfl dX12_begins_64 rfl ?_
    refine go_iload_n (j := 0) (n := 66) rfl rfl dX12_begins_65 rfl ?_
    refine go_bipush (z := 9) (n := 68) ⟨by decide, by decide⟩ dX12_begins_66 rfl ?_
    refine go_aload_n (j := 1) (n := 69) rfl rfl dX12_begins_68 rfl ?_
    refine go_iload_n (j := 0) (n := 70) rfl rfl dX12_begins_69 rfl ?_
    replace E := Option.bind_eq_some_iff.mp E; obtain ⟨a16, ea16, E⟩ := E
    obtain ⟨fa16, ga16⟩ := xrc_some ea16
    replace E := xb_some E; obtain ⟨v14, h15, ev14, E⟩ := E
    refine go_callV (y := yX12_totalOf) (n := 73) (st := [vi 9, vi s0, vr (some l0)]) (as := [vi s0]) (stk9 := [vi v14, vi 9, vi s0, vr (some l0)]) (OX12_totalOf ev14) yw_X12_totalOf ci_12 ga16 wml_RX12_292 wim_X12_totalOf wse_X12_totalOf (Nat.le_of_ble_eq_true rfl) rfl ⟨Nat.le_of_ble_eq_true rfl, Nat.le_of_ble_eq_true rfl⟩ (Nat.le_of_ble_eq_true rfl) dX12_begins_70 rfl (by cases fa16; rfl) rfl ?_
    replace E := Option.bind_eq_some_iff.mp E; obtain ⟨a19, ea19, E⟩ := E
    obtain ⟨fa19, ga19⟩ := xrc_some ea19
    replace E := xb_some E; obtain ⟨v17, h18, ev17, E⟩ := E
    refine go_callV (y := yX12_sets) (n := 76) (st := []) (as := [vi s0, vi 9, vi v14]) (stk9 := []) (OX12_sets ev17) yw_X12_sets ci_12 ga19 wml_RX12_243 wim_X12_sets wse_X12_sets (Nat.le_of_ble_eq_true rfl) rfl ⟨Nat.le_of_ble_eq_true rfl, Nat.le_of_ble_eq_true rfl⟩ (Nat.le_of_ble_eq_true rfl) dX12_begins_73 rfl (by cases fa19; rfl) rfl ?_
    refine go_aload_n (j := 1) (n := 77) rfl rfl dX12_begins_76 rfl ?_
    replace E := Option.bind_eq_some_iff.mp E; obtain ⟨v20, ev20, E⟩ := E
    refine go_getP (n := 80) ev20 fl_RX12_14 rfl dX12_begins_77 rfl ?_
    refine go_iconst (z := 4) (n := 81) ⟨by decide, by decide⟩ dX12_begins_80 rfl ?_
    refine go_iload_n (j := 0) (n := 82) rfl rfl dX12_begins_81 rfl ?_
    replace E := Option.bind_eq_some_iff.mp E; obtain ⟨h21, eh21, E⟩ := E
    refine go_iastore (n := 83) eh21 dX12_begins_82 rfl ?_
    cases E
    exact go_return rfl dX12_begins_83
  · rw [if_pos c4] at E
    refine go_goto (tgt := 84) dX12_begins_41 rfl ?_
    refine go_iinc (j := 3) (n := 87) (lv' := [(2, vi (w32 (l2 + 1))), (3, vi s0), (0, vr (some l0)), (1, vi l1)]) rfl dX12_begins_84 rfl (Nat.le_of_ble_eq_true rfl) rfl ?_
    refine go_goto (tgt := 7) dX12_begins_87 rfl ?_
    refine go_pick (lv' := [(0, vr (some l0)), (1, vi l1), (2, vi (w32 (l2 + 1)))]) [2, 3, 0] rfl ?_
    exact hrc7 _ _ _ _ E
noncomputable def X12_begins_L7 (F : Nat)   (k : Nat) : Nat → Int → Int → HP → Option (Unit × HP) :=
  Nat.rec (motive := fun _ => Nat → Int → Int → HP → Option (Unit × HP)) (fun _ _ _ _ => none) (fun _ rc7 l0 l1 l2 h =>
    (xgP h (some l0) 12 31 1).bind fun v1 =>
    (xaI h v1 100 8).bind fun v2 =>
    if v2 ≤ l2 then
      some ((), h)
    else
      if l1 = 0 then
        X12_begins_L32 F rc7 l0 l1 l2 l2 h
      else
        (xgP h (some l0) 12 31 16).bind fun v5 =>
        (xaI h v5 100 l2).bind fun v6 =>
        X12_begins_L32 F rc7 l0 l1 l2 v6 h) k
theorem X12_begins_L7_s (F : Nat)   (k : Nat) (l0 : Nat) (l1 : Int) (l2 : Int)  (h : HP) : X12_begins_L7 F   (k + 1) l0 l1 l2 h =
    (xgP h (some l0) 12 31 1).bind fun v1 =>
    (xaI h v1 100 8).bind fun v2 =>
    if v2 ≤ l2 then
      some ((), h)
    else
      if l1 = 0 then
        X12_begins_L32 F (X12_begins_L7 F k) l0 l1 l2 l2 h
      else
        (xgP h (some l0) 12 31 16).bind fun v5 =>
        (xaI h v5 100 l2).bind fun v6 =>
        X12_begins_L32 F (X12_begins_L7 F k) l0 l1 l2 v6 h := rfl
set_option maxRecDepth 100000 in
theorem SX12_begins_L7 {K : Ctx} {F : Nat} {r : Unit} {hf : HP}     : ∀ (k : Nat) (l0 : Nat) (l1 : Int) (l2 : Int)  (h : HP), X12_begins_L7 F   k l0 l1 l2 h = some (r, hf) → Go K MX12_begins (QM K none hf) hf 7 [(0, vr (some l0)), (1, vi l1), (2, vi l2)] [] h := by
  intro k
  induction k with
  | zero => intro l0 l1 l2 h E; exact nomatch E
  | succ k hrc7 =>
    intro l0 l1 l2 h E
    rw [X12_begins_L7_s] at E
    refine go_iload_n (j := 2) (n := 8) rfl rfl dX12_begins_7 rfl ?_
    refine go_aload_n (j := 0) (n := 9) rfl rfl dX12_begins_8 rfl ?_
    replace E := Option.bind_eq_some_iff.mp E; obtain ⟨v1, ev1, E⟩ := E
    refine go_getP (n := 12) ev1 fl_RX12_14 rfl dX12_begins_9 rfl ?_
    refine go_bipush (z := 8) (n := 14) ⟨by decide, by decide⟩ dX12_begins_12 rfl ?_
    replace E := Option.bind_eq_some_iff.mp E; obtain ⟨v2, ev2, E⟩ := E
    refine go_iaload (n := 15) ev2 dX12_begins_14 rfl ?_
    refine go_icmp_ge (tgt := 90) (n := 18) dX12_begins_15 rfl rfl (fun c3 => ?_) (fun c3 => ?_)
    · rw [if_pos c3] at E
      cases E
      exact go_return rfl dX12_begins_90
    · rw [if_neg c3] at E
      refine go_iload_n (j := 1) (n := 19) rfl rfl dX12_begins_18 rfl ?_
      refine go_if_eq (tgt := 31) (n := 22) dX12_begins_19 rfl rfl (fun c4 => ?_) (fun c4 => ?_)
      · rw [if_pos c4] at E
        refine go_iload_n (j := 2) (n := 32) rfl rfl dX12_begins_31 rfl ?_
        exact SX12_begins_L32   _ hrc7 _ _ _ _ _ E
      · rw [if_neg c4] at E
        refine go_aload_n (j := 0) (n := 23) rfl rfl dX12_begins_22 rfl ?_
        replace E := Option.bind_eq_some_iff.mp E; obtain ⟨v5, ev5, E⟩ := E
        refine go_getP (n := 26) ev5 fl_RX12_34 rfl dX12_begins_23 rfl ?_
        refine go_iload_n (j := 2) (n := 27) rfl rfl dX12_begins_26 rfl ?_
        replace E := Option.bind_eq_some_iff.mp E; obtain ⟨v6, ev6, E⟩ := E
        refine go_iaload (n := 28) ev6 dX12_begins_27 rfl ?_
        refine go_goto (tgt := 32) dX12_begins_28 rfl ?_
        exact SX12_begins_L32   _ hrc7 _ _ _ _ _ E
noncomputable def X12_begins (F : Nat)   (l0 : Nat)  (h : HP) : Option (Unit × HP) :=
  (xrc h (some l0) 12 31).bind fun a3 =>
  xb (X12_orders F a3 h) fun v1 h2 =>
  X12_begins_L7 F F l0 v1 0 h2
set_option maxRecDepth 100000 in
theorem SX12_begins {K : Ctx} {F : Nat} {r : Unit} {hf : HP}     (l0 : Nat)  (h : HP) (E : X12_begins F   l0 h = some (r, hf)) : Go K MX12_begins (QM K none hf) hf 0 [(0, vr (some l0))] [] h := by
  unfold X12_begins at E
  refine go_aload_n (j := 0) (n := 1) rfl rfl dX12_begins_0 rfl ?_
  replace E := Option.bind_eq_some_iff.mp E; obtain ⟨a3, ea3, E⟩ := E
  obtain ⟨fa3, ga3⟩ := xrc_some ea3
  replace E := xb_some E; obtain ⟨v1, h2, ev1, E⟩ := E
  refine go_callV (y := yX12_orders) (n := 4) (st := []) (as := []) (stk9 := [vi v1]) (OX12_orders ev1) yw_X12_orders ci_12 ga3 wml_RX12_263 wim_X12_orders wse_X12_orders (Nat.le_of_ble_eq_true rfl) rfl ⟨Nat.le_of_ble_eq_true rfl, Nat.le_of_ble_eq_true rfl⟩ (Nat.le_of_ble_eq_true rfl) dX12_begins_1 rfl (by cases fa3; rfl) rfl ?_
  refine go_istore_n (n := 5) (lv' := [(1, vi v1), (0, vr (some l0))]) rfl dX12_begins_4 rfl (Nat.le_of_ble_eq_true rfl) rfl ?_
  refine go_iconst (z := 0) (n := 6) ⟨by decide, by decide⟩ dX12_begins_5 rfl ?_
  refine go_istore_n (n := 7) (lv' := [(2, vi 0), (1, vi v1), (0, vr (some l0))]) rfl dX12_begins_6 rfl (Nat.le_of_ble_eq_true rfl) rfl ?_
  refine go_pick (lv' := [(0, vr (some l0)), (1, vi v1), (2, vi 0)]) [2, 1, 0] rfl ?_
  exact SX12_begins_L7     F _ _ _ _ E
theorem OX12_begins {F : Nat} {l0 : Nat} {h hf : HP} {r : Unit} (e : X12_begins F l0 h = some (r, hf)) : Ok MX12_begins [vr (some l0)] none h hf := fun K _ _ _ => SX12_begins l0 h e
theorem wl_RX12_275 : Cond.constantLong RX12 275 (Int64.ofInt (-999999999)) ∈ BW := bw_of 2139 (by decide +kernel) rfl
theorem wl_RX12_277 : Cond.constantLong RX12 277 (Int64.ofInt 999999999) ∈ BW := bw_of 2140 (by decide +kernel) rfl
abbrev MX12_puts : MI := (RX12, cX12_puts, 9, (some .boolean), 4, none, "puts")
noncomputable def X12_puts_L93 (F : Nat)   (l1 : Int) (l5 : Int) (l6 : Int) (s0 : Int) (s1 : Int) (s2 : Int) (s3 : Option Nat) (h : HP) : Option (Int × HP) :=
  (xrc h s3 12 31).bind fun a3 =>
  xb (X12_writes F a3 s2 (xxor s1 s0) l1 l5 l6 h) fun v1 h2 =>
  some (1, h2)
set_option maxRecDepth 100000 in
theorem SX12_puts_L93 {K : Ctx} {F : Nat} {r : Int} {hf : HP}     (l1 : Int) (l5 : Int) (l6 : Int) (s0 : Int) (s1 : Int) (s2 : Int) (s3 : Option Nat) (h : HP) (E : X12_puts_L93 F   l1 l5 l6 s0 s1 s2 s3 h = some (r, hf)) : Go K MX12_puts (QM K (some (vi r)) hf) hf 93 [(1, vi l1), (5, vi l5), (6, vi l6)] [vi s0, vi s1, vi s2, vr s3] h := by
  unfold X12_puts_L93 at E
  refine go_ixor (n := 94) dX12_puts_93 rfl ?_
  refine go_iload_n (j := 0) (n := 95) rfl rfl dX12_puts_94 rfl ?_
  refine go_iload (j := 1) (n := 97) rfl dX12_puts_95 rfl ?_
  refine go_iload (j := 2) (n := 99) rfl dX12_puts_97 rfl ?_
  replace E := Option.bind_eq_some_iff.mp E; obtain ⟨a3, ea3, E⟩ := E
  obtain ⟨fa3, ga3⟩ := xrc_some ea3
  replace E := xb_some E; obtain ⟨v1, h2, ev1, E⟩ := E
  refine go_callV (y := yX12_writes) (n := 102) (st := []) (as := [vi s2, vi (xxor s1 s0), vi l1, vi l5, vi l6]) (stk9 := []) (OX12_writes ev1) yw_X12_writes ci_12 ga3 wml_RX12_86 wim_X12_writes wse_X12_writes (Nat.le_of_ble_eq_true rfl) rfl ⟨Nat.le_of_ble_eq_true rfl, Nat.le_of_ble_eq_true rfl⟩ (Nat.le_of_ble_eq_true rfl) dX12_puts_99 rfl (by cases fa3; rfl) rfl ?_
  refine go_iconst (z := 1) (n := 103) ⟨by decide, by decide⟩ dX12_puts_102 rfl ?_
  cases E
  exact go_zreturn rfl (Or.inr rfl) dX12_puts_103
noncomputable def X12_puts_L69 (F : Nat)   (l0 : Nat) (l1 : Int) (l2 : Int) (l3 : Int) (l5 : Int) (l6 : Int) (l7 : Int) (s0 : Int) (h : HP) : Option (Int × HP) :=
  if s0 = 0 then
    X12_puts_L93 F l1 l5 l6 0 (w32 l3) l2 (some l0) h
  else
    (xgP h (some l0) 12 31 1).bind fun v2 =>
    (xaI h v2 100 (w32 (l7 + 1))).bind fun v3 =>
    X12_puts_L93 F l1 l5 l6 v3 (w32 l3) l2 (some l0) h
set_option maxRecDepth 100000 in
theorem SX12_puts_L69 {K : Ctx} {F : Nat} {r : Int} {hf : HP}     (l0 : Nat) (l1 : Int) (l2 : Int) (l3 : Int) (l5 : Int) (l6 : Int) (l7 : Int) (s0 : Int) (h : HP) (E : X12_puts_L69 F   l0 l1 l2 l3 l5 l6 l7 s0 h = some (r, hf)) : Go K MX12_puts (QM K (some (vi r)) hf) hf 69 [(0, vr (some l0)), (1, vi l1), (2, vi l2), (3, vl l3), (5, vi l5), (6, vi l6), (7, vi l7)] [vi s0] h := by
  unfold X12_puts_L69 at E
  refine go_istore (n := 71) (lv' := [(8, vi s0), (0, vr (some l0)), (1, vi l1), (2, vi l2), (3, vl l3), (5, vi l5), (6, vi l6), (7, vi l7)]) dX12_puts_69 rfl (Nat.le_of_ble_eq_true rfl) rfl ?_
  refine go_aload_n (j := 1) (n := 72) rfl rfl dX12_puts_71 rfl ?_
  refine go_iload_n (j := 3) (n := 73) rfl rfl dX12_puts_72 rfl ?_
  refine go_lload_n (j := 4) (n := 74) rfl rfl dX12_puts_73 rfl ?_
  refine go_l2i (n := 75) dX12_puts_74 rfl ?_
  refine go_iload (j := 0) (n := 77) rfl dX12_puts_75 rfl ?_
  refine go_if_eq (tgt := 92) (n := 80) dX12_puts_77 rfl rfl (fun c1 => ?_) (fun c1 => ?_)
  · rw [if_pos c1] at E
    refine go_iconst (z := 0) (n := 93) ⟨by decide, by decide⟩ dX12_puts_92 rfl ?_
    refine go_pick (lv' := [(1, vi l1), (5, vi l5), (6, vi l6)]) [2, 5, 6] rfl ?_
    exact SX12_puts_L93     _ _ _ _ _ _ _ _ E
  · rw [if_neg c1] at E
    refine go_aload_n (j := 1) (n := 81) rfl rfl dX12_puts_80 rfl ?_
    replace E := Option.bind_eq_some_iff.mp E; obtain ⟨v2, ev2, E⟩ := E
    refine go_getP (n := 84) ev2 fl_RX12_14 rfl dX12_puts_81 rfl ?_
    refine go_iload (j := 7) (n := 86) rfl dX12_puts_84 rfl ?_
    refine go_iconst (z := 1) (n := 87) ⟨by decide, by decide⟩ dX12_puts_86 rfl ?_
    refine go_iadd (n := 88) dX12_puts_87 rfl ?_
    replace E := Option.bind_eq_some_iff.mp E; obtain ⟨v3, ev3, E⟩ := E
    refine go_iaload (n := 89) ev3 dX12_puts_88 rfl ?_
    refine go_goto (tgt := 93) dX12_puts_89 rfl ?_
    refine go_pick (lv' := [(1, vi l1), (5, vi l5), (6, vi l6)]) [2, 5, 6] rfl ?_
    exact SX12_puts_L93     _ _ _ _ _ _ _ _ E
noncomputable def X12_puts_L68 (F : Nat)   (l0 : Nat) (l1 : Int) (l2 : Int) (l3 : Int) (l5 : Int) (l6 : Int) (l7 : Int)  (h : HP) : Option (Int × HP) :=
  X12_puts_L69 F l0 l1 l2 l3 l5 l6 l7 0 h
set_option maxRecDepth 100000 in
theorem SX12_puts_L68 {K : Ctx} {F : Nat} {r : Int} {hf : HP}     (l0 : Nat) (l1 : Int) (l2 : Int) (l3 : Int) (l5 : Int) (l6 : Int) (l7 : Int)  (h : HP) (E : X12_puts_L68 F   l0 l1 l2 l3 l5 l6 l7 h = some (r, hf)) : Go K MX12_puts (QM K (some (vi r)) hf) hf 68 [(0, vr (some l0)), (1, vi l1), (2, vi l2), (3, vl l3), (5, vi l5), (6, vi l6), (7, vi l7)] [] h := by
  unfold X12_puts_L68 at E
  refine go_iconst (z := 0) (n := 69) ⟨by decide, by decide⟩ dX12_puts_68 rfl ?_
  exact SX12_puts_L69     _ _ _ _ _ _ _ _ _ E
noncomputable def X12_puts (F : Nat)   (l0 : Nat) (l1 : Int) (l2 : Int) (l3 : Int) (l5 : Int) (l6 : Int)  (h : HP) : Option (Int × HP) :=
  if (xcmp l3 (-999999999)) < 0 then
    some (0, h)
  else
    if (xcmp l3 999999999) ≤ 0 then
      if (l6.tmod 2) = 1 then
        (xgP h (some l0) 12 31 1).bind fun v4 =>
        (xaI h v4 100 (w32 ((w32 (137 + (w32 (2 * (l2.tmod 16))))) + 1))).bind fun v5 =>
        if v5 = 0 then
          X12_puts_L68 F l0 l1 l2 l3 l5 l6 (w32 (137 + (w32 (2 * (l2.tmod 16))))) h
        else
          (xgP h (some l0) 12 31 1).bind fun v7 =>
          (xaI h v7 100 (w32 (137 + (w32 (2 * (l2.tmod 16)))))).bind fun v8 =>
          (xrc h (some l0) 12 31).bind fun a11 =>
          xb (X12_now F a11 h) fun v9 h10 =>
          if v9 < v8 then
            X12_puts_L68 F l0 l1 l2 l3 l5 l6 (w32 (137 + (w32 (2 * (l2.tmod 16))))) h10
          else
            X12_puts_L69 F l0 l1 l2 l3 l5 l6 (w32 (137 + (w32 (2 * (l2.tmod 16))))) 1 h10
      else
        X12_puts_L68 F l0 l1 l2 l3 l5 l6 (w32 (137 + (w32 (2 * (l2.tmod 16))))) h
    else
      some (0, h)
set_option maxRecDepth 100000 in
theorem SX12_puts {K : Ctx} {F : Nat} {r : Int} {hf : HP}     (l0 : Nat) (l1 : Int) (l2 : Int) (l3 : Int) (l5 : Int) (l6 : Int)  (h : HP) (E : X12_puts F   l0 l1 l2 l3 l5 l6 h = some (r, hf)) : Go K MX12_puts (QM K (some (vi r)) hf) hf 0 [(0, vr (some l0)), (1, vi l1), (2, vi l2), (3, vl l3), (5, vi l5), (6, vi l6)] [] h := by
  unfold X12_puts at E
  refine go_lload_n (j := 3) (n := 1) rfl rfl dX12_puts_0 rfl ?_
  refine go_ldc2 (z := (-999999999)) (n := 4) ⟨by decide, by decide⟩ wl_RX12_275 dX12_puts_1 rfl ?_
  refine go_lcmp (n := 5) dX12_puts_4 rfl ?_
  refine go_if_lt (tgt := 16) (n := 8) dX12_puts_5 rfl rfl (fun c1 => ?_) (fun c1 => ?_)
  · rw [if_pos c1] at E
    refine go_iconst (z := 0) (n := 17) ⟨by decide, by decide⟩ dX12_puts_16 rfl ?_
    cases E
    exact go_zreturn rfl (Or.inl rfl) dX12_puts_17
  · rw [if_neg c1] at E
    refine go_lload_n (j := 3) (n := 9) rfl rfl dX12_puts_8 rfl ?_
    refine go_ldc2 (z := 999999999) (n := 12) ⟨by decide, by decide⟩ wl_RX12_277 dX12_puts_9 rfl ?_
    refine go_lcmp (n := 13) dX12_puts_12 rfl ?_
    refine go_if_le (tgt := 18) (n := 16) dX12_puts_13 rfl rfl (fun c2 => ?_) (fun c2 => ?_)
    · rw [if_pos c2] at E
      refine go_sipush (z := 137) (n := 21) ⟨by decide, by decide⟩ dX12_puts_18 rfl ?_
      refine go_iconst (z := 2) (n := 22) ⟨by decide, by decide⟩ dX12_puts_21 rfl ?_
      refine go_iload_n (j := 2) (n := 23) rfl rfl dX12_puts_22 rfl ?_
      refine go_bipush (z := 16) (n := 25) ⟨by decide, by decide⟩ dX12_puts_23 rfl ?_
      refine go_irem (n := 26) (by decide) dX12_puts_25 rfl ?_
      refine go_imul (n := 27) dX12_puts_26 rfl ?_
      refine go_iadd (n := 28) dX12_puts_27 rfl ?_
      refine go_istore (n := 30) (lv' := [(7, vi (w32 (137 + (w32 (2 * (l2.tmod 16)))))), (0, vr (some l0)), (1, vi l1), (2, vi l2), (3, vl l3), (5, vi l5), (6, vi l6)]) dX12_puts_28 rfl (Nat.le_of_ble_eq_true rfl) rfl ?_
      refine go_iload (j := 6) (n := 32) rfl dX12_puts_30 rfl ?_
      refine go_iconst (z := 2) (n := 33) ⟨by decide, by decide⟩ dX12_puts_32 rfl ?_
      refine go_irem (n := 34) (by decide) dX12_puts_33 rfl ?_
      refine go_iconst (z := 1) (n := 35) ⟨by decide, by decide⟩ dX12_puts_34 rfl ?_
      refine go_icmp_ne (tgt := 68) (n := 38) dX12_puts_35 rfl rfl (fun c3 => ?_) (fun c3 => ?_)
      · rw [if_neg c3] at E
        refine go_pick (lv' := [(0, vr (some l0)), (1, vi l1), (2, vi l2), (3, vl l3), (5, vi l5), (6, vi l6), (7, vi (w32 (137 + (w32 (2 * (l2.tmod 16))))))]) [1, 2, 3, 4, 5, 6, 0] rfl ?_
        exact SX12_puts_L68     _ _ _ _ _ _ _  _ E
      · rw [if_pos c3] at E
        refine go_aload_n (j := 1) (n := 39) rfl rfl dX12_puts_38 rfl ?_
        replace E := Option.bind_eq_some_iff.mp E; obtain ⟨v4, ev4, E⟩ := E
        refine go_getP (n := 42) ev4 fl_RX12_14 rfl dX12_puts_39 rfl ?_
        refine go_iload (j := 0) (n := 44) rfl dX12_puts_42 rfl ?_
        refine go_iconst (z := 1) (n := 45) ⟨by decide, by decide⟩ dX12_puts_44 rfl ?_
        refine go_iadd (n := 46) dX12_puts_45 rfl ?_
        replace E := Option.bind_eq_some_iff.mp E; obtain ⟨v5, ev5, E⟩ := E
        refine go_iaload (n := 47) ev5 dX12_puts_46 rfl ?_
        refine go_if_eq (tgt := 68) (n := 50) dX12_puts_47 rfl rfl (fun c6 => ?_) (fun c6 => ?_)
        · rw [if_pos c6] at E
          refine go_pick (lv' := [(0, vr (some l0)), (1, vi l1), (2, vi l2), (3, vl l3), (5, vi l5), (6, vi l6), (7, vi (w32 (137 + (w32 (2 * (l2.tmod 16))))))]) [1, 2, 3, 4, 5, 6, 0] rfl ?_
          exact SX12_puts_L68     _ _ _ _ _ _ _  _ E
        · rw [if_neg c6] at E
          refine go_aload_n (j := 1) (n := 51) rfl rfl dX12_puts_50 rfl ?_
          replace E := Option.bind_eq_some_iff.mp E; obtain ⟨v7, ev7, E⟩ := E
          refine go_getP (n := 54) ev7 fl_RX12_14 rfl dX12_puts_51 rfl ?_
          refine go_iload (j := 0) (n := 56) rfl dX12_puts_54 rfl ?_
          replace E := Option.bind_eq_some_iff.mp E; obtain ⟨v8, ev8, E⟩ := E
          refine go_iaload (n := 57) ev8 dX12_puts_56 rfl ?_
          refine go_aload_n (j := 1) (n := 58) rfl rfl dX12_puts_57 rfl ?_
          replace E := Option.bind_eq_some_iff.mp E; obtain ⟨a11, ea11, E⟩ := E
          obtain ⟨fa11, ga11⟩ := xrc_some ea11
          replace E := xb_some E; obtain ⟨v9, h10, ev9, E⟩ := E
          refine go_callV (y := yX12_now) (n := 61) (st := [vi v8]) (as := []) (stk9 := [vi v9, vi v8]) (OX12_now ev9) yw_X12_now ci_12 ga11 wml_RX12_83 wim_X12_now wse_X12_now (Nat.le_of_ble_eq_true rfl) rfl ⟨Nat.le_of_ble_eq_true rfl, Nat.le_of_ble_eq_true rfl⟩ (Nat.le_of_ble_eq_true rfl) dX12_puts_58 rfl (by cases fa11; rfl) rfl ?_
          refine go_icmp_gt (tgt := 68) (n := 64) dX12_puts_61 rfl rfl (fun c12 => ?_) (fun c12 => ?_)
          · rw [if_pos c12] at E
            refine go_pick (lv' := [(0, vr (some l0)), (1, vi l1), (2, vi l2), (3, vl l3), (5, vi l5), (6, vi l6), (7, vi (w32 (137 + (w32 (2 * (l2.tmod 16))))))]) [1, 2, 3, 4, 5, 6, 0] rfl ?_
            exact SX12_puts_L68     _ _ _ _ _ _ _  _ E
          · rw [if_neg c12] at E
            refine go_iconst (z := 1) (n := 65) ⟨by decide, by decide⟩ dX12_puts_64 rfl ?_
            refine go_goto (tgt := 69) dX12_puts_65 rfl ?_
            refine go_pick (lv' := [(0, vr (some l0)), (1, vi l1), (2, vi l2), (3, vl l3), (5, vi l5), (6, vi l6), (7, vi (w32 (137 + (w32 (2 * (l2.tmod 16))))))]) [1, 2, 3, 4, 5, 6, 0] rfl ?_
            exact SX12_puts_L69     _ _ _ _ _ _ _ _ _ E
    · rw [if_neg c2] at E
      refine go_iconst (z := 0) (n := 17) ⟨by decide, by decide⟩ dX12_puts_16 rfl ?_
      cases E
      exact go_zreturn rfl (Or.inl rfl) dX12_puts_17
theorem OX12_puts {F : Nat} {l0 : Nat} {l1 : Int} {l2 : Int} {l3 : Int} {l5 : Int} {l6 : Int} {h hf : HP} {r : Int} (e : X12_puts F l0 l1 l2 l3 l5 l6 h = some (r, hf)) : Ok MX12_puts [vr (some l0), vi l1, vi l2, vl l3, vi l5, vi l6] (some (vi r)) h hf := fun K _ _ _ => SX12_puts l0 l1 l2 l3 l5 l6 h e
theorem yw_X12_puts : YW yX12_puts cX12_puts 9 (some .boolean) 5 := ⟨bw_of 2138 (by decide +kernel) rfl, bw_of 129 (by decide +kernel) rfl, ⟨by decide +kernel, by decide +kernel, by decide +kernel⟩, by decide +kernel⟩
theorem wml_RX12_282 : Cond.methodLink RX12 282 yX12_puts ∈ BW := bw_of 2135 (by decide +kernel) rfl
theorem wim_X12_puts : Cond.instanceMethod yX12_puts ∈ BW := bw_of 2137 (by decide +kernel) rfl
theorem wse_X12_puts : Cond.selects RX12 yX12_puts yX12_puts ∈ BW := bw_of 96 (by decide +kernel) rfl
abbrev MX12_goesShort : MI := (RX12, cX12_goesShort, 4, (some .boolean), 5, none, "goesShort")
noncomputable def X12_goesShort_L61 (F : Nat)  (rc7 : Nat → Int → Int → Int → HP → Option (Int × HP)) (l0 : Nat) (l1 : Int) (l2 : Int) (l3 : Int)  (h : HP) : Option (Int × HP) :=
  rc7 l0 l1 l2 (w32 (l3 + 1)) h
set_option maxRecDepth 100000 in
theorem SX12_goesShort_L61 {K : Ctx} {F : Nat} {r : Int} {hf : HP}   (rc7 : Nat → Int → Int → Int → HP → Option (Int × HP)) (hrc7 : ∀ l0 l1 l2 l3 h, rc7 l0 l1 l2 l3 h = some (r, hf) → Go K MX12_goesShort (QM K (some (vi r)) hf) hf 7 [(0, vr (some l0)), (1, vi l1), (2, vi l2), (3, vi l3)] [] h) (l0 : Nat) (l1 : Int) (l2 : Int) (l3 : Int)  (h : HP) (E : X12_goesShort_L61 F  rc7 l0 l1 l2 l3 h = some (r, hf)) : Go K MX12_goesShort (QM K (some (vi r)) hf) hf 61 [(0, vr (some l0)), (1, vi l1), (2, vi l2), (3, vi l3)] [] h := by
  unfold X12_goesShort_L61 at E
  refine go_iinc (j := 3) (n := 64) (lv' := [(3, vi (w32 (l3 + 1))), (0, vr (some l0)), (1, vi l1), (2, vi l2)]) rfl dX12_goesShort_61 rfl (Nat.le_of_ble_eq_true rfl) rfl ?_
  refine go_goto (tgt := 7) dX12_goesShort_64 rfl ?_
  refine go_pick (lv' := [(0, vr (some l0)), (1, vi l1), (2, vi l2), (3, vi (w32 (l3 + 1)))]) [1, 2, 3, 0] rfl ?_
  exact hrc7 _ _ _ _ _ E
noncomputable def X12_goesShort_L7 (F : Nat)   (k : Nat) : Nat → Int → Int → Int → HP → Option (Int × HP) :=
  Nat.rec (motive := fun _ => Nat → Int → Int → Int → HP → Option (Int × HP)) (fun _ _ _ _ _ => none) (fun _ rc7 l0 l1 l2 l3 h =>
    if 64 ≤ l3 then
      some (1, h)
    else
      (xrc h (some l0) 12 31).bind fun a4 =>
      xb (X12_bitsOf F a4 l1 19 h) fun v2 h3 =>
      if (xcmp (yand (yshr v2 l3) 1) 1) = 0 then
        (xgP h3 (some l0) 12 31 1).bind fun v6 =>
        (xaI h3 v6 100 (w32 (73 + l3))).bind fun v7 =>
        (xrc h3 (some l0) 12 31).bind fun a10 =>
        xb (X12_its F a10 l1 7 h3) fun v8 h9 =>
        (xrc h9 (some l0) 12 31).bind fun a13 =>
        xb (X12_puts F a13 l1 l3 (w64 (v7 + v8)) l2 1 h9) fun v11 h12 =>
        if v11 = 0 then
          some (0, h12)
        else
          X12_goesShort_L61 F rc7 l0 l1 l2 l3 h12
      else
        X12_goesShort_L61 F rc7 l0 l1 l2 l3 h3) k
theorem X12_goesShort_L7_s (F : Nat)   (k : Nat) (l0 : Nat) (l1 : Int) (l2 : Int) (l3 : Int)  (h : HP) : X12_goesShort_L7 F   (k + 1) l0 l1 l2 l3 h =
    if 64 ≤ l3 then
      some (1, h)
    else
      (xrc h (some l0) 12 31).bind fun a4 =>
      xb (X12_bitsOf F a4 l1 19 h) fun v2 h3 =>
      if (xcmp (yand (yshr v2 l3) 1) 1) = 0 then
        (xgP h3 (some l0) 12 31 1).bind fun v6 =>
        (xaI h3 v6 100 (w32 (73 + l3))).bind fun v7 =>
        (xrc h3 (some l0) 12 31).bind fun a10 =>
        xb (X12_its F a10 l1 7 h3) fun v8 h9 =>
        (xrc h9 (some l0) 12 31).bind fun a13 =>
        xb (X12_puts F a13 l1 l3 (w64 (v7 + v8)) l2 1 h9) fun v11 h12 =>
        if v11 = 0 then
          some (0, h12)
        else
          X12_goesShort_L61 F (X12_goesShort_L7 F k) l0 l1 l2 l3 h12
      else
        X12_goesShort_L61 F (X12_goesShort_L7 F k) l0 l1 l2 l3 h3 := rfl
set_option maxRecDepth 100000 in
theorem SX12_goesShort_L7 {K : Ctx} {F : Nat} {r : Int} {hf : HP}     : ∀ (k : Nat) (l0 : Nat) (l1 : Int) (l2 : Int) (l3 : Int)  (h : HP), X12_goesShort_L7 F   k l0 l1 l2 l3 h = some (r, hf) → Go K MX12_goesShort (QM K (some (vi r)) hf) hf 7 [(0, vr (some l0)), (1, vi l1), (2, vi l2), (3, vi l3)] [] h := by
  intro k
  induction k with
  | zero => intro l0 l1 l2 l3 h E; exact nomatch E
  | succ k hrc7 =>
    intro l0 l1 l2 l3 h E
    rw [X12_goesShort_L7_s] at E
    refine go_iload_n (j := 3) (n := 8) rfl rfl dX12_goesShort_7 rfl ?_
    refine go_bipush (z := 64) (n := 10) ⟨by decide, by decide⟩ dX12_goesShort_8 rfl ?_
    refine go_icmp_ge (tgt := 67) (n := 13) dX12_goesShort_10 rfl rfl (fun c1 => ?_) (fun c1 => ?_)
    · rw [if_pos c1] at E
      refine go_iconst (z := 1) (n := 68) ⟨by decide, by decide⟩ dX12_goesShort_67 rfl ?_
      cases E
      exact go_zreturn rfl (Or.inr rfl) dX12_goesShort_68
    · rw [if_neg c1] at E
      refine go_aload_n (j := 0) (n := 14) rfl rfl dX12_goesShort_13 rfl ?_
      refine go_iload_n (j := 1) (n := 15) rfl rfl dX12_goesShort_14 rfl ?_
      refine go_bipush (z := 19) (n := 17) ⟨by decide, by decide⟩ dX12_goesShort_15 rfl ?_
      replace E := Option.bind_eq_some_iff.mp E; obtain ⟨a4, ea4, E⟩ := E
      obtain ⟨fa4, ga4⟩ := xrc_some ea4
      replace E := xb_some E; obtain ⟨v2, h3, ev2, E⟩ := E
      refine go_callV (y := yX12_bitsOf) (n := 20) (st := []) (as := [vi l1, vi 19]) (stk9 := [vl v2]) (OX12_bitsOf ev2) yw_X12_bitsOf ci_12 ga4 wml_RX12_255 wim_X12_bitsOf wse_X12_bitsOf (Nat.le_of_ble_eq_true rfl) rfl ⟨Nat.le_of_ble_eq_true rfl, Nat.le_of_ble_eq_true rfl⟩ (Nat.le_of_ble_eq_true rfl) dX12_goesShort_17 rfl (by cases fa4; rfl) rfl ?_
      refine go_iload_n (j := 3) (n := 21) rfl rfl dX12_goesShort_20 rfl ?_
      refine go_lshr (n := 22) dX12_goesShort_21 rfl ?_
      refine go_lconst (w := 1) (n := 23) rfl dX12_goesShort_22 rfl ?_
      refine go_land (n := 24) dX12_goesShort_23 rfl ?_
      refine go_lconst (w := 1) (n := 25) rfl dX12_goesShort_24 rfl ?_
      refine go_lcmp (n := 26) dX12_goesShort_25 rfl ?_
      refine go_if_ne (tgt := 61) (n := 29) dX12_goesShort_26 rfl rfl (fun c5 => ?_) (fun c5 => ?_)
      · rw [if_neg c5] at E
        exact SX12_goesShort_L61   _ hrc7 _ _ _ _  _ E
      · rw [if_pos c5] at E
        refine go_aload_n (j := 0) (n := 30) rfl rfl dX12_goesShort_29 rfl ?_
        refine go_iload_n (j := 1) (n := 31) rfl rfl dX12_goesShort_30 rfl ?_
        refine go_iload_n (j := 3) (n := 32) rfl rfl dX12_goesShort_31 rfl ?_
        refine go_aload_n (j := 0) (n := 33) rfl rfl dX12_goesShort_32 rfl ?_
        replace E := Option.bind_eq_some_iff.mp E; obtain ⟨v6, ev6, E⟩ := E
        refine go_getP (n := 36) ev6 fl_RX12_14 rfl dX12_goesShort_33 rfl ?_
        refine go_bipush (z := 73) (n := 38) ⟨by decide, by decide⟩ dX12_goesShort_36 rfl ?_
        refine go_iload_n (j := 3) (n := 39) rfl rfl dX12_goesShort_38 rfl ?_
        refine go_iadd (n := 40) dX12_goesShort_39 rfl ?_
        replace E := Option.bind_eq_some_iff.mp E; obtain ⟨v7, ev7, E⟩ := E
        refine go_iaload (n := 41) ev7 dX12_goesShort_40 rfl ?_
        refine go_i2l (n := 42) dX12_goesShort_41 rfl ?_
        refine go_aload_n (j := 0) (n := 43) rfl rfl dX12_goesShort_42 rfl ?_
        refine go_iload_n (j := 1) (n := 44) rfl rfl dX12_goesShort_43 rfl ?_
        refine go_bipush (z := 7) (n := 46) ⟨by decide, by decide⟩ dX12_goesShort_44 rfl ?_
        replace E := Option.bind_eq_some_iff.mp E; obtain ⟨a10, ea10, E⟩ := E
        obtain ⟨fa10, ga10⟩ := xrc_some ea10
        replace E := xb_some E; obtain ⟨v8, h9, ev8, E⟩ := E
        refine go_callV (y := yX12_its) (n := 49) (st := [vl v7, vi l3, vi l1, vr (some l0)]) (as := [vi l1, vi 7]) (stk9 := [vi v8, vl v7, vi l3, vi l1, vr (some l0)]) (OX12_its ev8) yw_X12_its ci_12 ga10 wml_RX12_250 wim_X12_its wse_X12_its (Nat.le_of_ble_eq_true rfl) rfl ⟨Nat.le_of_ble_eq_true rfl, Nat.le_of_ble_eq_true rfl⟩ (Nat.le_of_ble_eq_true rfl) dX12_goesShort_46 rfl (by cases fa10; rfl) rfl ?_
        refine go_i2l (n := 50) dX12_goesShort_49 rfl ?_
        refine go_ladd (n := 51) dX12_goesShort_50 rfl ?_
        refine go_iload_n (j := 2) (n := 52) rfl rfl dX12_goesShort_51 rfl ?_
        refine go_iconst (z := 1) (n := 53) ⟨by decide, by decide⟩ dX12_goesShort_52 rfl ?_
        replace E := Option.bind_eq_some_iff.mp E; obtain ⟨a13, ea13, E⟩ := E
        obtain ⟨fa13, ga13⟩ := xrc_some ea13
        replace E := xb_some E; obtain ⟨v11, h12, ev11, E⟩ := E
        refine go_callV (y := yX12_puts) (n := 56) (st := []) (as := [vi l1, vi l3, vl (w64 (v7 + v8)), vi l2, vi 1]) (stk9 := [vi v11]) (OX12_puts ev11) yw_X12_puts ci_12 ga13 wml_RX12_282 wim_X12_puts wse_X12_puts (Nat.le_of_ble_eq_true rfl) rfl ⟨Nat.le_of_ble_eq_true rfl, Nat.le_of_ble_eq_true rfl⟩ (Nat.le_of_ble_eq_true rfl) dX12_goesShort_53 rfl (by cases fa13; rfl) rfl ?_
        refine go_if_ne (tgt := 61) (n := 59) dX12_goesShort_56 rfl rfl (fun c14 => ?_) (fun c14 => ?_)
        · rw [if_neg c14] at E
          exact SX12_goesShort_L61   _ hrc7 _ _ _ _  _ E
        · rw [if_pos c14] at E
          refine go_iconst (z := 0) (n := 60) ⟨by decide, by decide⟩ dX12_goesShort_59 rfl ?_
          cases E
          exact go_zreturn rfl (Or.inl rfl) dX12_goesShort_60
noncomputable def X12_goesShort (F : Nat)   (l0 : Nat) (l1 : Int)  (h : HP) : Option (Int × HP) :=
  (xrc h (some l0) 12 31).bind fun a3 =>
  xb (X12_writings F a3 h) fun v1 h2 =>
  X12_goesShort_L7 F F l0 l1 v1 0 h2
set_option maxRecDepth 100000 in
theorem SX12_goesShort {K : Ctx} {F : Nat} {r : Int} {hf : HP}     (l0 : Nat) (l1 : Int)  (h : HP) (E : X12_goesShort F   l0 l1 h = some (r, hf)) : Go K MX12_goesShort (QM K (some (vi r)) hf) hf 0 [(0, vr (some l0)), (1, vi l1)] [] h := by
  unfold X12_goesShort at E
  refine go_aload_n (j := 0) (n := 1) rfl rfl dX12_goesShort_0 rfl ?_
  replace E := Option.bind_eq_some_iff.mp E; obtain ⟨a3, ea3, E⟩ := E
  obtain ⟨fa3, ga3⟩ := xrc_some ea3
  replace E := xb_some E; obtain ⟨v1, h2, ev1, E⟩ := E
  refine go_callV (y := yX12_writings) (n := 4) (st := []) (as := []) (stk9 := [vi v1]) (OX12_writings ev1) yw_X12_writings ci_12 ga3 wml_RX12_79 wim_X12_writings wse_X12_writings (Nat.le_of_ble_eq_true rfl) rfl ⟨Nat.le_of_ble_eq_true rfl, Nat.le_of_ble_eq_true rfl⟩ (Nat.le_of_ble_eq_true rfl) dX12_goesShort_1 rfl (by cases fa3; rfl) rfl ?_
  refine go_istore_n (n := 5) (lv' := [(2, vi v1), (0, vr (some l0)), (1, vi l1)]) rfl dX12_goesShort_4 rfl (Nat.le_of_ble_eq_true rfl) rfl ?_
  refine go_iconst (z := 0) (n := 6) ⟨by decide, by decide⟩ dX12_goesShort_5 rfl ?_
  refine go_istore_n (n := 7) (lv' := [(3, vi 0), (2, vi v1), (0, vr (some l0)), (1, vi l1)]) rfl dX12_goesShort_6 rfl (Nat.le_of_ble_eq_true rfl) rfl ?_
  refine go_pick (lv' := [(0, vr (some l0)), (1, vi l1), (2, vi v1), (3, vi 0)]) [2, 3, 1, 0] rfl ?_
  exact SX12_goesShort_L7     F _ _ _ _ _ E
theorem OX12_goesShort {F : Nat} {l0 : Nat} {l1 : Int} {h hf : HP} {r : Int} (e : X12_goesShort F l0 l1 h = some (r, hf)) : Ok MX12_goesShort [vr (some l0), vi l1] (some (vi r)) h hf := fun K _ _ _ => SX12_goesShort l0 l1 h e
abbrev MX12_ends : MI := (RX12, cX12_ends, 4, none, 4, none, "ends")
noncomputable def X12_ends_L72 (F : Nat)    (s0 : Int) (s1 : Int) (s2 : Int) (s3 : Int) (s4 : Option Nat) (h : HP) : Option (Unit × HP) :=
  (xrc h s4 12 31).bind fun a3 =>
  xb (X12_sets F a3 s3 s2 (w32 (s1 + s0)) h) fun v1 h2 =>
  some ((), h2)
set_option maxRecDepth 100000 in
theorem SX12_ends_L72 {K : Ctx} {F : Nat} {r : Unit} {hf : HP}      (s0 : Int) (s1 : Int) (s2 : Int) (s3 : Int) (s4 : Option Nat) (h : HP) (E : X12_ends_L72 F   s0 s1 s2 s3 s4 h = some (r, hf)) : Go K MX12_ends (QM K none hf) hf 72 [] [vi s0, vi s1, vi s2, vi s3, vr s4] h := by
  unfold X12_ends_L72 at E
  refine go_iadd (n := 73) dX12_ends_72 rfl ?_
  replace E := Option.bind_eq_some_iff.mp E; obtain ⟨a3, ea3, E⟩ := E
  obtain ⟨fa3, ga3⟩ := xrc_some ea3
  replace E := xb_some E; obtain ⟨v1, h2, ev1, E⟩ := E
  refine go_callV (y := yX12_sets) (n := 76) (st := []) (as := [vi s3, vi s2, vi (w32 (s1 + s0))]) (stk9 := []) (OX12_sets ev1) yw_X12_sets ci_12 ga3 wml_RX12_243 wim_X12_sets wse_X12_sets (Nat.le_of_ble_eq_true rfl) rfl ⟨Nat.le_of_ble_eq_true rfl, Nat.le_of_ble_eq_true rfl⟩ (Nat.le_of_ble_eq_true rfl) dX12_ends_73 rfl (by cases fa3; rfl) rfl ?_
  cases E
  exact go_return rfl dX12_ends_76
noncomputable def X12_ends_L14 (F : Nat)   (l0 : Nat) (l1 : Int) (l2 : Int) (s0 : Int) (s1 : Int) (s2 : Int) (s3 : Option Nat) (h : HP) : Option (Unit × HP) :=
  (xrc h s3 12 31).bind fun a3 =>
  xb (X12_sets F a3 s2 s1 s0 h) fun v1 h2 =>
  (xrc h2 (some l0) 12 31).bind fun a6 =>
  xb (X12_sets F a6 l1 9 0 h2) fun v4 h5 =>
  (xrc h5 (some l0) 12 31).bind fun a9 =>
  xb (X12_now F a9 h5) fun v7 h8 =>
  (xrc h8 (some l0) 12 31).bind fun a12 =>
  xb (X12_sets F a12 l1 12 v7 h8) fun v10 h11 =>
  (xrc h11 (some l0) 12 31).bind fun a15 =>
  xb (X12_its F a15 l1 13 h11) fun v13 h14 =>
  (xrc h14 (some l0) 12 31).bind fun a18 =>
  xb (X12_sets F a18 l1 13 (w32 (v13 + 1)) h14) fun v16 h17 =>
  (xrc h17 (some l0) 12 31).bind fun a21 =>
  xb (X12_its F a21 l1 14 h17) fun v19 h20 =>
  X12_ends_L72 F (if l2 = 0 then 1 else 0) v19 14 l1 (some l0) h20
set_option maxRecDepth 100000 in
theorem SX12_ends_L14 {K : Ctx} {F : Nat} {r : Unit} {hf : HP}     (l0 : Nat) (l1 : Int) (l2 : Int) (s0 : Int) (s1 : Int) (s2 : Int) (s3 : Option Nat) (h : HP) (E : X12_ends_L14 F   l0 l1 l2 s0 s1 s2 s3 h = some (r, hf)) : Go K MX12_ends (QM K none hf) hf 14 [(0, vr (some l0)), (1, vi l1), (2, vi l2)] [vi s0, vi s1, vi s2, vr s3] h := by
  unfold X12_ends_L14 at E
  replace E := Option.bind_eq_some_iff.mp E; obtain ⟨a3, ea3, E⟩ := E
  obtain ⟨fa3, ga3⟩ := xrc_some ea3
  replace E := xb_some E; obtain ⟨v1, h2, ev1, E⟩ := E
  refine go_callV (y := yX12_sets) (n := 17) (st := []) (as := [vi s2, vi s1, vi s0]) (stk9 := []) (OX12_sets ev1) yw_X12_sets ci_12 ga3 wml_RX12_243 wim_X12_sets wse_X12_sets (Nat.le_of_ble_eq_true rfl) rfl ⟨Nat.le_of_ble_eq_true rfl, Nat.le_of_ble_eq_true rfl⟩ (Nat.le_of_ble_eq_true rfl) dX12_ends_14 rfl (by cases fa3; rfl) rfl ?_
  refine go_aload_n (j := 0) (n := 18) rfl rfl dX12_ends_17 rfl ?_
  refine go_iload_n (j := 1) (n := 19) rfl rfl dX12_ends_18 rfl ?_
  refine go_bipush (z := 9) (n := 21) ⟨by decide, by decide⟩ dX12_ends_19 rfl ?_
  refine go_iconst (z := 0) (n := 22) ⟨by decide, by decide⟩ dX12_ends_21 rfl ?_
  replace E := Option.bind_eq_some_iff.mp E; obtain ⟨a6, ea6, E⟩ := E
  obtain ⟨fa6, ga6⟩ := xrc_some ea6
  replace E := xb_some E; obtain ⟨v4, h5, ev4, E⟩ := E
  refine go_callV (y := yX12_sets) (n := 25) (st := []) (as := [vi l1, vi 9, vi 0]) (stk9 := []) (OX12_sets ev4) yw_X12_sets ci_12 ga6 wml_RX12_243 wim_X12_sets wse_X12_sets (Nat.le_of_ble_eq_true rfl) rfl ⟨Nat.le_of_ble_eq_true rfl, Nat.le_of_ble_eq_true rfl⟩ (Nat.le_of_ble_eq_true rfl) dX12_ends_22 rfl (by cases fa6; rfl) rfl ?_
  refine go_aload_n (j := 0) (n := 26) rfl rfl dX12_ends_25 rfl ?_
  refine go_iload_n (j := 1) (n := 27) rfl rfl dX12_ends_26 rfl ?_
  refine go_bipush (z := 12) (n := 29) ⟨by decide, by decide⟩ dX12_ends_27 rfl ?_
  refine go_aload_n (j := 0) (n := 30) rfl rfl dX12_ends_29 rfl ?_
  replace E := Option.bind_eq_some_iff.mp E; obtain ⟨a9, ea9, E⟩ := E
  obtain ⟨fa9, ga9⟩ := xrc_some ea9
  replace E := xb_some E; obtain ⟨v7, h8, ev7, E⟩ := E
  refine go_callV (y := yX12_now) (n := 33) (st := [vi 12, vi l1, vr (some l0)]) (as := []) (stk9 := [vi v7, vi 12, vi l1, vr (some l0)]) (OX12_now ev7) yw_X12_now ci_12 ga9 wml_RX12_83 wim_X12_now wse_X12_now (Nat.le_of_ble_eq_true rfl) rfl ⟨Nat.le_of_ble_eq_true rfl, Nat.le_of_ble_eq_true rfl⟩ (Nat.le_of_ble_eq_true rfl) dX12_ends_30 rfl (by cases fa9; rfl) rfl ?_
  replace E := Option.bind_eq_some_iff.mp E; obtain ⟨a12, ea12, E⟩ := E
  obtain ⟨fa12, ga12⟩ := xrc_some ea12
  replace E := xb_some E; obtain ⟨v10, h11, ev10, E⟩ := E
  refine go_callV (y := yX12_sets) (n := 36) (st := []) (as := [vi l1, vi 12, vi v7]) (stk9 := []) (OX12_sets ev10) yw_X12_sets ci_12 ga12 wml_RX12_243 wim_X12_sets wse_X12_sets (Nat.le_of_ble_eq_true rfl) rfl ⟨Nat.le_of_ble_eq_true rfl, Nat.le_of_ble_eq_true rfl⟩ (Nat.le_of_ble_eq_true rfl) dX12_ends_33 rfl (by cases fa12; rfl) rfl ?_
  refine go_aload_n (j := 0) (n := 37) rfl rfl dX12_ends_36 rfl ?_
  refine go_iload_n (j := 1) (n := 38) rfl rfl dX12_ends_37 rfl ?_
  refine go_bipush (z := 13) (n := 40) ⟨by decide, by decide⟩ dX12_ends_38 rfl ?_
  refine go_aload_n (j := 0) (n := 41) rfl rfl dX12_ends_40 rfl ?_
  refine go_iload_n (j := 1) (n := 42) rfl rfl dX12_ends_41 rfl ?_
  refine go_bipush (z := 13) (n := 44) ⟨by decide, by decide⟩ dX12_ends_42 rfl ?_
  replace E := Option.bind_eq_some_iff.mp E; obtain ⟨a15, ea15, E⟩ := E
  obtain ⟨fa15, ga15⟩ := xrc_some ea15
  replace E := xb_some E; obtain ⟨v13, h14, ev13, E⟩ := E
  refine go_callV (y := yX12_its) (n := 47) (st := [vi 13, vi l1, vr (some l0)]) (as := [vi l1, vi 13]) (stk9 := [vi v13, vi 13, vi l1, vr (some l0)]) (OX12_its ev13) yw_X12_its ci_12 ga15 wml_RX12_250 wim_X12_its wse_X12_its (Nat.le_of_ble_eq_true rfl) rfl ⟨Nat.le_of_ble_eq_true rfl, Nat.le_of_ble_eq_true rfl⟩ (Nat.le_of_ble_eq_true rfl) dX12_ends_44 rfl (by cases fa15; rfl) rfl ?_
  refine go_iconst (z := 1) (n := 48) ⟨by decide, by decide⟩ dX12_ends_47 rfl ?_
  refine go_iadd (n := 49) dX12_ends_48 rfl ?_
  replace E := Option.bind_eq_some_iff.mp E; obtain ⟨a18, ea18, E⟩ := E
  obtain ⟨fa18, ga18⟩ := xrc_some ea18
  replace E := xb_some E; obtain ⟨v16, h17, ev16, E⟩ := E
  refine go_callV (y := yX12_sets) (n := 52) (st := []) (as := [vi l1, vi 13, vi (w32 (v13 + 1))]) (stk9 := []) (OX12_sets ev16) yw_X12_sets ci_12 ga18 wml_RX12_243 wim_X12_sets wse_X12_sets (Nat.le_of_ble_eq_true rfl) rfl ⟨Nat.le_of_ble_eq_true rfl, Nat.le_of_ble_eq_true rfl⟩ (Nat.le_of_ble_eq_true rfl) dX12_ends_49 rfl (by cases fa18; rfl) rfl ?_
  refine go_aload_n (j := 0) (n := 53) rfl rfl dX12_ends_52 rfl ?_
  refine go_iload_n (j := 1) (n := 54) rfl rfl dX12_ends_53 rfl ?_
  refine go_bipush (z := 14) (n := 56) ⟨by decide, by decide⟩ dX12_ends_54 rfl ?_
  refine go_aload_n (j := 0) (n := 57) rfl rfl dX12_ends_56 rfl ?_
  refine go_iload_n (j := 1) (n := 58) rfl rfl dX12_ends_57 rfl ?_
  refine go_bipush (z := 14) (n := 60) ⟨by decide, by decide⟩ dX12_ends_58 rfl ?_
  replace E := Option.bind_eq_some_iff.mp E; obtain ⟨a21, ea21, E⟩ := E
  obtain ⟨fa21, ga21⟩ := xrc_some ea21
  replace E := xb_some E; obtain ⟨v19, h20, ev19, E⟩ := E
  refine go_callV (y := yX12_its) (n := 63) (st := [vi 14, vi l1, vr (some l0)]) (as := [vi l1, vi 14]) (stk9 := [vi v19, vi 14, vi l1, vr (some l0)]) (OX12_its ev19) yw_X12_its ci_12 ga21 wml_RX12_250 wim_X12_its wse_X12_its (Nat.le_of_ble_eq_true rfl) rfl ⟨Nat.le_of_ble_eq_true rfl, Nat.le_of_ble_eq_true rfl⟩ (Nat.le_of_ble_eq_true rfl) dX12_ends_60 rfl (by cases fa21; rfl) rfl ?_
  refine go_iload_n (j := 2) (n := 64) rfl rfl dX12_ends_63 rfl ?_
  refine go_if_eq (tgt := 71) (n := 67) dX12_ends_64 rfl rfl (fun c22 => ?_) (fun c22 => ?_)
  · simp only [if_pos c22] at E
    refine go_iconst (z := 1) (n := 72) ⟨by decide, by decide⟩ dX12_ends_71 rfl ?_
    refine go_pick (lv' := []) [] rfl ?_
    exact SX12_ends_L72      _ _ _ _ _ _ E
  · simp only [if_neg c22] at E
    refine go_iconst (z := 0) (n := 68) ⟨by decide, by decide⟩ dX12_ends_67 rfl ?_
    refine go_goto (tgt := 72) dX12_ends_68 rfl ?_
    refine go_pick (lv' := []) [] rfl ?_
    exact SX12_ends_L72      _ _ _ _ _ _ E
noncomputable def X12_ends (F : Nat)   (l0 : Nat) (l1 : Int) (l2 : Int) (l3 : Int)  (h : HP) : Option (Unit × HP) :=
  X12_ends_L14 F l0 l1 l2 (if l2 = 0 then 6 else l3) 8 l1 (some l0) h
set_option maxRecDepth 100000 in
theorem SX12_ends {K : Ctx} {F : Nat} {r : Unit} {hf : HP}     (l0 : Nat) (l1 : Int) (l2 : Int) (l3 : Int)  (h : HP) (E : X12_ends F   l0 l1 l2 l3 h = some (r, hf)) : Go K MX12_ends (QM K none hf) hf 0 [(0, vr (some l0)), (1, vi l1), (2, vi l2), (3, vi l3)] [] h := by
  unfold X12_ends at E
  refine go_aload_n (j := 0) (n := 1) rfl rfl dX12_ends_0 rfl ?_
  refine go_iload_n (j := 1) (n := 2) rfl rfl dX12_ends_1 rfl ?_
  refine go_bipush (z := 8) (n := 4) ⟨by decide, by decide⟩ dX12_ends_2 rfl ?_
  refine go_iload_n (j := 2) (n := 5) rfl rfl dX12_ends_4 rfl ?_
  refine go_if_eq (tgt := 12) (n := 8) dX12_ends_5 rfl rfl (fun c1 => ?_) (fun c1 => ?_)
  · simp only [if_pos c1] at E
    refine go_bipush (z := 6) (n := 14) ⟨by decide, by decide⟩ dX12_ends_12 rfl ?_
    refine go_pick (lv' := [(0, vr (some l0)), (1, vi l1), (2, vi l2)]) [0, 1, 2] rfl ?_
    exact SX12_ends_L14     _ _ _ _ _ _ _ _ E
  · simp only [if_neg c1] at E
    refine go_iload_n (j := 3) (n := 9) rfl rfl dX12_ends_8 rfl ?_
    refine go_goto (tgt := 14) dX12_ends_9 rfl ?_
    refine go_pick (lv' := [(0, vr (some l0)), (1, vi l1), (2, vi l2)]) [0, 1, 2] rfl ?_
    exact SX12_ends_L14     _ _ _ _ _ _ _ _ E
theorem OX12_ends {F : Nat} {l0 : Nat} {l1 : Int} {l2 : Int} {l3 : Int} {h hf : HP} {r : Unit} (e : X12_ends F l0 l1 l2 l3 h = some (r, hf)) : Ok MX12_ends [vr (some l0), vi l1, vi l2, vi l3] none h hf := fun K _ _ _ => SX12_ends l0 l1 l2 l3 h e
theorem fl_RX12_37 : FL RX12 37 12 31 17 true := ⟨RX12, TX12, ci_12, by decide, bw_of 1770 (by decide +kernel) rfl, rfl, rfl⟩
theorem wml_RX12_266 : Cond.methodLink RX12 266 Lib.MathLoose.max_long.x ∈ BW := bw_of 2153 (by decide +kernel) rfl
abbrev MX12_worked : MI := (RX12, cX12_worked, 11, (some .long), 4, none, "worked")
noncomputable def X12_worked_L325 (F : Nat)  (rc12 : Nat → Int → Int → Int → Int → HP → Option (Int × HP)) (l0 : Nat) (l1 : Int) (l2 : Int) (l3 : Int) (l4 : Int)  (h : HP) : Option (Int × HP) :=
  rc12 l0 l1 l2 l3 (w32 (l4 + 1)) h
set_option maxRecDepth 100000 in
theorem SX12_worked_L325 {K : Ctx} {F : Nat} {r : Int} {hf : HP}   (rc12 : Nat → Int → Int → Int → Int → HP → Option (Int × HP)) (hrc12 : ∀ l0 l1 l2 l3 l4 h, rc12 l0 l1 l2 l3 l4 h = some (r, hf) → Go K MX12_worked (QM K (some (vl r)) hf) hf 12 [(0, vr (some l0)), (1, vi l1), (2, vi l2), (3, vi l3), (4, vi l4)] [] h) (l0 : Nat) (l1 : Int) (l2 : Int) (l3 : Int) (l4 : Int)  (h : HP) (E : X12_worked_L325 F  rc12 l0 l1 l2 l3 l4 h = some (r, hf)) : Go K MX12_worked (QM K (some (vl r)) hf) hf 325 [(0, vr (some l0)), (1, vi l1), (2, vi l2), (3, vi l3), (4, vi l4)] [] h := by
  unfold X12_worked_L325 at E
  refine go_iinc (j := 4) (n := 328) (lv' := [(4, vi (w32 (l4 + 1))), (0, vr (some l0)), (1, vi l1), (2, vi l2), (3, vi l3)]) rfl dX12_worked_325 rfl (Nat.le_of_ble_eq_true rfl) rfl ?_
  refine go_goto (tgt := 12) dX12_worked_328 rfl ?_
  refine go_pick (lv' := [(0, vr (some l0)), (1, vi l1), (2, vi l2), (3, vi l3), (4, vi (w32 (l4 + 1)))]) [1, 2, 3, 4, 0] rfl ?_
  exact hrc12 _ _ _ _ _ _ E
noncomputable def X12_worked_L324 (F : Nat)  (rc12 : Nat → Int → Int → Int → Int → HP → Option (Int × HP)) (l0 : Nat) (l1 : Int) (l2 : Int) (l3 : Int) (l4 : Int) (s0 : Int) (s1 : Int) (s2 : Option Nat) (h : HP) : Option (Int × HP) :=
  (xsJ h s2 s1 s0).bind fun h1 =>
  X12_worked_L325 F rc12 l0 l1 l2 l3 l4 h1
set_option maxRecDepth 100000 in
theorem SX12_worked_L324 {K : Ctx} {F : Nat} {r : Int} {hf : HP}   (rc12 : Nat → Int → Int → Int → Int → HP → Option (Int × HP)) (hrc12 : ∀ l0 l1 l2 l3 l4 h, rc12 l0 l1 l2 l3 l4 h = some (r, hf) → Go K MX12_worked (QM K (some (vl r)) hf) hf 12 [(0, vr (some l0)), (1, vi l1), (2, vi l2), (3, vi l3), (4, vi l4)] [] h) (l0 : Nat) (l1 : Int) (l2 : Int) (l3 : Int) (l4 : Int) (s0 : Int) (s1 : Int) (s2 : Option Nat) (h : HP) (E : X12_worked_L324 F  rc12 l0 l1 l2 l3 l4 s0 s1 s2 h = some (r, hf)) : Go K MX12_worked (QM K (some (vl r)) hf) hf 324 [(0, vr (some l0)), (1, vi l1), (2, vi l2), (3, vi l3), (4, vi l4)] [vl s0, vi s1, vr s2] h := by
  unfold X12_worked_L324 at E
  replace E := Option.bind_eq_some_iff.mp E; obtain ⟨h1, eh1, E⟩ := E
  refine go_lastore (n := 325) eh1 dX12_worked_324 rfl ?_
  exact SX12_worked_L325   _ hrc12 _ _ _ _ _  _ E
noncomputable def X12_worked_L140 (F : Nat)  (rc12 : Nat → Int → Int → Int → Int → HP → Option (Int × HP)) (l0 : Nat) (l1 : Int) (l2 : Int) (l3 : Int) (l4 : Int) (s0 : Int) (s1 : Int) (s2 : Option Nat) (h : HP) : Option (Int × HP) :=
  (xsJ h s2 s1 s0).bind fun h1 =>
  X12_worked_L325 F rc12 l0 l1 l2 (w32 (l3 + 1)) l4 h1
set_option maxRecDepth 100000 in
theorem SX12_worked_L140 {K : Ctx} {F : Nat} {r : Int} {hf : HP}   (rc12 : Nat → Int → Int → Int → Int → HP → Option (Int × HP)) (hrc12 : ∀ l0 l1 l2 l3 l4 h, rc12 l0 l1 l2 l3 l4 h = some (r, hf) → Go K MX12_worked (QM K (some (vl r)) hf) hf 12 [(0, vr (some l0)), (1, vi l1), (2, vi l2), (3, vi l3), (4, vi l4)] [] h) (l0 : Nat) (l1 : Int) (l2 : Int) (l3 : Int) (l4 : Int) (s0 : Int) (s1 : Int) (s2 : Option Nat) (h : HP) (E : X12_worked_L140 F  rc12 l0 l1 l2 l3 l4 s0 s1 s2 h = some (r, hf)) : Go K MX12_worked (QM K (some (vl r)) hf) hf 140 [(0, vr (some l0)), (1, vi l1), (2, vi l2), (3, vi l3), (4, vi l4)] [vl s0, vi s1, vr s2] h := by
  unfold X12_worked_L140 at E
  replace E := Option.bind_eq_some_iff.mp E; obtain ⟨h1, eh1, E⟩ := E
  refine go_lastore (n := 141) eh1 dX12_worked_140 rfl ?_
  refine go_iinc (j := 3) (n := 144) (lv' := [(3, vi (w32 (l3 + 1))), (0, vr (some l0)), (1, vi l1), (2, vi l2), (4, vi l4)]) rfl dX12_worked_141 rfl (Nat.le_of_ble_eq_true rfl) rfl ?_
  refine go_goto (tgt := 325) dX12_worked_144 rfl ?_
  refine go_pick (lv' := [(0, vr (some l0)), (1, vi l1), (2, vi l2), (3, vi (w32 (l3 + 1))), (4, vi l4)]) [1, 2, 3, 0, 4] rfl ?_
  exact SX12_worked_L325   _ hrc12 _ _ _ _ _  _ E
noncomputable def X12_worked_L12 (F : Nat)   (k : Nat) : Nat → Int → Int → Int → Int → HP → Option (Int × HP) :=
  Nat.rec (motive := fun _ => Nat → Int → Int → Int → Int → HP → Option (Int × HP)) (fun _ _ _ _ _ _ => none) (fun _ rc12 l0 l1 l2 l3 l4 h =>
    (xrc h (some l0) 12 31).bind fun a3 =>
    xb (X12_its F a3 l1 (w32 (l2 + 5)) h) fun v1 h2 =>
    if v1 ≤ l4 then
      (xgP h2 (some l0) 12 31 17).bind fun v5 =>
      (xaJ h2 v5 0).bind fun v6 =>
      some (v6, h2)
    else
      (xrc h2 (some l0) 12 31).bind fun a9 =>
      xb (X12_its F a9 l1 (w32 (82 + (w32 (2 * l4)))) h2) fun v7 h8 =>
      (xrc h8 (some l0) 12 31).bind fun a12 =>
      xb (X12_its F a12 l1 (w32 ((w32 (82 + (w32 (2 * l4)))) + 1)) h8) fun v10 h11 =>
      if 4 < v7 then
        if v7 = 5 then
          (xgP h11 (some l0) 12 31 17).bind fun v32 =>
          (xaJ h11 v32 (w32 (l3 - 1))).bind fun v33 =>
          (xsJ h11 v32 (w32 (l3 - 1)) (w64 (v33 * v10))).bind fun h34 =>
          X12_worked_L325 F rc12 l0 l1 l2 l3 l4 h34
        else
          if v7 = 10 then
            (xgP h11 (some l0) 12 31 17).bind fun v28 =>
            (xgP h11 (some l0) 12 31 17).bind fun v29 =>
            (xaJ h11 v29 (w32 (l3 - 1))).bind fun v30 =>
            (xsJ h11 v28 (w32 (l3 - 1)) (w64 (1 - v30))).bind fun h31 =>
            X12_worked_L325 F rc12 l0 l1 l2 l3 l4 h31
          else
            (xgP h11 (some l0) 12 31 17).bind fun v16 =>
            (xaJ h11 v16 (w32 ((w32 (l3 + (-1))) - 1))).bind fun v17 =>
            (xgP h11 (some l0) 12 31 17).bind fun v18 =>
            (xaJ h11 v18 (w32 (l3 + (-1)))).bind fun v19 =>
            (xgP h11 (some l0) 12 31 17).bind fun v20 =>
            X12_worked_L324 F rc12 l0 l1 l2 (w32 (l3 + (-1))) l4 (if v7 = 6 then w64 (v17 + v19) else if v7 = 7 then w64 (v17 - v19) else if v7 = 8 then if 0 ≤ (xcmp v17 v19) then 0 else 1 else if v7 = 9 then if (xcmp v17 v19) ≤ 0 then 0 else 1 else if v7 = 11 then w64 (v17 * v19) else max v17 v19) (w32 ((w32 (l3 + (-1))) - 1)) v20 h11
      else
        (xgP h11 (some l0) 12 31 17).bind fun v35 =>
        if v7 = 0 then
          X12_worked_L140 F rc12 l0 l1 l2 l3 l4 v10 l3 v35 h11
        else
          if v7 = 1 then
            (xgP h11 (some l0) 12 31 1).bind fun v46 =>
            (xaI h11 v46 100 (w32 (9 + v10))).bind fun v47 =>
            X12_worked_L140 F rc12 l0 l1 l2 l3 l4 v47 l3 v35 h11
          else
            if v7 = 2 then
              (xgP h11 (some l0) 12 31 1).bind fun v44 =>
              (xaI h11 v44 100 (w32 (73 + v10))).bind fun v45 =>
              X12_worked_L140 F rc12 l0 l1 l2 l3 l4 v45 l3 v35 h11
            else
              if v7 = 3 then
                (xgP h11 (some l0) 12 31 1).bind fun v42 =>
                (xaI h11 v42 100 1).bind fun v43 =>
                X12_worked_L140 F rc12 l0 l1 l2 l3 l4 v43 l3 v35 h11
              else
                (xgP h11 (some l0) 12 31 1).bind fun v40 =>
                (xaI h11 v40 100 2).bind fun v41 =>
                X12_worked_L140 F rc12 l0 l1 l2 l3 l4 v41 l3 v35 h11) k
theorem X12_worked_L12_s (F : Nat)   (k : Nat) (l0 : Nat) (l1 : Int) (l2 : Int) (l3 : Int) (l4 : Int)  (h : HP) : X12_worked_L12 F   (k + 1) l0 l1 l2 l3 l4 h =
    (xrc h (some l0) 12 31).bind fun a3 =>
    xb (X12_its F a3 l1 (w32 (l2 + 5)) h) fun v1 h2 =>
    if v1 ≤ l4 then
      (xgP h2 (some l0) 12 31 17).bind fun v5 =>
      (xaJ h2 v5 0).bind fun v6 =>
      some (v6, h2)
    else
      (xrc h2 (some l0) 12 31).bind fun a9 =>
      xb (X12_its F a9 l1 (w32 (82 + (w32 (2 * l4)))) h2) fun v7 h8 =>
      (xrc h8 (some l0) 12 31).bind fun a12 =>
      xb (X12_its F a12 l1 (w32 ((w32 (82 + (w32 (2 * l4)))) + 1)) h8) fun v10 h11 =>
      if 4 < v7 then
        if v7 = 5 then
          (xgP h11 (some l0) 12 31 17).bind fun v32 =>
          (xaJ h11 v32 (w32 (l3 - 1))).bind fun v33 =>
          (xsJ h11 v32 (w32 (l3 - 1)) (w64 (v33 * v10))).bind fun h34 =>
          X12_worked_L325 F (X12_worked_L12 F k) l0 l1 l2 l3 l4 h34
        else
          if v7 = 10 then
            (xgP h11 (some l0) 12 31 17).bind fun v28 =>
            (xgP h11 (some l0) 12 31 17).bind fun v29 =>
            (xaJ h11 v29 (w32 (l3 - 1))).bind fun v30 =>
            (xsJ h11 v28 (w32 (l3 - 1)) (w64 (1 - v30))).bind fun h31 =>
            X12_worked_L325 F (X12_worked_L12 F k) l0 l1 l2 l3 l4 h31
          else
            (xgP h11 (some l0) 12 31 17).bind fun v16 =>
            (xaJ h11 v16 (w32 ((w32 (l3 + (-1))) - 1))).bind fun v17 =>
            (xgP h11 (some l0) 12 31 17).bind fun v18 =>
            (xaJ h11 v18 (w32 (l3 + (-1)))).bind fun v19 =>
            (xgP h11 (some l0) 12 31 17).bind fun v20 =>
            X12_worked_L324 F (X12_worked_L12 F k) l0 l1 l2 (w32 (l3 + (-1))) l4 (if v7 = 6 then w64 (v17 + v19) else if v7 = 7 then w64 (v17 - v19) else if v7 = 8 then if 0 ≤ (xcmp v17 v19) then 0 else 1 else if v7 = 9 then if (xcmp v17 v19) ≤ 0 then 0 else 1 else if v7 = 11 then w64 (v17 * v19) else max v17 v19) (w32 ((w32 (l3 + (-1))) - 1)) v20 h11
      else
        (xgP h11 (some l0) 12 31 17).bind fun v35 =>
        if v7 = 0 then
          X12_worked_L140 F (X12_worked_L12 F k) l0 l1 l2 l3 l4 v10 l3 v35 h11
        else
          if v7 = 1 then
            (xgP h11 (some l0) 12 31 1).bind fun v46 =>
            (xaI h11 v46 100 (w32 (9 + v10))).bind fun v47 =>
            X12_worked_L140 F (X12_worked_L12 F k) l0 l1 l2 l3 l4 v47 l3 v35 h11
          else
            if v7 = 2 then
              (xgP h11 (some l0) 12 31 1).bind fun v44 =>
              (xaI h11 v44 100 (w32 (73 + v10))).bind fun v45 =>
              X12_worked_L140 F (X12_worked_L12 F k) l0 l1 l2 l3 l4 v45 l3 v35 h11
            else
              if v7 = 3 then
                (xgP h11 (some l0) 12 31 1).bind fun v42 =>
                (xaI h11 v42 100 1).bind fun v43 =>
                X12_worked_L140 F (X12_worked_L12 F k) l0 l1 l2 l3 l4 v43 l3 v35 h11
              else
                (xgP h11 (some l0) 12 31 1).bind fun v40 =>
                (xaI h11 v40 100 2).bind fun v41 =>
                X12_worked_L140 F (X12_worked_L12 F k) l0 l1 l2 l3 l4 v41 l3 v35 h11 := rfl
set_option maxRecDepth 100000 in
theorem SX12_worked_L12 {K : Ctx} {F : Nat} {r : Int} {hf : HP}     : ∀ (k : Nat) (l0 : Nat) (l1 : Int) (l2 : Int) (l3 : Int) (l4 : Int)  (h : HP), X12_worked_L12 F   k l0 l1 l2 l3 l4 h = some (r, hf) → Go K MX12_worked (QM K (some (vl r)) hf) hf 12 [(0, vr (some l0)), (1, vi l1), (2, vi l2), (3, vi l3), (4, vi l4)] [] h := by
  intro k
  induction k with
  | zero => intro l0 l1 l2 l3 l4 h E; exact nomatch E
  | succ k hrc12 =>
    intro l0 l1 l2 l3 l4 h E
    rw [X12_worked_L12_s] at E
    refine go_iload (j := 4) (n := 14) rfl dX12_worked_12 rfl ?_
    refine go_aload_n (j := 0) (n := 15) rfl rfl dX12_worked_14 rfl ?_
    refine go_iload_n (j := 1) (n := 16) rfl rfl dX12_worked_15 rfl ?_
    refine go_iload_n (j := 2) (n := 17) rfl rfl dX12_worked_16 rfl ?_
    refine go_iconst (z := 5) (n := 18) ⟨by decide, by decide⟩ dX12_worked_17 rfl ?_
    refine go_iadd (n := 19) dX12_worked_18 rfl ?_
    replace E := Option.bind_eq_some_iff.mp E; obtain ⟨a3, ea3, E⟩ := E
    obtain ⟨fa3, ga3⟩ := xrc_some ea3
    replace E := xb_some E; obtain ⟨v1, h2, ev1, E⟩ := E
    refine go_callV (y := yX12_its) (n := 22) (st := [vi l4]) (as := [vi l1, vi (w32 (l2 + 5))]) (stk9 := [vi v1, vi l4]) (OX12_its ev1) yw_X12_its ci_12 ga3 wml_RX12_250 wim_X12_its wse_X12_its (Nat.le_of_ble_eq_true rfl) rfl ⟨Nat.le_of_ble_eq_true rfl, Nat.le_of_ble_eq_true rfl⟩ (Nat.le_of_ble_eq_true rfl) dX12_worked_19 rfl (by cases fa3; rfl) rfl ?_
    refine go_icmp_ge (tgt := 331) (n := 25) dX12_worked_22 rfl rfl (fun c4 => ?_) (fun c4 => ?_)
    · rw [if_pos c4] at E
      refine go_aload_n (j := 0) (n := 332) rfl rfl dX12_worked_331 rfl ?_
      replace E := Option.bind_eq_some_iff.mp E; obtain ⟨v5, ev5, E⟩ := E
      refine go_getP (n := 335) ev5 fl_RX12_37 rfl dX12_worked_332 rfl ?_
      refine go_iconst (z := 0) (n := 336) ⟨by decide, by decide⟩ dX12_worked_335 rfl ?_
      replace E := Option.bind_eq_some_iff.mp E; obtain ⟨v6, ev6, E⟩ := E
      refine go_laload (n := 337) ev6 dX12_worked_336 rfl ?_
      cases E
      exact go_lreturn rfl dX12_worked_337
    · rw [if_neg c4] at E
      refine go_aload_n (j := 0) (n := 26) rfl rfl dX12_worked_25 rfl ?_
      refine go_iload_n (j := 1) (n := 27) rfl rfl dX12_worked_26 rfl ?_
      refine go_bipush (z := 82) (n := 29) ⟨by decide, by decide⟩ dX12_worked_27 rfl ?_
      refine go_iconst (z := 2) (n := 30) ⟨by decide, by decide⟩ dX12_worked_29 rfl ?_
      refine go_iload (j := 4) (n := 32) rfl dX12_worked_30 rfl ?_
      refine go_imul (n := 33) dX12_worked_32 rfl ?_
      refine go_iadd (n := 34) dX12_worked_33 rfl ?_
      replace E := Option.bind_eq_some_iff.mp E; obtain ⟨a9, ea9, E⟩ := E
      obtain ⟨fa9, ga9⟩ := xrc_some ea9
      replace E := xb_some E; obtain ⟨v7, h8, ev7, E⟩ := E
      refine go_callV (y := yX12_its) (n := 37) (st := []) (as := [vi l1, vi (w32 (82 + (w32 (2 * l4))))]) (stk9 := [vi v7]) (OX12_its ev7) yw_X12_its ci_12 ga9 wml_RX12_250 wim_X12_its wse_X12_its (Nat.le_of_ble_eq_true rfl) rfl ⟨Nat.le_of_ble_eq_true rfl, Nat.le_of_ble_eq_true rfl⟩ (Nat.le_of_ble_eq_true rfl) dX12_worked_34 rfl (by cases fa9; rfl) rfl ?_
      refine go_istore (n := 39) (lv' := [(5, vi v7), (0, vr (some l0)), (1, vi l1), (2, vi l2), (3, vi l3), (4, vi l4)]) dX12_worked_37 rfl (Nat.le_of_ble_eq_true rfl) rfl ?_
      refine go_aload_n (j := 1) (n := 40) rfl rfl dX12_worked_39 rfl ?_
      refine go_iload_n (j := 2) (n := 41) rfl rfl dX12_worked_40 rfl ?_
      refine go_bipush (z := 82) (n := 43) ⟨by decide, by decide⟩ dX12_worked_41 rfl ?_
      refine go_iconst (z := 2) (n := 44) ⟨by decide, by decide⟩ dX12_worked_43 rfl ?_
      refine go_iload (j := 5) (n := 46) rfl dX12_worked_44 rfl ?_
      refine go_imul (n := 47) dX12_worked_46 rfl ?_
      refine go_iadd (n := 48) dX12_worked_47 rfl ?_
      refine go_iconst (z := 1) (n := 49) ⟨by decide, by decide⟩ dX12_worked_48 rfl ?_
      refine go_iadd (n := 50) dX12_worked_49 rfl ?_
      replace E := Option.bind_eq_some_iff.mp E; obtain ⟨a12, ea12, E⟩ := E
      obtain ⟨fa12, ga12⟩ := xrc_some ea12
      replace E := xb_some E; obtain ⟨v10, h11, ev10, E⟩ := E
      refine go_callV (y := yX12_its) (n := 53) (st := []) (as := [vi l1, vi (w32 ((w32 (82 + (w32 (2 * l4)))) + 1))]) (stk9 := [vi v10]) (OX12_its ev10) yw_X12_its ci_12 ga12 wml_RX12_250 wim_X12_its wse_X12_its (Nat.le_of_ble_eq_true rfl) rfl ⟨Nat.le_of_ble_eq_true rfl, Nat.le_of_ble_eq_true rfl⟩ (Nat.le_of_ble_eq_true rfl) dX12_worked_50 rfl (by cases fa12; rfl) rfl ?_
      refine go_istore (n := 55) (lv' := [(6, vi v10), (5, vi v7), (0, vr (some l0)), (1, vi l1), (2, vi l2), (3, vi l3), (4, vi l4)]) dX12_worked_53 rfl (Nat.le_of_ble_eq_true rfl) rfl ?_
      refine go_iload (j := 1) (n := 57) rfl dX12_worked_55 rfl ?_
      refine go_iconst (z := 4) (n := 58) ⟨by decide, by decide⟩ dX12_worked_57 rfl ?_
      refine go_icmp_gt (tgt := 147) (n := 61) dX12_worked_58 rfl rfl (fun c13 => ?_) (fun c13 => ?_)
      · rw [if_pos c13] at E
        refine go_iload (j := 1) (n := 149) rfl dX12_worked_147 rfl ?_
        refine go_iconst (z := 5) (n := 150) ⟨by decide, by decide⟩ dX12_worked_149 rfl ?_
        refine go_icmp_ne (tgt := 170) (n := 153) dX12_worked_150 rfl rfl (fun c14 => ?_) (fun c14 => ?_)
        · rw [if_neg c14] at E
          refine go_iload (j := 1) (n := 172) rfl dX12_worked_170 rfl ?_
          refine go_bipush (z := 10) (n := 174) ⟨by decide, by decide⟩ dX12_worked_172 rfl ?_
          refine go_icmp_ne (tgt := 198) (n := 177) dX12_worked_174 rfl rfl (fun c15 => ?_) (fun c15 => ?_)
          · rw [if_neg c15] at E
            refine go_iinc (j := 5) (n := 201) (lv' := [(3, vi (w32 (l3 + (-1)))), (6, vi v10), (5, vi v7), (0, vr (some l0)), (1, vi l1), (2, vi l2), (4, vi l4)]) rfl dX12_worked_198 rfl (Nat.le_of_ble_eq_true rfl) rfl ?_
            refine go_aload_n (j := 3) (n := 202) rfl rfl dX12_worked_201 rfl ?_
            replace E := Option.bind_eq_some_iff.mp E; obtain ⟨v16, ev16, E⟩ := E
            refine go_getP (n := 205) ev16 fl_RX12_37 rfl dX12_worked_202 rfl ?_
            refine go_iload_n (j := 0) (n := 206) rfl rfl dX12_worked_205 rfl ?_
            refine go_iconst (z := 1) (n := 207) ⟨by decide, by decide⟩ dX12_worked_206 rfl ?_
            refine go_isub (n := 208) dX12_worked_207 rfl ?_
            replace E := Option.bind_eq_some_iff.mp E; obtain ⟨v17, ev17, E⟩ := E
            refine go_laload (n := 209) ev17 dX12_worked_208 rfl ?_
            refine go_lstore (n := 211) (lv' := [(7, vl v17), (3, vi (w32 (l3 + (-1)))), (6, vi v10), (5, vi v7), (0, vr (some l0)), (1, vi l1), (2, vi l2), (4, vi l4)]) dX12_worked_209 rfl (Nat.le_of_ble_eq_true rfl) rfl ?_
            refine go_aload_n (j := 4) (n := 212) rfl rfl dX12_worked_211 rfl ?_
            replace E := Option.bind_eq_some_iff.mp E; obtain ⟨v18, ev18, E⟩ := E
            refine go_getP (n := 215) ev18 fl_RX12_37 rfl dX12_worked_212 rfl ?_
            refine go_iload_n (j := 1) (n := 216) rfl rfl dX12_worked_215 rfl ?_
            replace E := Option.bind_eq_some_iff.mp E; obtain ⟨v19, ev19, E⟩ := E
            refine go_laload (n := 217) ev19 dX12_worked_216 rfl ?_
            refine go_lstore (n := 219) (lv' := [(9, vl v19), (7, vl v17), (3, vi (w32 (l3 + (-1)))), (6, vi v10), (5, vi v7), (0, vr (some l0)), (1, vi l1), (2, vi l2), (4, vi l4)]) dX12_worked_217 rfl (Nat.le_of_ble_eq_true rfl) rfl ?_
            refine go_aload_n (j := 5) (n := 220) rfl rfl dX12_worked_219 rfl ?_
            replace E := Option.bind_eq_some_iff.mp E; obtain ⟨v20, ev20, E⟩ := E
            refine go_getP (n := 223) ev20 fl_RX12_37 rfl dX12_worked_220 rfl ?_
            refine go_iload_n (j := 2) (n := 224) rfl rfl dX12_worked_223 rfl ?_
            refine go_iconst (z := 1) (n := 225) ⟨by decide, by decide⟩ dX12_worked_224 rfl ?_
            refine go_isub (n := 226) dX12_worked_225 rfl ?_
            refine go_iload (j := 4) (n := 228) rfl dX12_worked_226 rfl ?_
            refine go_bipush (z := 6) (n := 230) ⟨by decide, by decide⟩ dX12_worked_228 rfl ?_
            refine go_icmp_ne (tgt := 241) (n := 233) dX12_worked_230 rfl rfl (fun c21 => ?_) (fun c21 => ?_)
            · simp only [if_neg c21] at E
              refine go_iload (j := 4) (n := 243) rfl dX12_worked_241 rfl ?_
              refine go_bipush (z := 7) (n := 245) ⟨by decide, by decide⟩ dX12_worked_243 rfl ?_
              refine go_icmp_ne (tgt := 256) (n := 248) dX12_worked_245 rfl rfl (fun c22 => ?_) (fun c22 => ?_)
              · simp only [if_neg c22] at E
                refine go_iload (j := 4) (n := 258) rfl dX12_worked_256 rfl ?_
                refine go_bipush (z := 8) (n := 260) ⟨by decide, by decide⟩ dX12_worked_258 rfl ?_
                refine go_icmp_ne (tgt := 279) (n := 263) dX12_worked_260 rfl rfl (fun c23 => ?_) (fun c23 => ?_)
                · simp only [if_neg c23] at E
                  refine go_iload (j := 4) (n := 281) rfl dX12_worked_279 rfl ?_
                  refine go_bipush (z := 9) (n := 283) ⟨by decide, by decide⟩ dX12_worked_281 rfl ?_
                  refine go_icmp_ne (tgt := 302) (n := 286) dX12_worked_283 rfl rfl (fun c24 => ?_) (fun c24 => ?_)
                  · simp only [if_neg c24] at E
                    refine go_iload (j := 4) (n := 304) rfl dX12_worked_302 rfl ?_
                    refine go_bipush (z := 11) (n := 306) ⟨by decide, by decide⟩ dX12_worked_304 rfl ?_
                    refine go_icmp_ne (tgt := 317) (n := 309) dX12_worked_306 rfl rfl (fun c25 => ?_) (fun c25 => ?_)
                    · simp only [if_neg c25] at E
                      refine go_lload (j := 1) (n := 319) rfl dX12_worked_317 rfl ?_
                      refine go_lload (j := 0) (n := 321) rfl dX12_worked_319 rfl ?_
                      refine go_lmax (n := 324) wml_RX12_266 jm_max_l (Nat.le_of_ble_eq_true rfl) (Nat.le_of_ble_eq_true rfl) dX12_worked_321 rfl ?_
                      refine go_pick (lv' := [(0, vr (some l0)), (1, vi l1), (2, vi l2), (3, vi (w32 (l3 + (-1)))), (4, vi l4)]) [5, 6, 7, 2, 8] rfl ?_
                      exact SX12_worked_L324   _ hrc12 _ _ _ _ _ _ _ _ _ E
                    · simp only [if_pos c25] at E
                      refine go_lload (j := 1) (n := 311) rfl dX12_worked_309 rfl ?_
                      refine go_lload (j := 0) (n := 313) rfl dX12_worked_311 rfl ?_
                      refine go_lmul (n := 314) dX12_worked_313 rfl ?_
                      refine go_goto (tgt := 324) dX12_worked_314 rfl ?_
                      refine go_pick (lv' := [(0, vr (some l0)), (1, vi l1), (2, vi l2), (3, vi (w32 (l3 + (-1)))), (4, vi l4)]) [5, 6, 7, 2, 8] rfl ?_
                      exact SX12_worked_L324   _ hrc12 _ _ _ _ _ _ _ _ _ E
                  · simp only [if_pos c24] at E
                    refine go_lload (j := 1) (n := 288) rfl dX12_worked_286 rfl ?_
                    refine go_lload (j := 0) (n := 290) rfl dX12_worked_288 rfl ?_
                    refine go_lcmp (n := 291) dX12_worked_290 rfl ?_
                    refine go_if_le (tgt := 298) (n := 294) dX12_worked_291 rfl rfl (fun c26 => ?_) (fun c26 => ?_)
                    · simp only [if_pos c26] at E
                      refine go_lconst (w := 0) (n := 299) rfl dX12_worked_298 rfl ?_
                      refine go_goto (tgt := 324) dX12_worked_299 rfl ?_
                      refine go_pick (lv' := [(0, vr (some l0)), (1, vi l1), (2, vi l2), (3, vi (w32 (l3 + (-1)))), (4, vi l4)]) [5, 6, 7, 2, 8] rfl ?_
                      exact SX12_worked_L324   _ hrc12 _ _ _ _ _ _ _ _ _ E
                    · simp only [if_neg c26] at E
                      refine go_lconst (w := 1) (n := 295) rfl dX12_worked_294 rfl ?_
                      refine go_goto (tgt := 324) dX12_worked_295 rfl ?_
                      refine go_pick (lv' := [(0, vr (some l0)), (1, vi l1), (2, vi l2), (3, vi (w32 (l3 + (-1)))), (4, vi l4)]) [5, 6, 7, 2, 8] rfl ?_
                      exact SX12_worked_L324   _ hrc12 _ _ _ _ _ _ _ _ _ E
                · simp only [if_pos c23] at E
                  refine go_lload (j := 1) (n := 265) rfl dX12_worked_263 rfl ?_
                  refine go_lload (j := 0) (n := 267) rfl dX12_worked_265 rfl ?_
                  refine go_lcmp (n := 268) dX12_worked_267 rfl ?_
                  refine go_if_ge (tgt := 275) (n := 271) dX12_worked_268 rfl rfl (fun c27 => ?_) (fun c27 => ?_)
                  · simp only [if_pos c27] at E
                    refine go_lconst (w := 0) (n := 276) rfl dX12_worked_275 rfl ?_
                    refine go_goto (tgt := 324) dX12_worked_276 rfl ?_
                    refine go_pick (lv' := [(0, vr (some l0)), (1, vi l1), (2, vi l2), (3, vi (w32 (l3 + (-1)))), (4, vi l4)]) [5, 6, 7, 2, 8] rfl ?_
                    exact SX12_worked_L324   _ hrc12 _ _ _ _ _ _ _ _ _ E
                  · simp only [if_neg c27] at E
                    refine go_lconst (w := 1) (n := 272) rfl dX12_worked_271 rfl ?_
                    refine go_goto (tgt := 324) dX12_worked_272 rfl ?_
                    refine go_pick (lv' := [(0, vr (some l0)), (1, vi l1), (2, vi l2), (3, vi (w32 (l3 + (-1)))), (4, vi l4)]) [5, 6, 7, 2, 8] rfl ?_
                    exact SX12_worked_L324   _ hrc12 _ _ _ _ _ _ _ _ _ E
              · simp only [if_pos c22] at E
                refine go_lload (j := 1) (n := 250) rfl dX12_worked_248 rfl ?_
                refine go_lload (j := 0) (n := 252) rfl dX12_worked_250 rfl ?_
                refine go_lsub (n := 253) dX12_worked_252 rfl ?_
                refine go_goto (tgt := 324) dX12_worked_253 rfl ?_
                refine go_pick (lv' := [(0, vr (some l0)), (1, vi l1), (2, vi l2), (3, vi (w32 (l3 + (-1)))), (4, vi l4)]) [5, 6, 7, 2, 8] rfl ?_
                exact SX12_worked_L324   _ hrc12 _ _ _ _ _ _ _ _ _ E
            · simp only [if_pos c21] at E
              refine go_lload (j := 1) (n := 235) rfl dX12_worked_233 rfl ?_
              refine go_lload (j := 0) (n := 237) rfl dX12_worked_235 rfl ?_
              refine go_ladd (n := 238) dX12_worked_237 rfl ?_
              refine go_goto (tgt := 324) dX12_worked_238 rfl ?_
              refine go_pick (lv' := [(0, vr (some l0)), (1, vi l1), (2, vi l2), (3, vi (w32 (l3 + (-1)))), (4, vi l4)]) [5, 6, 7, 2, 8] rfl ?_
              exact SX12_worked_L324   _ hrc12 _ _ _ _ _ _ _ _ _ E
          · rw [if_pos c15] at E
            refine go_aload_n (j := 2) (n := 178) rfl rfl dX12_worked_177 rfl ?_
            replace E := Option.bind_eq_some_iff.mp E; obtain ⟨v28, ev28, E⟩ := E
            refine go_getP (n := 181) ev28 fl_RX12_37 rfl dX12_worked_178 rfl ?_
            refine go_iload_n (j := 5) (n := 182) rfl rfl dX12_worked_181 rfl ?_
            refine go_iconst (z := 1) (n := 183) ⟨by decide, by decide⟩ dX12_worked_182 rfl ?_
            refine go_isub (n := 184) dX12_worked_183 rfl ?_
            refine go_lconst (w := 1) (n := 185) rfl dX12_worked_184 rfl ?_
            refine go_aload_n (j := 2) (n := 186) rfl rfl dX12_worked_185 rfl ?_
            replace E := Option.bind_eq_some_iff.mp E; obtain ⟨v29, ev29, E⟩ := E
            refine go_getP (n := 189) ev29 fl_RX12_37 rfl dX12_worked_186 rfl ?_
            refine go_iload_n (j := 5) (n := 190) rfl rfl dX12_worked_189 rfl ?_
            refine go_iconst (z := 1) (n := 191) ⟨by decide, by decide⟩ dX12_worked_190 rfl ?_
            refine go_isub (n := 192) dX12_worked_191 rfl ?_
            replace E := Option.bind_eq_some_iff.mp E; obtain ⟨v30, ev30, E⟩ := E
            refine go_laload (n := 193) ev30 dX12_worked_192 rfl ?_
            refine go_lsub (n := 194) dX12_worked_193 rfl ?_
            replace E := Option.bind_eq_some_iff.mp E; obtain ⟨h31, eh31, E⟩ := E
            refine go_lastore (n := 195) eh31 dX12_worked_194 rfl ?_
            refine go_goto (tgt := 325) dX12_worked_195 rfl ?_
            refine go_pick (lv' := [(0, vr (some l0)), (1, vi l1), (2, vi l2), (3, vi l3), (4, vi l4)]) [2, 3, 4, 5, 6] rfl ?_
            exact SX12_worked_L325   _ hrc12 _ _ _ _ _  _ E
        · rw [if_pos c14] at E
          refine go_aload_n (j := 2) (n := 154) rfl rfl dX12_worked_153 rfl ?_
          replace E := Option.bind_eq_some_iff.mp E; obtain ⟨v32, ev32, E⟩ := E
          refine go_getP (n := 157) ev32 fl_RX12_37 rfl dX12_worked_154 rfl ?_
          refine go_iload_n (j := 5) (n := 158) rfl rfl dX12_worked_157 rfl ?_
          refine go_iconst (z := 1) (n := 159) ⟨by decide, by decide⟩ dX12_worked_158 rfl ?_
          refine go_isub (n := 160) dX12_worked_159 rfl ?_
          refine go_dup2 (n := 161) rfl rfl dX12_worked_160 rfl ?_
          replace E := Option.bind_eq_some_iff.mp E; obtain ⟨v33, ev33, E⟩ := E
          refine go_laload (n := 162) ev33 dX12_worked_161 rfl ?_
          refine go_iload (j := 0) (n := 164) rfl dX12_worked_162 rfl ?_
          refine go_i2l (n := 165) dX12_worked_164 rfl ?_
          refine go_lmul (n := 166) dX12_worked_165 rfl ?_
          replace E := Option.bind_eq_some_iff.mp E; obtain ⟨h34, eh34, E⟩ := E
          refine go_lastore (n := 167) eh34 dX12_worked_166 rfl ?_
          refine go_goto (tgt := 325) dX12_worked_167 rfl ?_
          refine go_pick (lv' := [(0, vr (some l0)), (1, vi l1), (2, vi l2), (3, vi l3), (4, vi l4)]) [2, 3, 4, 5, 6] rfl ?_
          exact SX12_worked_L325   _ hrc12 _ _ _ _ _  _ E
      · rw [if_neg c13] at E
        refine go_aload_n (j := 2) (n := 62) rfl rfl dX12_worked_61 rfl ?_
        replace E := Option.bind_eq_some_iff.mp E; obtain ⟨v35, ev35, E⟩ := E
        refine go_getP (n := 65) ev35 fl_RX12_37 rfl dX12_worked_62 rfl ?_
        refine go_iload_n (j := 5) (n := 66) rfl rfl dX12_worked_65 rfl ?_
        refine go_iload (j := 1) (n := 68) rfl dX12_worked_66 rfl ?_
        refine go_if_ne (tgt := 77) (n := 71) dX12_worked_68 rfl rfl (fun c36 => ?_) (fun c36 => ?_)
        · rw [if_neg c36] at E
          refine go_iload (j := 1) (n := 79) rfl dX12_worked_77 rfl ?_
          refine go_iconst (z := 1) (n := 80) ⟨by decide, by decide⟩ dX12_worked_79 rfl ?_
          refine go_icmp_ne (tgt := 97) (n := 83) dX12_worked_80 rfl rfl (fun c37 => ?_) (fun c37 => ?_)
          · rw [if_neg c37] at E
            refine go_iload (j := 1) (n := 99) rfl dX12_worked_97 rfl ?_
            refine go_iconst (z := 2) (n := 100) ⟨by decide, by decide⟩ dX12_worked_99 rfl ?_
            refine go_icmp_ne (tgt := 117) (n := 103) dX12_worked_100 rfl rfl (fun c38 => ?_) (fun c38 => ?_)
            · rw [if_neg c38] at E
              refine go_iload (j := 1) (n := 119) rfl dX12_worked_117 rfl ?_
              refine go_iconst (z := 3) (n := 120) ⟨by decide, by decide⟩ dX12_worked_119 rfl ?_
              refine go_icmp_ne (tgt := 133) (n := 123) dX12_worked_120 rfl rfl (fun c39 => ?_) (fun c39 => ?_)
              · rw [if_neg c39] at E
                refine go_aload_n (j := 2) (n := 134) rfl rfl dX12_worked_133 rfl ?_
                replace E := Option.bind_eq_some_iff.mp E; obtain ⟨v40, ev40, E⟩ := E
                refine go_getP (n := 137) ev40 fl_RX12_14 rfl dX12_worked_134 rfl ?_
                refine go_iconst (z := 2) (n := 138) ⟨by decide, by decide⟩ dX12_worked_137 rfl ?_
                replace E := Option.bind_eq_some_iff.mp E; obtain ⟨v41, ev41, E⟩ := E
                refine go_iaload (n := 139) ev41 dX12_worked_138 rfl ?_
                refine go_i2l (n := 140) dX12_worked_139 rfl ?_
                refine go_pick (lv' := [(0, vr (some l0)), (1, vi l1), (2, vi l2), (3, vi l3), (4, vi l4)]) [2, 3, 4, 5, 6] rfl ?_
                exact SX12_worked_L140   _ hrc12 _ _ _ _ _ _ _ _ _ E
              · rw [if_pos c39] at E
                refine go_aload_n (j := 2) (n := 124) rfl rfl dX12_worked_123 rfl ?_
                replace E := Option.bind_eq_some_iff.mp E; obtain ⟨v42, ev42, E⟩ := E
                refine go_getP (n := 127) ev42 fl_RX12_14 rfl dX12_worked_124 rfl ?_
                refine go_iconst (z := 1) (n := 128) ⟨by decide, by decide⟩ dX12_worked_127 rfl ?_
                replace E := Option.bind_eq_some_iff.mp E; obtain ⟨v43, ev43, E⟩ := E
                refine go_iaload (n := 129) ev43 dX12_worked_128 rfl ?_
                refine go_i2l (n := 130) dX12_worked_129 rfl ?_
                refine go_goto (tgt := 140) dX12_worked_130 rfl ?_
                refine go_pick (lv' := [(0, vr (some l0)), (1, vi l1), (2, vi l2), (3, vi l3), (4, vi l4)]) [2, 3, 4, 5, 6] rfl ?_
                exact SX12_worked_L140   _ hrc12 _ _ _ _ _ _ _ _ _ E
            · rw [if_pos c38] at E
              refine go_aload_n (j := 2) (n := 104) rfl rfl dX12_worked_103 rfl ?_
              replace E := Option.bind_eq_some_iff.mp E; obtain ⟨v44, ev44, E⟩ := E
              refine go_getP (n := 107) ev44 fl_RX12_14 rfl dX12_worked_104 rfl ?_
              refine go_bipush (z := 73) (n := 109) ⟨by decide, by decide⟩ dX12_worked_107 rfl ?_
              refine go_iload (j := 0) (n := 111) rfl dX12_worked_109 rfl ?_
              refine go_iadd (n := 112) dX12_worked_111 rfl ?_
              replace E := Option.bind_eq_some_iff.mp E; obtain ⟨v45, ev45, E⟩ := E
              refine go_iaload (n := 113) ev45 dX12_worked_112 rfl ?_
              refine go_i2l (n := 114) dX12_worked_113 rfl ?_
              refine go_goto (tgt := 140) dX12_worked_114 rfl ?_
              refine go_pick (lv' := [(0, vr (some l0)), (1, vi l1), (2, vi l2), (3, vi l3), (4, vi l4)]) [2, 3, 4, 5, 6] rfl ?_
              exact SX12_worked_L140   _ hrc12 _ _ _ _ _ _ _ _ _ E
          · rw [if_pos c37] at E
            refine go_aload_n (j := 2) (n := 84) rfl rfl dX12_worked_83 rfl ?_
            replace E := Option.bind_eq_some_iff.mp E; obtain ⟨v46, ev46, E⟩ := E
            refine go_getP (n := 87) ev46 fl_RX12_14 rfl dX12_worked_84 rfl ?_
            refine go_bipush (z := 9) (n := 89) ⟨by decide, by decide⟩ dX12_worked_87 rfl ?_
            refine go_iload (j := 0) (n := 91) rfl dX12_worked_89 rfl ?_
            refine go_iadd (n := 92) dX12_worked_91 rfl ?_
            replace E := Option.bind_eq_some_iff.mp E; obtain ⟨v47, ev47, E⟩ := E
            refine go_iaload (n := 93) ev47 dX12_worked_92 rfl ?_
            refine go_i2l (n := 94) dX12_worked_93 rfl ?_
            refine go_goto (tgt := 140) dX12_worked_94 rfl ?_
            refine go_pick (lv' := [(0, vr (some l0)), (1, vi l1), (2, vi l2), (3, vi l3), (4, vi l4)]) [2, 3, 4, 5, 6] rfl ?_
            exact SX12_worked_L140   _ hrc12 _ _ _ _ _ _ _ _ _ E
        · rw [if_pos c36] at E
          refine go_iload (j := 0) (n := 73) rfl dX12_worked_71 rfl ?_
          refine go_i2l (n := 74) dX12_worked_73 rfl ?_
          refine go_goto (tgt := 140) dX12_worked_74 rfl ?_
          refine go_pick (lv' := [(0, vr (some l0)), (1, vi l1), (2, vi l2), (3, vi l3), (4, vi l4)]) [2, 3, 4, 5, 6] rfl ?_
          exact SX12_worked_L140   _ hrc12 _ _ _ _ _ _ _ _ _ E
noncomputable def X12_worked (F : Nat)   (l0 : Nat) (l1 : Int) (l2 : Int)  (h : HP) : Option (Int × HP) :=
  (xrc h (some l0) 12 31).bind fun a3 =>
  xb (X12_its F a3 l1 (w32 (l2 + 4)) h) fun v1 h2 =>
  X12_worked_L12 F F l0 l1 l2 0 v1 h2
set_option maxRecDepth 100000 in
theorem SX12_worked {K : Ctx} {F : Nat} {r : Int} {hf : HP}     (l0 : Nat) (l1 : Int) (l2 : Int)  (h : HP) (E : X12_worked F   l0 l1 l2 h = some (r, hf)) : Go K MX12_worked (QM K (some (vl r)) hf) hf 0 [(0, vr (some l0)), (1, vi l1), (2, vi l2)] [] h := by
  unfold X12_worked at E
  refine go_iconst (z := 0) (n := 1) ⟨by decide, by decide⟩ dX12_worked_0 rfl ?_
  refine go_istore_n (n := 2) (lv' := [(3, vi 0), (0, vr (some l0)), (1, vi l1), (2, vi l2)]) rfl dX12_worked_1 rfl (Nat.le_of_ble_eq_true rfl) rfl ?_
  refine go_aload_n (j := 1) (n := 3) rfl rfl dX12_worked_2 rfl ?_
  refine go_iload_n (j := 2) (n := 4) rfl rfl dX12_worked_3 rfl ?_
  refine go_iload_n (j := 3) (n := 5) rfl rfl dX12_worked_4 rfl ?_
  refine go_iconst (z := 4) (n := 6) ⟨by decide, by decide⟩ dX12_worked_5 rfl ?_
  refine go_iadd (n := 7) dX12_worked_6 rfl ?_
  replace E := Option.bind_eq_some_iff.mp E; obtain ⟨a3, ea3, E⟩ := E
  obtain ⟨fa3, ga3⟩ := xrc_some ea3
  replace E := xb_some E; obtain ⟨v1, h2, ev1, E⟩ := E
  refine go_callV (y := yX12_its) (n := 10) (st := []) (as := [vi l1, vi (w32 (l2 + 4))]) (stk9 := [vi v1]) (OX12_its ev1) yw_X12_its ci_12 ga3 wml_RX12_250 wim_X12_its wse_X12_its (Nat.le_of_ble_eq_true rfl) rfl ⟨Nat.le_of_ble_eq_true rfl, Nat.le_of_ble_eq_true rfl⟩ (Nat.le_of_ble_eq_true rfl) dX12_worked_7 rfl (by cases fa3; rfl) rfl ?_
  refine go_istore (n := 12) (lv' := [(4, vi v1), (3, vi 0), (0, vr (some l0)), (1, vi l1), (2, vi l2)]) dX12_worked_10 rfl (Nat.le_of_ble_eq_true rfl) rfl ?_
  refine go_pick (lv' := [(0, vr (some l0)), (1, vi l1), (2, vi l2), (3, vi 0), (4, vi v1)]) [2, 3, 4, 1, 0] rfl ?_
  exact SX12_worked_L12     F _ _ _ _ _ _ E
theorem OX12_worked {F : Nat} {l0 : Nat} {l1 : Int} {l2 : Int} {h hf : HP} {r : Int} (e : X12_worked F l0 l1 l2 h = some (r, hf)) : Ok MX12_worked [vr (some l0), vi l1, vi l2] (some (vl r)) h hf := fun K _ _ _ => SX12_worked l0 l1 l2 h e
abbrev MJ9_floorDiv_f86c9 : MI := (RJ9, cJ9_floorDiv_f86c9, 6, (some .long), 2, none, "floorDiv")
noncomputable def XJ9_floorDiv_f86c9 (F : Nat)   (l0 : Int) (l2 : Int)  (h : HP) : Option (Int × HP) :=
  (xd l2).bind fun u1 =>
  some (if 0 ≤ (xcmp (yxor l0 l2) 0) then w64 (l0.tdiv l2) else if (xcmp (w64 ((w64 (l0.tdiv l2)) * l2)) l0) = 0 then w64 (l0.tdiv l2) else w64 ((w64 (l0.tdiv l2)) - 1), h)
set_option maxRecDepth 100000 in
theorem SXJ9_floorDiv_f86c9 {K : Ctx} {F : Nat} {r : Int} {hf : HP}     (l0 : Int) (l2 : Int)  (h : HP) (E : XJ9_floorDiv_f86c9 F   l0 l2 h = some (r, hf)) : Go K MJ9_floorDiv_f86c9 (QM K (some (vl r)) hf) hf 0 [(0, vl l0), (2, vl l2)] [] h := by
  unfold XJ9_floorDiv_f86c9 at E
  refine go_lload_n (j := 0) (n := 1) rfl rfl dJ9_floorDiv_f86c9_0 rfl ?_
  refine go_lload_n (j := 1) (n := 2) rfl rfl dJ9_floorDiv_f86c9_1 rfl ?_
  replace E := Option.bind_eq_some_iff.mp E; obtain ⟨u1, eu1, E⟩ := E
  refine go_ldiv (n := 3) (xd_some eu1) dJ9_floorDiv_f86c9_2 rfl ?_
  refine go_lstore (n := 5) (lv' := [(4, vl (w64 (l0.tdiv l2))), (0, vl l0), (2, vl l2)]) dJ9_floorDiv_f86c9_3 rfl (Nat.le_of_ble_eq_true rfl) rfl ?_
  refine go_lload_n (j := 1) (n := 6) rfl rfl dJ9_floorDiv_f86c9_5 rfl ?_
  refine go_lload_n (j := 2) (n := 7) rfl rfl dJ9_floorDiv_f86c9_6 rfl ?_
  refine go_lxor (n := 8) dJ9_floorDiv_f86c9_7 rfl ?_
  refine go_lconst (w := 0) (n := 9) rfl dJ9_floorDiv_f86c9_8 rfl ?_
  refine go_lcmp (n := 10) dJ9_floorDiv_f86c9_9 rfl ?_
  refine go_if_ge (tgt := 27) (n := 13) dJ9_floorDiv_f86c9_10 rfl rfl (fun c2 => ?_) (fun c2 => ?_)
  · simp only [if_pos c2] at E
    refine go_lload (j := 0) (n := 29) rfl dJ9_floorDiv_f86c9_27 rfl ?_
    cases E
    exact go_lreturn rfl dJ9_floorDiv_f86c9_29
  · simp only [if_neg c2] at E
    refine go_lload (j := 0) (n := 15) rfl dJ9_floorDiv_f86c9_13 rfl ?_
    refine go_lload_n (j := 2) (n := 16) rfl rfl dJ9_floorDiv_f86c9_15 rfl ?_
    refine go_lmul (n := 17) dJ9_floorDiv_f86c9_16 rfl ?_
    refine go_lload_n (j := 1) (n := 18) rfl rfl dJ9_floorDiv_f86c9_17 rfl ?_
    refine go_lcmp (n := 19) dJ9_floorDiv_f86c9_18 rfl ?_
    refine go_if_eq (tgt := 27) (n := 22) dJ9_floorDiv_f86c9_19 rfl rfl (fun c3 => ?_) (fun c3 => ?_)
    · simp only [if_pos c3] at E
      refine go_lload (j := 0) (n := 29) rfl dJ9_floorDiv_f86c9_27 rfl ?_
      cases E
      exact go_lreturn rfl dJ9_floorDiv_f86c9_29
    · simp only [if_neg c3] at E
      refine go_lload (j := 0) (n := 24) rfl dJ9_floorDiv_f86c9_22 rfl ?_
      refine go_lconst (w := 1) (n := 25) rfl dJ9_floorDiv_f86c9_24 rfl ?_
      refine go_lsub (n := 26) dJ9_floorDiv_f86c9_25 rfl ?_
      cases E
      exact go_lreturn rfl dJ9_floorDiv_f86c9_26
theorem OXJ9_floorDiv_f86c9 {F : Nat} {l0 : Int} {l2 : Int} {h hf : HP} {r : Int} (e : XJ9_floorDiv_f86c9 F l0 l2 h = some (r, hf)) : Ok MJ9_floorDiv_f86c9 [vl l0, vl l2] (some (vl r)) h hf := fun K _ _ _ => SXJ9_floorDiv_f86c9 l0 l2 h e
theorem yw_J9_floorDiv_f86c9 : YW yJ9_floorDiv_f86c9 cJ9_floorDiv_f86c9 6 (some .long) 2 := ⟨bw_of 2159 (by decide +kernel) rfl, bw_of 135 (by decide +kernel) rfl, ⟨by decide +kernel, by decide +kernel, by decide +kernel⟩, by decide +kernel⟩
theorem wml_RX12_272 : Cond.methodLink RX12 272 yJ9_floorDiv_f86c9 ∈ BW := bw_of 2157 (by decide +kernel) rfl
theorem wst_J9_floorDiv_f86c9 : Cond.static yJ9_floorDiv_f86c9 ∈ BW := bw_of 2158 (by decide +kernel) rfl
abbrev MX12_rounded : MI := (RX12, cX12_rounded, 6, (some .long), 3, none, "rounded")
noncomputable def X12_rounded (F : Nat)   (l0 : Int) (l2 : Int)  (h : HP) : Option (Int × HP) :=
  xb (XJ9_floorDiv_f86c9 F l0 l2 h) fun v1 h2 =>
  some (if (xcmp (w64 (l0 - (w64 (v1 * l2)))) (w64 ((w64 ((w64 (v1 * l2)) + l2)) - l0))) < 0 then w64 (v1 * l2) else w64 ((w64 (v1 * l2)) + l2), h2)
set_option maxRecDepth 100000 in
theorem SX12_rounded {K : Ctx} {F : Nat} {r : Int} {hf : HP}     (l0 : Int) (l2 : Int)  (h : HP) (E : X12_rounded F   l0 l2 h = some (r, hf)) : Go K MX12_rounded (QM K (some (vl r)) hf) hf 0 [(0, vl l0), (2, vl l2)] [] h := by
  unfold X12_rounded at E
  refine go_lload_n (j := 0) (n := 1) rfl rfl dX12_rounded_0 rfl ?_
  refine go_lload_n (j := 1) (n := 2) rfl rfl dX12_rounded_1 rfl ?_
  replace E := xb_some E; obtain ⟨v1, h2, ev1, E⟩ := E
  refine go_callS (y := yJ9_floorDiv_f86c9) (n := 5) (st := []) (as := [vl l0, vl l2]) (stk9 := [vl v1]) (OXJ9_floorDiv_f86c9 ev1) yw_J9_floorDiv_f86c9 wml_RX12_272 wst_J9_floorDiv_f86c9 (Nat.le_of_ble_eq_true rfl) rfl ⟨Nat.le_of_ble_eq_true rfl, Nat.le_of_ble_eq_true rfl⟩ (Nat.le_of_ble_eq_true rfl) dX12_rounded_2 rfl rfl rfl ?_
  refine go_lload_n (j := 1) (n := 6) rfl rfl dX12_rounded_5 rfl ?_
  refine go_lmul (n := 7) dX12_rounded_6 rfl ?_
  refine go_lstore (n := 9) (lv' := [(4, vl (w64 (v1 * l2))), (0, vl l0), (2, vl l2)]) dX12_rounded_7 rfl (Nat.le_of_ble_eq_true rfl) rfl ?_
  refine go_lload_n (j := 1) (n := 10) rfl rfl dX12_rounded_9 rfl ?_
  refine go_lload (j := 0) (n := 12) rfl dX12_rounded_10 rfl ?_
  refine go_lsub (n := 13) dX12_rounded_12 rfl ?_
  refine go_lload (j := 0) (n := 15) rfl dX12_rounded_13 rfl ?_
  refine go_lload_n (j := 2) (n := 16) rfl rfl dX12_rounded_15 rfl ?_
  refine go_ladd (n := 17) dX12_rounded_16 rfl ?_
  refine go_lload_n (j := 1) (n := 18) rfl rfl dX12_rounded_17 rfl ?_
  refine go_lsub (n := 19) dX12_rounded_18 rfl ?_
  refine go_lcmp (n := 20) dX12_rounded_19 rfl ?_
  refine go_if_lt (tgt := 30) (n := 23) dX12_rounded_20 rfl rfl (fun c3 => ?_) (fun c3 => ?_)
  · simp only [if_pos c3] at E
    refine go_lload (j := 0) (n := 32) rfl dX12_rounded_30 rfl ?_
    cases E
    exact go_lreturn rfl dX12_rounded_32
  · simp only [if_neg c3] at E
    refine go_lload (j := 0) (n := 25) rfl dX12_rounded_23 rfl ?_
    refine go_lload_n (j := 2) (n := 26) rfl rfl dX12_rounded_25 rfl ?_
    refine go_ladd (n := 27) dX12_rounded_26 rfl ?_
    refine go_goto (tgt := 32) dX12_rounded_27 rfl ?_
    cases E
    exact go_lreturn rfl dX12_rounded_32
theorem OX12_rounded {F : Nat} {l0 : Int} {l2 : Int} {h hf : HP} {r : Int} (e : X12_rounded F l0 l2 h = some (r, hf)) : Ok MX12_rounded [vl l0, vl l2] (some (vl r)) h hf := fun K _ _ _ => SX12_rounded l0 l2 h e
