/-! the methods, decompiled: written by dec.py -/
theorem yw_X8_kind : YW yX8_kind cX8_kind 1 (some .int) 0 := ⟨bw_of 1154 (by decide +kernel) rfl, bw_of 118 (by decide +kernel) rfl, ⟨by decide +kernel, by decide +kernel, by decide +kernel⟩, by decide +kernel⟩
theorem wml_RX8_63 : Cond.methodLink RX8 63 yX8_kind ∈ BW := bw_of 1151 (by decide +kernel) rfl
theorem wim_X8_kind : Cond.instanceMethod yX8_kind ∈ BW := bw_of 1153 (by decide +kernel) rfl
theorem wse_X8_kind : Cond.selects RX8 yX8_kind yX8_kind ∈ BW := bw_of 15 (by decide +kernel) rfl
theorem yw_X8_push : YW yX8_push cX8_push 2 none 1 := ⟨bw_of 1211 (by decide +kernel) rfl, bw_of 118 (by decide +kernel) rfl, ⟨by decide +kernel, by decide +kernel, by decide +kernel⟩, by decide +kernel⟩
theorem wml_RX8_128 : Cond.methodLink RX8 128 yX8_push ∈ BW := bw_of 1208 (by decide +kernel) rfl
theorem wim_X8_push : Cond.instanceMethod yX8_push ∈ BW := bw_of 1210 (by decide +kernel) rfl
theorem wse_X8_push : Cond.selects RX8 yX8_push yX8_push ∈ BW := bw_of 29 (by decide +kernel) rfl
theorem yw_X8_readCompared : YW yX8_readCompared cX8_readCompared 2 (some .boolean) 0 := ⟨bw_of 1215 (by decide +kernel) rfl, bw_of 118 (by decide +kernel) rfl, ⟨by decide +kernel, by decide +kernel, by decide +kernel⟩, by decide +kernel⟩
theorem wml_RX8_131 : Cond.methodLink RX8 131 yX8_readCompared ∈ BW := bw_of 1212 (by decide +kernel) rfl
theorem wim_X8_readCompared : Cond.instanceMethod yX8_readCompared ∈ BW := bw_of 1214 (by decide +kernel) rfl
theorem wse_X8_readCompared : Cond.selects RX8 yX8_readCompared yX8_readCompared ∈ BW := bw_of 30 (by decide +kernel) rfl
theorem yw_X8_closeWhatEnds : YW yX8_closeWhatEnds cX8_closeWhatEnds 2 none 0 := ⟨bw_of 1219 (by decide +kernel) rfl, bw_of 118 (by decide +kernel) rfl, ⟨by decide +kernel, by decide +kernel, by decide +kernel⟩, by decide +kernel⟩
theorem wml_RX8_134 : Cond.methodLink RX8 134 yX8_closeWhatEnds ∈ BW := bw_of 1216 (by decide +kernel) rfl
theorem wim_X8_closeWhatEnds : Cond.instanceMethod yX8_closeWhatEnds ∈ BW := bw_of 1218 (by decide +kernel) rfl
theorem wse_X8_closeWhatEnds : Cond.selects RX8 yX8_closeWhatEnds yX8_closeWhatEnds ∈ BW := bw_of 31 (by decide +kernel) rfl
abbrev MX8_readCondition : MI := (RX8, cX8_readCondition, 4, (some .boolean), 6, none, "readCondition")
noncomputable def X8_readCondition_L171 (F : Nat)  (rc12 : Nat → Int → HP → Option (Int × HP)) (l0 : Nat) (l1 : Int)  (h : HP) : Option (Int × HP) :=
  rc12 l0 (w32 (l1 + 1)) h
set_option maxRecDepth 100000 in
theorem SX8_readCondition_L171 {K : Ctx} {F : Nat} {r : Int} {hf : HP}   (rc12 : Nat → Int → HP → Option (Int × HP)) (hrc12 : ∀ l0 l1 h, rc12 l0 l1 h = some (r, hf) → Go K MX8_readCondition (QM K (some (vi r)) hf) hf 12 [(0, vr (some l0)), (1, vi l1)] [] h) (l0 : Nat) (l1 : Int)  (h : HP) (E : X8_readCondition_L171 F  rc12 l0 l1 h = some (r, hf)) : Go K MX8_readCondition (QM K (some (vi r)) hf) hf 171 [(0, vr (some l0)), (1, vi l1)] [] h := by
  unfold X8_readCondition_L171 at E
  refine go_iinc (j := 1) (n := 174) (lv' := [(1, vi (w32 (l1 + 1))), (0, vr (some l0))]) rfl dX8_readCondition_171 rfl (Nat.le_of_ble_eq_true rfl) rfl ?_
  refine go_goto (tgt := 12) dX8_readCondition_174 rfl ?_
  refine go_pick (lv' := [(0, vr (some l0)), (1, vi (w32 (l1 + 1)))]) [1, 0] rfl ?_
  exact hrc12 _ _ _ E
noncomputable def X8_readCondition_L37 (F : Nat)  (rc12 : Nat → Int → HP → Option (Int × HP)) (l0 : Nat) (l1 : Int) (l2 : Int)  (h : HP) : Option (Int × HP) :=
  (xgI h (some l0) 8 17 12).bind fun v1 =>
  if v1 < 6 then
    (xgI h (some l0) 8 17 6).bind fun v3 =>
    (xpI h (some l0) 8 17 6 (w32 (v3 + 1))).bind fun h4 =>
    (xgI h4 (some l0) 8 17 12).bind fun v5 =>
    (xpI h4 (some l0) 8 17 12 (w32 (v5 + 1))).bind fun h6 =>
    (xrc h6 (some l0) 8 17).bind fun a9 =>
    xb (X8_push F a9 l2 h6) fun v7 h8 =>
    X8_readCondition_L171 F rc12 l0 l1 h8
  else
    some (0, h)
set_option maxRecDepth 100000 in
theorem SX8_readCondition_L37 {K : Ctx} {F : Nat} {r : Int} {hf : HP}   (rc12 : Nat → Int → HP → Option (Int × HP)) (hrc12 : ∀ l0 l1 h, rc12 l0 l1 h = some (r, hf) → Go K MX8_readCondition (QM K (some (vi r)) hf) hf 12 [(0, vr (some l0)), (1, vi l1)] [] h) (l0 : Nat) (l1 : Int) (l2 : Int)  (h : HP) (E : X8_readCondition_L37 F  rc12 l0 l1 l2 h = some (r, hf)) : Go K MX8_readCondition (QM K (some (vi r)) hf) hf 37 [(0, vr (some l0)), (1, vi l1), (2, vi l2)] [] h := by
  unfold X8_readCondition_L37 at E
  refine go_aload_n (j := 0) (n := 38) rfl rfl dX8_readCondition_37 rfl ?_
  replace E := Option.bind_eq_some_iff.mp E; obtain ⟨v1, ev1, E⟩ := E
  refine go_getI (n := 41) ev1 fl_RX8_125 rfl dX8_readCondition_38 rfl ?_
  refine go_bipush (z := 6) (n := 43) ⟨by decide, by decide⟩ dX8_readCondition_41 rfl ?_
  refine go_icmp_lt (tgt := 48) (n := 46) dX8_readCondition_43 rfl rfl (fun c2 => ?_) (fun c2 => ?_)
  · rw [if_pos c2] at E
    refine go_aload_n (j := 0) (n := 49) rfl rfl dX8_readCondition_48 rfl ?_
    refine go_dup (n := 50) rfl dX8_readCondition_49 rfl ?_
    replace E := Option.bind_eq_some_iff.mp E; obtain ⟨v3, ev3, E⟩ := E
    refine go_getI (n := 53) ev3 fl_RX8_50 rfl dX8_readCondition_50 rfl ?_
    refine go_iconst (z := 1) (n := 54) ⟨by decide, by decide⟩ dX8_readCondition_53 rfl ?_
    refine go_iadd (n := 55) dX8_readCondition_54 rfl ?_
    replace E := Option.bind_eq_some_iff.mp E; obtain ⟨h4, eh4, E⟩ := E
    refine go_putI (n := 58) eh4 fl_RX8_50 rfl dX8_readCondition_55 rfl ?_
    refine go_aload_n (j := 0) (n := 59) rfl rfl dX8_readCondition_58 rfl ?_
    refine go_dup (n := 60) rfl dX8_readCondition_59 rfl ?_
    replace E := Option.bind_eq_some_iff.mp E; obtain ⟨v5, ev5, E⟩ := E
    refine go_getI (n := 63) ev5 fl_RX8_125 rfl dX8_readCondition_60 rfl ?_
    refine go_iconst (z := 1) (n := 64) ⟨by decide, by decide⟩ dX8_readCondition_63 rfl ?_
    refine go_iadd (n := 65) dX8_readCondition_64 rfl ?_
    replace E := Option.bind_eq_some_iff.mp E; obtain ⟨h6, eh6, E⟩ := E
    refine go_putI (n := 68) eh6 fl_RX8_125 rfl dX8_readCondition_65 rfl ?_
    refine go_aload_n (j := 0) (n := 69) rfl rfl dX8_readCondition_68 rfl ?_
    refine go_iload_n (j := 2) (n := 70) rfl rfl dX8_readCondition_69 rfl ?_
    replace E := Option.bind_eq_some_iff.mp E; obtain ⟨a9, ea9, E⟩ := E
    obtain ⟨fa9, ga9⟩ := xrc_some ea9
    replace E := xb_some E; obtain ⟨v7, h8, ev7, E⟩ := E
    refine go_callV (y := yX8_push) (n := 73) (st := []) (as := [vi l2]) (stk9 := []) (OX8_push ev7) yw_X8_push ci_8 ga9 wml_RX8_128 wim_X8_push wse_X8_push (Nat.le_of_ble_eq_true rfl) rfl ⟨Nat.le_of_ble_eq_true rfl, Nat.le_of_ble_eq_true rfl⟩ (Nat.le_of_ble_eq_true rfl) dX8_readCondition_70 rfl (by cases fa9; rfl) rfl ?_
    refine go_goto (tgt := 171) dX8_readCondition_73 rfl ?_
    refine go_pick (lv' := [(0, vr (some l0)), (1, vi l1)]) [0, 1] rfl ?_
    exact SX8_readCondition_L171   _ hrc12 _ _  _ E
  · rw [if_neg c2] at E
    refine go_iconst (z := 0) (n := 47) ⟨by decide, by decide⟩ dX8_readCondition_46 rfl ?_
    cases E
    exact go_zreturn rfl (Or.inl rfl) dX8_readCondition_47
noncomputable def X8_readCondition_L140 (F : Nat)  (rc12 : Nat → Int → HP → Option (Int × HP)) (l0 : Nat) (l1 : Int) (l3 : Int) (s0 : Int) (s1 : Option Nat) (h : HP) : Option (Int × HP) :=
  (xrc h s1 8 17).bind fun a3 =>
  xb (X8_settle F a3 s0 h) fun v1 h2 =>
  if l3 = (-1) then
    (xrc h2 (some l0) 8 17).bind fun a10 =>
    xb (X8_emit F a10 (-1) h2) fun v8 h9 =>
    (xgI h9 (some l0) 8 17 11).bind fun v11 =>
    some (if v11 = 0 then 1 else 0, h9)
  else
    (xrc h2 (some l0) 8 17).bind fun a7 =>
    xb (X8_push F a7 l3 h2) fun v5 h6 =>
    X8_readCondition_L171 F rc12 l0 l1 h6
set_option maxRecDepth 100000 in
theorem SX8_readCondition_L140 {K : Ctx} {F : Nat} {r : Int} {hf : HP}   (rc12 : Nat → Int → HP → Option (Int × HP)) (hrc12 : ∀ l0 l1 h, rc12 l0 l1 h = some (r, hf) → Go K MX8_readCondition (QM K (some (vi r)) hf) hf 12 [(0, vr (some l0)), (1, vi l1)] [] h) (l0 : Nat) (l1 : Int) (l3 : Int) (s0 : Int) (s1 : Option Nat) (h : HP) (E : X8_readCondition_L140 F  rc12 l0 l1 l3 s0 s1 h = some (r, hf)) : Go K MX8_readCondition (QM K (some (vi r)) hf) hf 140 [(0, vr (some l0)), (1, vi l1), (3, vi l3)] [vi s0, vr s1] h := by
  unfold X8_readCondition_L140 at E
  replace E := Option.bind_eq_some_iff.mp E; obtain ⟨a3, ea3, E⟩ := E
  obtain ⟨fa3, ga3⟩ := xrc_some ea3
  replace E := xb_some E; obtain ⟨v1, h2, ev1, E⟩ := E
  refine go_callV (y := yX8_settle) (n := 143) (st := []) (as := [vi s0]) (stk9 := []) (OX8_settle ev1) yw_X8_settle ci_8 ga3 wml_RX8_137 wim_X8_settle wse_X8_settle (Nat.le_of_ble_eq_true rfl) rfl ⟨Nat.le_of_ble_eq_true rfl, Nat.le_of_ble_eq_true rfl⟩ (Nat.le_of_ble_eq_true rfl) dX8_readCondition_140 rfl (by cases fa3; rfl) rfl ?_
  refine go_iload_n (j := 2) (n := 144) rfl rfl dX8_readCondition_143 rfl ?_
  refine go_iconst (z := (-1)) (n := 145) ⟨by decide, by decide⟩ dX8_readCondition_144 rfl ?_
  refine go_icmp_ne (tgt := 166) (n := 148) dX8_readCondition_145 rfl rfl (fun c4 => ?_) (fun c4 => ?_)
  · rw [if_neg c4] at E
    refine go_aload_n (j := 0) (n := 167) rfl rfl dX8_readCondition_166 rfl ?_
    refine go_iload_n (j := 2) (n := 168) rfl rfl dX8_readCondition_167 rfl ?_
    replace E := Option.bind_eq_some_iff.mp E; obtain ⟨a7, ea7, E⟩ := E
    obtain ⟨fa7, ga7⟩ := xrc_some ea7
    replace E := xb_some E; obtain ⟨v5, h6, ev5, E⟩ := E
    refine go_callV (y := yX8_push) (n := 171) (st := []) (as := [vi l3]) (stk9 := []) (OX8_push ev5) yw_X8_push ci_8 ga7 wml_RX8_128 wim_X8_push wse_X8_push (Nat.le_of_ble_eq_true rfl) rfl ⟨Nat.le_of_ble_eq_true rfl, Nat.le_of_ble_eq_true rfl⟩ (Nat.le_of_ble_eq_true rfl) dX8_readCondition_168 rfl (by cases fa7; rfl) rfl ?_
    refine go_pick (lv' := [(0, vr (some l0)), (1, vi l1)]) [0, 1] rfl ?_
    exact SX8_readCondition_L171   _ hrc12 _ _  _ E
  · rw [if_pos c4] at E
    refine go_aload_n (j := 0) (n := 149) rfl rfl dX8_readCondition_148 rfl ?_
    refine go_iconst (z := (-1)) (n := 150) ⟨by decide, by decide⟩ dX8_readCondition_149 rfl ?_
    replace E := Option.bind_eq_some_iff.mp E; obtain ⟨a10, ea10, E⟩ := E
    obtain ⟨fa10, ga10⟩ := xrc_some ea10
    replace E := xb_some E; obtain ⟨v8, h9, ev8, E⟩ := E
    refine go_callV (y := yX8_emit) (n := 153) (st := []) (as := [vi (-1)]) (stk9 := []) (OX8_emit ev8) yw_X8_emit ci_8 ga10 wml_RX8_110 wim_X8_emit wse_X8_emit (Nat.le_of_ble_eq_true rfl) rfl ⟨Nat.le_of_ble_eq_true rfl, Nat.le_of_ble_eq_true rfl⟩ (Nat.le_of_ble_eq_true rfl) dX8_readCondition_150 rfl (by cases fa10; rfl) rfl ?_
    refine go_aload_n (j := 0) (n := 154) rfl rfl dX8_readCondition_153 rfl ?_
    replace E := Option.bind_eq_some_iff.mp E; obtain ⟨v11, ev11, E⟩ := E
    refine go_getI (n := 157) ev11 fl_RX8_122 rfl dX8_readCondition_154 rfl ?_
    refine go_if_ne (tgt := 164) (n := 160) dX8_readCondition_157 rfl rfl (fun c12 => ?_) (fun c12 => ?_)
    · simp only [if_neg c12] at E
      refine go_iconst (z := 0) (n := 165) ⟨by decide, by decide⟩ dX8_readCondition_164 rfl ?_
      cases E
      exact go_zreturn rfl (Or.inl rfl) dX8_readCondition_165
    · simp only [if_pos c12] at E
      refine go_iconst (z := 1) (n := 161) ⟨by decide, by decide⟩ dX8_readCondition_160 rfl ?_
      refine go_goto (tgt := 165) dX8_readCondition_161 rfl ?_
      cases E
      exact go_zreturn rfl (Or.inr rfl) dX8_readCondition_165
noncomputable def X8_readCondition_L122 (F : Nat)  (rc12 : Nat → Int → HP → Option (Int × HP)) (l0 : Nat) (l1 : Int) (s0 : Int) (h : HP) : Option (Int × HP) :=
  X8_readCondition_L140 F rc12 l0 l1 s0 (if s0 = 267 then 267 else 266) (some l0) h
set_option maxRecDepth 100000 in
theorem SX8_readCondition_L122 {K : Ctx} {F : Nat} {r : Int} {hf : HP}   (rc12 : Nat → Int → HP → Option (Int × HP)) (hrc12 : ∀ l0 l1 h, rc12 l0 l1 h = some (r, hf) → Go K MX8_readCondition (QM K (some (vi r)) hf) hf 12 [(0, vr (some l0)), (1, vi l1)] [] h) (l0 : Nat) (l1 : Int) (s0 : Int) (h : HP) (E : X8_readCondition_L122 F  rc12 l0 l1 s0 h = some (r, hf)) : Go K MX8_readCondition (QM K (some (vi r)) hf) hf 122 [(0, vr (some l0)), (1, vi l1)] [vi s0] h := by
  unfold X8_readCondition_L122 at E
  refine go_istore_n (n := 123) (lv' := [(3, vi s0), (0, vr (some l0)), (1, vi l1)]) rfl dX8_readCondition_122 rfl (Nat.le_of_ble_eq_true rfl) rfl ?_
  refine go_aload_n (j := 1) (n := 124) rfl rfl dX8_readCondition_123 rfl ?_
  refine go_iload_n (j := 0) (n := 125) rfl rfl dX8_readCondition_124 rfl ?_
  refine go_sipush (z := 267) (n := 128) ⟨by decide, by decide⟩ dX8_readCondition_125 rfl ?_
  refine go_icmp_ne (tgt := 137) (n := 131) dX8_readCondition_128 rfl rfl (fun c1 => ?_) (fun c1 => ?_)
  · simp only [if_neg c1] at E
    refine go_sipush (z := 266) (n := 140) ⟨by decide, by decide⟩ dX8_readCondition_137 rfl ?_
    refine go_pick (lv' := [(0, vr (some l0)), (1, vi l1), (3, vi s0)]) [1, 2, 0] rfl ?_
    exact SX8_readCondition_L140   _ hrc12 _ _ _ _ _ _ E
  · simp only [if_pos c1] at E
    refine go_sipush (z := 267) (n := 134) ⟨by decide, by decide⟩ dX8_readCondition_131 rfl ?_
    refine go_goto (tgt := 140) dX8_readCondition_134 rfl ?_
    refine go_pick (lv' := [(0, vr (some l0)), (1, vi l1), (3, vi s0)]) [1, 2, 0] rfl ?_
    exact SX8_readCondition_L140   _ hrc12 _ _ _ _ _ _ E
noncomputable def X8_readCondition_L12 (F : Nat)   (k : Nat) : Nat → Int → HP → Option (Int × HP) :=
  Nat.rec (motive := fun _ => Nat → Int → HP → Option (Int × HP)) (fun _ _ _ => none) (fun _ rc12 l0 l1 h =>
    if 400 ≤ l1 then
      some (0, h)
    else
      (xrc h (some l0) 8 17).bind fun a4 =>
      xb (X8_kind F a4 h) fun v2 h3 =>
      if v2 = 268 then
        X8_readCondition_L37 F rc12 l0 l1 v2 h3
      else
        if v2 = 40 then
          X8_readCondition_L37 F rc12 l0 l1 v2 h3
        else
          (xrc h3 (some l0) 8 17).bind fun a9 =>
          xb (X8_readCompared F a9 h3) fun v7 h8 =>
          if v7 = 0 then
            some (0, h8)
          else
            (xrc h8 (some l0) 8 17).bind fun a13 =>
            xb (X8_closeWhatEnds F a13 h8) fun v11 h12 =>
            (xrc h12 (some l0) 8 17).bind fun a16 =>
            xb (X8_takes F a16 267 h12) fun v14 h15 =>
            if v14 = 0 then
              (xrc h15 (some l0) 8 17).bind fun a20 =>
              xb (X8_takes F a20 266 h15) fun v18 h19 =>
              X8_readCondition_L122 F rc12 l0 l1 (if v18 = 0 then (-1) else 266) h19
            else
              X8_readCondition_L122 F rc12 l0 l1 267 h15) k
theorem X8_readCondition_L12_s (F : Nat)   (k : Nat) (l0 : Nat) (l1 : Int)  (h : HP) : X8_readCondition_L12 F   (k + 1) l0 l1 h =
    if 400 ≤ l1 then
      some (0, h)
    else
      (xrc h (some l0) 8 17).bind fun a4 =>
      xb (X8_kind F a4 h) fun v2 h3 =>
      if v2 = 268 then
        X8_readCondition_L37 F (X8_readCondition_L12 F k) l0 l1 v2 h3
      else
        if v2 = 40 then
          X8_readCondition_L37 F (X8_readCondition_L12 F k) l0 l1 v2 h3
        else
          (xrc h3 (some l0) 8 17).bind fun a9 =>
          xb (X8_readCompared F a9 h3) fun v7 h8 =>
          if v7 = 0 then
            some (0, h8)
          else
            (xrc h8 (some l0) 8 17).bind fun a13 =>
            xb (X8_closeWhatEnds F a13 h8) fun v11 h12 =>
            (xrc h12 (some l0) 8 17).bind fun a16 =>
            xb (X8_takes F a16 267 h12) fun v14 h15 =>
            if v14 = 0 then
              (xrc h15 (some l0) 8 17).bind fun a20 =>
              xb (X8_takes F a20 266 h15) fun v18 h19 =>
              X8_readCondition_L122 F (X8_readCondition_L12 F k) l0 l1 (if v18 = 0 then (-1) else 266) h19
            else
              X8_readCondition_L122 F (X8_readCondition_L12 F k) l0 l1 267 h15 := rfl
set_option maxRecDepth 100000 in
theorem SX8_readCondition_L12 {K : Ctx} {F : Nat} {r : Int} {hf : HP}     : ∀ (k : Nat) (l0 : Nat) (l1 : Int)  (h : HP), X8_readCondition_L12 F   k l0 l1 h = some (r, hf) → Go K MX8_readCondition (QM K (some (vi r)) hf) hf 12 [(0, vr (some l0)), (1, vi l1)] [] h := by
  intro k
  induction k with
  | zero => intro l0 l1 h E; exact nomatch E
  | succ k hrc12 =>
    intro l0 l1 h E
    rw [X8_readCondition_L12_s] at E
    refine go_iload_n (j := 1) (n := 13) rfl rfl dX8_readCondition_12 rfl ?_
    refine go_sipush (z := 400) (n := 16) ⟨by decide, by decide⟩ dX8_readCondition_13 rfl ?_
    refine go_icmp_ge (tgt := 177) (n := 19) dX8_readCondition_16 rfl rfl (fun c1 => ?_) (fun c1 => ?_)
    · rw [if_pos c1] at E
      refine go_iconst (z := 0) (n := 178) ⟨by decide, by decide⟩ dX8_readCondition_177 rfl ?_
      cases E
      exact go_zreturn rfl (Or.inl rfl) dX8_readCondition_178
    · rw [if_neg c1] at E
      refine go_aload_n (j := 0) (n := 20) rfl rfl dX8_readCondition_19 rfl ?_
      replace E := Option.bind_eq_some_iff.mp E; obtain ⟨a4, ea4, E⟩ := E
      obtain ⟨fa4, ga4⟩ := xrc_some ea4
      replace E := xb_some E; obtain ⟨v2, h3, ev2, E⟩ := E
      refine go_callV (y := yX8_kind) (n := 23) (st := []) (as := []) (stk9 := [vi v2]) (OX8_kind ev2) yw_X8_kind ci_8 ga4 wml_RX8_63 wim_X8_kind wse_X8_kind (Nat.le_of_ble_eq_true rfl) rfl ⟨Nat.le_of_ble_eq_true rfl, Nat.le_of_ble_eq_true rfl⟩ (Nat.le_of_ble_eq_true rfl) dX8_readCondition_20 rfl (by cases fa4; rfl) rfl ?_
      refine go_istore_n (n := 24) (lv' := [(2, vi v2), (0, vr (some l0)), (1, vi l1)]) rfl dX8_readCondition_23 rfl (Nat.le_of_ble_eq_true rfl) rfl ?_
      refine go_iload_n (j := 0) (n := 25) rfl rfl dX8_readCondition_24 rfl ?_
      refine go_sipush (z := 268) (n := 28) ⟨by decide, by decide⟩ dX8_readCondition_25 rfl ?_
      refine go_icmp_eq (tgt := 37) (n := 31) dX8_readCondition_28 rfl rfl (fun c5 => ?_) (fun c5 => ?_)
      · rw [if_pos c5] at E
        refine go_pick (lv' := [(0, vr (some l0)), (1, vi l1), (2, vi v2)]) [1, 2, 0] rfl ?_
        exact SX8_readCondition_L37   _ hrc12 _ _ _  _ E
      · rw [if_neg c5] at E
        refine go_iload_n (j := 0) (n := 32) rfl rfl dX8_readCondition_31 rfl ?_
        refine go_bipush (z := 40) (n := 34) ⟨by decide, by decide⟩ dX8_readCondition_32 rfl ?_
        refine go_icmp_ne (tgt := 76) (n := 37) dX8_readCondition_34 rfl rfl (fun c6 => ?_) (fun c6 => ?_)
        · rw [if_neg c6] at E
          refine go_aload_n (j := 1) (n := 77) rfl rfl dX8_readCondition_76 rfl ?_
          replace E := Option.bind_eq_some_iff.mp E; obtain ⟨a9, ea9, E⟩ := E
          obtain ⟨fa9, ga9⟩ := xrc_some ea9
          replace E := xb_some E; obtain ⟨v7, h8, ev7, E⟩ := E
          refine go_callV (y := yX8_readCompared) (n := 80) (st := []) (as := []) (stk9 := [vi v7]) (OX8_readCompared ev7) yw_X8_readCompared ci_8 ga9 wml_RX8_131 wim_X8_readCompared wse_X8_readCompared (Nat.le_of_ble_eq_true rfl) rfl ⟨Nat.le_of_ble_eq_true rfl, Nat.le_of_ble_eq_true rfl⟩ (Nat.le_of_ble_eq_true rfl) dX8_readCondition_77 rfl (by cases fa9; rfl) rfl ?_
          refine go_if_ne (tgt := 85) (n := 83) dX8_readCondition_80 rfl rfl (fun c10 => ?_) (fun c10 => ?_)
          · rw [if_neg c10] at E
            refine go_aload_n (j := 1) (n := 86) rfl rfl dX8_readCondition_85 rfl ?_
            replace E := Option.bind_eq_some_iff.mp E; obtain ⟨a13, ea13, E⟩ := E
            obtain ⟨fa13, ga13⟩ := xrc_some ea13
            replace E := xb_some E; obtain ⟨v11, h12, ev11, E⟩ := E
            refine go_callV (y := yX8_closeWhatEnds) (n := 89) (st := []) (as := []) (stk9 := []) (OX8_closeWhatEnds ev11) yw_X8_closeWhatEnds ci_8 ga13 wml_RX8_134 wim_X8_closeWhatEnds wse_X8_closeWhatEnds (Nat.le_of_ble_eq_true rfl) rfl ⟨Nat.le_of_ble_eq_true rfl, Nat.le_of_ble_eq_true rfl⟩ (Nat.le_of_ble_eq_true rfl) dX8_readCondition_86 rfl (by cases fa13; rfl) rfl ?_
            refine go_aload_n (j := 1) (n := 90) rfl rfl dX8_readCondition_89 rfl ?_
            refine go_sipush (z := 267) (n := 93) ⟨by decide, by decide⟩ dX8_readCondition_90 rfl ?_
            replace E := Option.bind_eq_some_iff.mp E; obtain ⟨a16, ea16, E⟩ := E
            obtain ⟨fa16, ga16⟩ := xrc_some ea16
            replace E := xb_some E; obtain ⟨v14, h15, ev14, E⟩ := E
            refine go_callV (y := yX8_takes) (n := 96) (st := []) (as := [vi 267]) (stk9 := [vi v14]) (OX8_takes ev14) yw_X8_takes ci_8 ga16 wml_RX8_76 wim_X8_takes wse_X8_takes (Nat.le_of_ble_eq_true rfl) rfl ⟨Nat.le_of_ble_eq_true rfl, Nat.le_of_ble_eq_true rfl⟩ (Nat.le_of_ble_eq_true rfl) dX8_readCondition_93 rfl (by cases fa16; rfl) rfl ?_
            refine go_if_eq (tgt := 105) (n := 99) dX8_readCondition_96 rfl rfl (fun c17 => ?_) (fun c17 => ?_)
            · rw [if_pos c17] at E
              refine go_aload_n (j := 1) (n := 106) rfl rfl dX8_readCondition_105 rfl ?_
              refine go_sipush (z := 266) (n := 109) ⟨by decide, by decide⟩ dX8_readCondition_106 rfl ?_
              replace E := Option.bind_eq_some_iff.mp E; obtain ⟨a20, ea20, E⟩ := E
              obtain ⟨fa20, ga20⟩ := xrc_some ea20
              replace E := xb_some E; obtain ⟨v18, h19, ev18, E⟩ := E
              refine go_callV (y := yX8_takes) (n := 112) (st := []) (as := [vi 266]) (stk9 := [vi v18]) (OX8_takes ev18) yw_X8_takes ci_8 ga20 wml_RX8_76 wim_X8_takes wse_X8_takes (Nat.le_of_ble_eq_true rfl) rfl ⟨Nat.le_of_ble_eq_true rfl, Nat.le_of_ble_eq_true rfl⟩ (Nat.le_of_ble_eq_true rfl) dX8_readCondition_109 rfl (by cases fa20; rfl) rfl ?_
              refine go_if_eq (tgt := 121) (n := 115) dX8_readCondition_112 rfl rfl (fun c21 => ?_) (fun c21 => ?_)
              · simp only [if_pos c21] at E
                refine go_iconst (z := (-1)) (n := 122) ⟨by decide, by decide⟩ dX8_readCondition_121 rfl ?_
                refine go_pick (lv' := [(0, vr (some l0)), (1, vi l1)]) [1, 2] rfl ?_
                exact SX8_readCondition_L122   _ hrc12 _ _ _ _ E
              · simp only [if_neg c21] at E
                refine go_sipush (z := 266) (n := 118) ⟨by decide, by decide⟩ dX8_readCondition_115 rfl ?_
                refine go_goto (tgt := 122) dX8_readCondition_118 rfl ?_
                refine go_pick (lv' := [(0, vr (some l0)), (1, vi l1)]) [1, 2] rfl ?_
                exact SX8_readCondition_L122   _ hrc12 _ _ _ _ E
            · rw [if_neg c17] at E
              refine go_sipush (z := 267) (n := 102) ⟨by decide, by decide⟩ dX8_readCondition_99 rfl ?_
              refine go_goto (tgt := 122) dX8_readCondition_102 rfl ?_
              refine go_pick (lv' := [(0, vr (some l0)), (1, vi l1)]) [1, 2] rfl ?_
              exact SX8_readCondition_L122   _ hrc12 _ _ _ _ E
          · rw [if_pos c10] at E
            refine go_iconst (z := 0) (n := 84) ⟨by decide, by decide⟩ dX8_readCondition_83 rfl ?_
            cases E
            exact go_zreturn rfl (Or.inl rfl) dX8_readCondition_84
        · rw [if_pos c6] at E
          refine go_pick (lv' := [(0, vr (some l0)), (1, vi l1), (2, vi v2)]) [1, 2, 0] rfl ?_
          exact SX8_readCondition_L37   _ hrc12 _ _ _  _ E
noncomputable def X8_readCondition (F : Nat)   (l0 : Nat)  (h : HP) : Option (Int × HP) :=
  (xpI h (some l0) 8 17 11 0).bind fun h1 =>
  (xpI h1 (some l0) 8 17 12 0).bind fun h2 =>
  X8_readCondition_L12 F F l0 0 h2
set_option maxRecDepth 100000 in
theorem SX8_readCondition {K : Ctx} {F : Nat} {r : Int} {hf : HP}     (l0 : Nat)  (h : HP) (E : X8_readCondition F   l0 h = some (r, hf)) : Go K MX8_readCondition (QM K (some (vi r)) hf) hf 0 [(0, vr (some l0))] [] h := by
  unfold X8_readCondition at E
  refine go_aload_n (j := 0) (n := 1) rfl rfl dX8_readCondition_0 rfl ?_
  refine go_iconst (z := 0) (n := 2) ⟨by decide, by decide⟩ dX8_readCondition_1 rfl ?_
  replace E := Option.bind_eq_some_iff.mp E; obtain ⟨h1, eh1, E⟩ := E
  refine go_putI (n := 5) eh1 fl_RX8_122 rfl dX8_readCondition_2 rfl ?_
  refine go_aload_n (j := 0) (n := 6) rfl rfl dX8_readCondition_5 rfl ?_
  refine go_iconst (z := 0) (n := 7) ⟨by decide, by decide⟩ dX8_readCondition_6 rfl ?_
  replace E := Option.bind_eq_some_iff.mp E; obtain ⟨h2, eh2, E⟩ := E
  refine go_putI (n := 10) eh2 fl_RX8_125 rfl dX8_readCondition_7 rfl ?_
  refine go_iconst (z := 0) (n := 11) ⟨by decide, by decide⟩ dX8_readCondition_10 rfl ?_
  refine go_istore_n (n := 12) (lv' := [(1, vi 0), (0, vr (some l0))]) rfl dX8_readCondition_11 rfl (Nat.le_of_ble_eq_true rfl) rfl ?_
  refine go_pick (lv' := [(0, vr (some l0)), (1, vi 0)]) [1, 0] rfl ?_
  exact SX8_readCondition_L12     F _ _ _ E
theorem OX8_readCondition {F : Nat} {l0 : Nat} {h hf : HP} {r : Int} (e : X8_readCondition F l0 h = some (r, hf)) : Ok MX8_readCondition [vr (some l0)] (some (vi r)) h hf := fun K _ _ _ => SX8_readCondition l0 h e
theorem yw_X8_readCondition : YW yX8_readCondition cX8_readCondition 4 (some .boolean) 0 := ⟨bw_of 1207 (by decide +kernel) rfl, bw_of 118 (by decide +kernel) rfl, ⟨by decide +kernel, by decide +kernel, by decide +kernel⟩, by decide +kernel⟩
theorem wml_RX8_113 : Cond.methodLink RX8 113 yX8_readCondition ∈ BW := bw_of 1204 (by decide +kernel) rfl
theorem wim_X8_readCondition : Cond.instanceMethod yX8_readCondition ∈ BW := bw_of 1206 (by decide +kernel) rfl
theorem wse_X8_readCondition : Cond.selects RX8 yX8_readCondition yX8_readCondition ∈ BW := bw_of 28 (by decide +kernel) rfl
theorem yw_X8_readRound : YW yX8_readRound cX8_readRound 1 (some .boolean) 0 := ⟨bw_of 1203 (by decide +kernel) rfl, bw_of 118 (by decide +kernel) rfl, ⟨by decide +kernel, by decide +kernel, by decide +kernel⟩, by decide +kernel⟩
theorem wml_RX8_107 : Cond.methodLink RX8 107 yX8_readRound ∈ BW := bw_of 1200 (by decide +kernel) rfl
theorem wim_X8_readRound : Cond.instanceMethod yX8_readRound ∈ BW := bw_of 1202 (by decide +kernel) rfl
theorem wse_X8_readRound : Cond.selects RX8 yX8_readRound yX8_readRound ∈ BW := bw_of 27 (by decide +kernel) rfl
theorem yw_X8_readTotal : YW yX8_readTotal cX8_readTotal 3 (some .boolean) 0 := ⟨bw_of 1199 (by decide +kernel) rfl, bw_of 118 (by decide +kernel) rfl, ⟨by decide +kernel, by decide +kernel, by decide +kernel⟩, by decide +kernel⟩
theorem wml_RX8_104 : Cond.methodLink RX8 104 yX8_readTotal ∈ BW := bw_of 1196 (by decide +kernel) rfl
theorem wim_X8_readTotal : Cond.instanceMethod yX8_readTotal ∈ BW := bw_of 1198 (by decide +kernel) rfl
theorem wse_X8_readTotal : Cond.selects RX8 yX8_readTotal yX8_readTotal ∈ BW := bw_of 26 (by decide +kernel) rfl
theorem yw_X8_readSet : YW yX8_readSet cX8_readSet 2 (some .boolean) 1 := ⟨bw_of 1170 (by decide +kernel) rfl, bw_of 118 (by decide +kernel) rfl, ⟨by decide +kernel, by decide +kernel, by decide +kernel⟩, by decide +kernel⟩
theorem wml_RX8_101 : Cond.methodLink RX8 101 yX8_readSet ∈ BW := bw_of 1167 (by decide +kernel) rfl
theorem wim_X8_readSet : Cond.instanceMethod yX8_readSet ∈ BW := bw_of 1169 (by decide +kernel) rfl
theorem wse_X8_readSet : Cond.selects RX8 yX8_readSet yX8_readSet ∈ BW := bw_of 19 (by decide +kernel) rfl
abbrev MX8_readLine : MI := (RX8, cX8_readLine, 2, (some .boolean), 7, none, "readLine")
noncomputable def X8_readLine_L124 (F : Nat)   (l0 : Nat) (l1 : Int)  (h : HP) : Option (Int × HP) :=
  (xrc h (some l0) 8 17).bind fun a3 =>
  xb (X8_emit F a3 l1 h) fun v1 h2 =>
  (xrc h2 (some l0) 8 17).bind fun a6 =>
  xb (X8_takes F a6 265 h2) fun v4 h5 =>
  if v4 = 0 then
    some (0, h5)
  else
    (xrc h5 (some l0) 8 17).bind fun a10 =>
    xb (X8_readCondition F a10 h5) fun v8 h9 =>
    some (if v8 = 0 then 0 else 1, h9)
set_option maxRecDepth 100000 in
theorem SX8_readLine_L124 {K : Ctx} {F : Nat} {r : Int} {hf : HP}     (l0 : Nat) (l1 : Int)  (h : HP) (E : X8_readLine_L124 F   l0 l1 h = some (r, hf)) : Go K MX8_readLine (QM K (some (vi r)) hf) hf 124 [(0, vr (some l0)), (1, vi l1)] [] h := by
  unfold X8_readLine_L124 at E
  refine go_aload_n (j := 0) (n := 125) rfl rfl dX8_readLine_124 rfl ?_
  refine go_iload_n (j := 1) (n := 126) rfl rfl dX8_readLine_125 rfl ?_
  replace E := Option.bind_eq_some_iff.mp E; obtain ⟨a3, ea3, E⟩ := E
  obtain ⟨fa3, ga3⟩ := xrc_some ea3
  replace E := xb_some E; obtain ⟨v1, h2, ev1, E⟩ := E
  refine go_callV (y := yX8_emit) (n := 129) (st := []) (as := [vi l1]) (stk9 := []) (OX8_emit ev1) yw_X8_emit ci_8 ga3 wml_RX8_110 wim_X8_emit wse_X8_emit (Nat.le_of_ble_eq_true rfl) rfl ⟨Nat.le_of_ble_eq_true rfl, Nat.le_of_ble_eq_true rfl⟩ (Nat.le_of_ble_eq_true rfl) dX8_readLine_126 rfl (by cases fa3; rfl) rfl ?_
  refine go_aload_n (j := 0) (n := 130) rfl rfl dX8_readLine_129 rfl ?_
  refine go_sipush (z := 265) (n := 133) ⟨by decide, by decide⟩ dX8_readLine_130 rfl ?_
  replace E := Option.bind_eq_some_iff.mp E; obtain ⟨a6, ea6, E⟩ := E
  obtain ⟨fa6, ga6⟩ := xrc_some ea6
  replace E := xb_some E; obtain ⟨v4, h5, ev4, E⟩ := E
  refine go_callV (y := yX8_takes) (n := 136) (st := []) (as := [vi 265]) (stk9 := [vi v4]) (OX8_takes ev4) yw_X8_takes ci_8 ga6 wml_RX8_76 wim_X8_takes wse_X8_takes (Nat.le_of_ble_eq_true rfl) rfl ⟨Nat.le_of_ble_eq_true rfl, Nat.le_of_ble_eq_true rfl⟩ (Nat.le_of_ble_eq_true rfl) dX8_readLine_133 rfl (by cases fa6; rfl) rfl ?_
  refine go_if_eq (tgt := 150) (n := 139) dX8_readLine_136 rfl rfl (fun c7 => ?_) (fun c7 => ?_)
  · rw [if_pos c7] at E
    refine go_iconst (z := 0) (n := 151) ⟨by decide, by decide⟩ dX8_readLine_150 rfl ?_
    cases E
    exact go_zreturn rfl (Or.inl rfl) dX8_readLine_151
  · rw [if_neg c7] at E
    refine go_aload_n (j := 0) (n := 140) rfl rfl dX8_readLine_139 rfl ?_
    replace E := Option.bind_eq_some_iff.mp E; obtain ⟨a10, ea10, E⟩ := E
    obtain ⟨fa10, ga10⟩ := xrc_some ea10
    replace E := xb_some E; obtain ⟨v8, h9, ev8, E⟩ := E
    refine go_callV (y := yX8_readCondition) (n := 143) (st := []) (as := []) (stk9 := [vi v8]) (OX8_readCondition ev8) yw_X8_readCondition ci_8 ga10 wml_RX8_113 wim_X8_readCondition wse_X8_readCondition (Nat.le_of_ble_eq_true rfl) rfl ⟨Nat.le_of_ble_eq_true rfl, Nat.le_of_ble_eq_true rfl⟩ (Nat.le_of_ble_eq_true rfl) dX8_readLine_140 rfl (by cases fa10; rfl) rfl ?_
    refine go_if_eq (tgt := 150) (n := 146) dX8_readLine_143 rfl rfl (fun c11 => ?_) (fun c11 => ?_)
    · simp only [if_pos c11] at E
      refine go_iconst (z := 0) (n := 151) ⟨by decide, by decide⟩ dX8_readLine_150 rfl ?_
      cases E
      exact go_zreturn rfl (Or.inl rfl) dX8_readLine_151
    · simp only [if_neg c11] at E
      refine go_iconst (z := 1) (n := 147) ⟨by decide, by decide⟩ dX8_readLine_146 rfl ?_
      refine go_goto (tgt := 151) dX8_readLine_147 rfl ?_
      cases E
      exact go_zreturn rfl (Or.inr rfl) dX8_readLine_151
noncomputable def X8_readLine (F : Nat)   (l0 : Nat)  (h : HP) : Option (Int × HP) :=
  (xrc h (some l0) 8 17).bind fun a3 =>
  xb (X8_takes F a3 256 h) fun v1 h2 =>
  if v1 = 0 then
    (xrc h2 (some l0) 8 17).bind fun a7 =>
    xb (X8_takes F a7 257 h2) fun v5 h6 =>
    if v5 = 0 then
      (xrc h6 (some l0) 8 17).bind fun a11 =>
      xb (X8_takes F a11 258 h6) fun v9 h10 =>
      if v9 = 0 then
        (xrc h10 (some l0) 8 17).bind fun a15 =>
        xb (X8_takes F a15 261 h10) fun v13 h14 =>
        if v13 = 0 then
          (xrc h14 (some l0) 8 17).bind fun a19 =>
          xb (X8_kind F a19 h14) fun v17 h18 =>
          (xrc h18 (some l0) 8 17).bind fun a22 =>
          xb (X8_takes F a22 263 h18) fun v20 h21 =>
          if v20 = 0 then
            (xrc h21 (some l0) 8 17).bind fun a26 =>
            xb (X8_takes F a26 264 h21) fun v24 h25 =>
            if v24 = 0 then
              some (0, h25)
            else
              X8_readLine_L124 F l0 v17 h25
          else
            X8_readLine_L124 F l0 v17 h21
        else
          (xrc h14 (some l0) 8 17).bind fun a30 =>
          xb (X8_readRound F a30 h14) fun v28 h29 =>
          xz v28 h29
      else
        (xrc h10 (some l0) 8 17).bind fun a34 =>
        xb (X8_readTotal F a34 h10) fun v32 h33 =>
        xz v32 h33
    else
      (xrc h6 (some l0) 8 17).bind fun a38 =>
      xb (X8_readSet F a38 1 h6) fun v36 h37 =>
      xz v36 h37
  else
    (xrc h2 (some l0) 8 17).bind fun a42 =>
    xb (X8_takeNumber F a42 1 9 h2) fun v40 h41 =>
    if v40 = 0 then
      some (0, h41)
    else
      (xgI h41 (some l0) 8 17 7).bind fun v44 =>
      (xrc h41 (some l0) 8 17).bind fun a47 =>
      xb (X8_takes F a47 257 h41) fun v45 h46 =>
      if v45 = 0 then
        some (0, h46)
      else
        (xrc h46 (some l0) 8 17).bind fun a51 =>
        xb (X8_readSet F a51 v44 h46) fun v49 h50 =>
        some (if v49 = 0 then 0 else 1, h50)
set_option maxRecDepth 100000 in
theorem SX8_readLine {K : Ctx} {F : Nat} {r : Int} {hf : HP}     (l0 : Nat)  (h : HP) (E : X8_readLine F   l0 h = some (r, hf)) : Go K MX8_readLine (QM K (some (vi r)) hf) hf 0 [(0, vr (some l0))] [] h := by
  unfold X8_readLine at E
  refine go_aload_n (j := 0) (n := 1) rfl rfl dX8_readLine_0 rfl ?_
  refine go_sipush (z := 256) (n := 4) ⟨by decide, by decide⟩ dX8_readLine_1 rfl ?_
  replace E := Option.bind_eq_some_iff.mp E; obtain ⟨a3, ea3, E⟩ := E
  obtain ⟨fa3, ga3⟩ := xrc_some ea3
  replace E := xb_some E; obtain ⟨v1, h2, ev1, E⟩ := E
  refine go_callV (y := yX8_takes) (n := 7) (st := []) (as := [vi 256]) (stk9 := [vi v1]) (OX8_takes ev1) yw_X8_takes ci_8 ga3 wml_RX8_76 wim_X8_takes wse_X8_takes (Nat.le_of_ble_eq_true rfl) rfl ⟨Nat.le_of_ble_eq_true rfl, Nat.le_of_ble_eq_true rfl⟩ (Nat.le_of_ble_eq_true rfl) dX8_readLine_4 rfl (by cases fa3; rfl) rfl ?_
  refine go_if_eq (tgt := 51) (n := 10) dX8_readLine_7 rfl rfl (fun c4 => ?_) (fun c4 => ?_)
  · rw [if_pos c4] at E
    refine go_aload_n (j := 0) (n := 52) rfl rfl dX8_readLine_51 rfl ?_
    refine go_sipush (z := 257) (n := 55) ⟨by decide, by decide⟩ dX8_readLine_52 rfl ?_
    replace E := Option.bind_eq_some_iff.mp E; obtain ⟨a7, ea7, E⟩ := E
    obtain ⟨fa7, ga7⟩ := xrc_some ea7
    replace E := xb_some E; obtain ⟨v5, h6, ev5, E⟩ := E
    refine go_callV (y := yX8_takes) (n := 58) (st := []) (as := [vi 257]) (stk9 := [vi v5]) (OX8_takes ev5) yw_X8_takes ci_8 ga7 wml_RX8_76 wim_X8_takes wse_X8_takes (Nat.le_of_ble_eq_true rfl) rfl ⟨Nat.le_of_ble_eq_true rfl, Nat.le_of_ble_eq_true rfl⟩ (Nat.le_of_ble_eq_true rfl) dX8_readLine_55 rfl (by cases fa7; rfl) rfl ?_
    refine go_if_eq (tgt := 67) (n := 61) dX8_readLine_58 rfl rfl (fun c8 => ?_) (fun c8 => ?_)
    · rw [if_pos c8] at E
      refine go_aload_n (j := 0) (n := 68) rfl rfl dX8_readLine_67 rfl ?_
      refine go_sipush (z := 258) (n := 71) ⟨by decide, by decide⟩ dX8_readLine_68 rfl ?_
      replace E := Option.bind_eq_some_iff.mp E; obtain ⟨a11, ea11, E⟩ := E
      obtain ⟨fa11, ga11⟩ := xrc_some ea11
      replace E := xb_some E; obtain ⟨v9, h10, ev9, E⟩ := E
      refine go_callV (y := yX8_takes) (n := 74) (st := []) (as := [vi 258]) (stk9 := [vi v9]) (OX8_takes ev9) yw_X8_takes ci_8 ga11 wml_RX8_76 wim_X8_takes wse_X8_takes (Nat.le_of_ble_eq_true rfl) rfl ⟨Nat.le_of_ble_eq_true rfl, Nat.le_of_ble_eq_true rfl⟩ (Nat.le_of_ble_eq_true rfl) dX8_readLine_71 rfl (by cases fa11; rfl) rfl ?_
      refine go_if_eq (tgt := 82) (n := 77) dX8_readLine_74 rfl rfl (fun c12 => ?_) (fun c12 => ?_)
      · rw [if_pos c12] at E
        refine go_aload_n (j := 0) (n := 83) rfl rfl dX8_readLine_82 rfl ?_
        refine go_sipush (z := 261) (n := 86) ⟨by decide, by decide⟩ dX8_readLine_83 rfl ?_
        replace E := Option.bind_eq_some_iff.mp E; obtain ⟨a15, ea15, E⟩ := E
        obtain ⟨fa15, ga15⟩ := xrc_some ea15
        replace E := xb_some E; obtain ⟨v13, h14, ev13, E⟩ := E
        refine go_callV (y := yX8_takes) (n := 89) (st := []) (as := [vi 261]) (stk9 := [vi v13]) (OX8_takes ev13) yw_X8_takes ci_8 ga15 wml_RX8_76 wim_X8_takes wse_X8_takes (Nat.le_of_ble_eq_true rfl) rfl ⟨Nat.le_of_ble_eq_true rfl, Nat.le_of_ble_eq_true rfl⟩ (Nat.le_of_ble_eq_true rfl) dX8_readLine_86 rfl (by cases fa15; rfl) rfl ?_
        refine go_if_eq (tgt := 97) (n := 92) dX8_readLine_89 rfl rfl (fun c16 => ?_) (fun c16 => ?_)
        · rw [if_pos c16] at E
          refine go_aload_n (j := 0) (n := 98) rfl rfl dX8_readLine_97 rfl ?_
          replace E := Option.bind_eq_some_iff.mp E; obtain ⟨a19, ea19, E⟩ := E
          obtain ⟨fa19, ga19⟩ := xrc_some ea19
          replace E := xb_some E; obtain ⟨v17, h18, ev17, E⟩ := E
          refine go_callV (y := yX8_kind) (n := 101) (st := []) (as := []) (stk9 := [vi v17]) (OX8_kind ev17) yw_X8_kind ci_8 ga19 wml_RX8_63 wim_X8_kind wse_X8_kind (Nat.le_of_ble_eq_true rfl) rfl ⟨Nat.le_of_ble_eq_true rfl, Nat.le_of_ble_eq_true rfl⟩ (Nat.le_of_ble_eq_true rfl) dX8_readLine_98 rfl (by cases fa19; rfl) rfl ?_
          refine go_istore_n (n := 102) (lv' := [(1, vi v17), (0, vr (some l0))]) rfl dX8_readLine_101 rfl (Nat.le_of_ble_eq_true rfl) rfl ?_
          refine go_aload_n (j := 1) (n := 103) rfl rfl dX8_readLine_102 rfl ?_
          refine go_sipush (z := 263) (n := 106) ⟨by decide, by decide⟩ dX8_readLine_103 rfl ?_
          replace E := Option.bind_eq_some_iff.mp E; obtain ⟨a22, ea22, E⟩ := E
          obtain ⟨fa22, ga22⟩ := xrc_some ea22
          replace E := xb_some E; obtain ⟨v20, h21, ev20, E⟩ := E
          refine go_callV (y := yX8_takes) (n := 109) (st := []) (as := [vi 263]) (stk9 := [vi v20]) (OX8_takes ev20) yw_X8_takes ci_8 ga22 wml_RX8_76 wim_X8_takes wse_X8_takes (Nat.le_of_ble_eq_true rfl) rfl ⟨Nat.le_of_ble_eq_true rfl, Nat.le_of_ble_eq_true rfl⟩ (Nat.le_of_ble_eq_true rfl) dX8_readLine_106 rfl (by cases fa22; rfl) rfl ?_
          refine go_if_ne (tgt := 124) (n := 112) dX8_readLine_109 rfl rfl (fun c23 => ?_) (fun c23 => ?_)
          · rw [if_neg c23] at E
            refine go_pick (lv' := [(0, vr (some l0)), (1, vi v17)]) [1, 0] rfl ?_
            exact SX8_readLine_L124     _ _  _ E
          · rw [if_pos c23] at E
            refine go_aload_n (j := 1) (n := 113) rfl rfl dX8_readLine_112 rfl ?_
            refine go_sipush (z := 264) (n := 116) ⟨by decide, by decide⟩ dX8_readLine_113 rfl ?_
            replace E := Option.bind_eq_some_iff.mp E; obtain ⟨a26, ea26, E⟩ := E
            obtain ⟨fa26, ga26⟩ := xrc_some ea26
            replace E := xb_some E; obtain ⟨v24, h25, ev24, E⟩ := E
            refine go_callV (y := yX8_takes) (n := 119) (st := []) (as := [vi 264]) (stk9 := [vi v24]) (OX8_takes ev24) yw_X8_takes ci_8 ga26 wml_RX8_76 wim_X8_takes wse_X8_takes (Nat.le_of_ble_eq_true rfl) rfl ⟨Nat.le_of_ble_eq_true rfl, Nat.le_of_ble_eq_true rfl⟩ (Nat.le_of_ble_eq_true rfl) dX8_readLine_116 rfl (by cases fa26; rfl) rfl ?_
            refine go_if_ne (tgt := 124) (n := 122) dX8_readLine_119 rfl rfl (fun c27 => ?_) (fun c27 => ?_)
            · rw [if_neg c27] at E
              refine go_pick (lv' := [(0, vr (some l0)), (1, vi v17)]) [1, 0] rfl ?_
              exact SX8_readLine_L124     _ _  _ E
            · rw [if_pos c27] at E
              refine go_iconst (z := 0) (n := 123) ⟨by decide, by decide⟩ dX8_readLine_122 rfl ?_
              cases E
              exact go_zreturn rfl (Or.inl rfl) dX8_readLine_123
        · rw [if_neg c16] at E
          refine go_aload_n (j := 0) (n := 93) rfl rfl dX8_readLine_92 rfl ?_
          replace E := Option.bind_eq_some_iff.mp E; obtain ⟨a30, ea30, E⟩ := E
          obtain ⟨fa30, ga30⟩ := xrc_some ea30
          replace E := xb_some E; obtain ⟨v28, h29, ev28, E⟩ := E
          refine go_callV (y := yX8_readRound) (n := 96) (st := []) (as := []) (stk9 := [vi v28]) (OX8_readRound ev28) yw_X8_readRound ci_8 ga30 wml_RX8_107 wim_X8_readRound wse_X8_readRound (Nat.le_of_ble_eq_true rfl) rfl ⟨Nat.le_of_ble_eq_true rfl, Nat.le_of_ble_eq_true rfl⟩ (Nat.le_of_ble_eq_true rfl) dX8_readLine_93 rfl (by cases fa30; rfl) rfl ?_
          unfold xz at E
          split at E
          · next c31 =>
            cases E
            exact go_zreturn rfl c31 dX8_readLine_96
          · cases E
      · rw [if_neg c12] at E
        refine go_aload_n (j := 0) (n := 78) rfl rfl dX8_readLine_77 rfl ?_
        replace E := Option.bind_eq_some_iff.mp E; obtain ⟨a34, ea34, E⟩ := E
        obtain ⟨fa34, ga34⟩ := xrc_some ea34
        replace E := xb_some E; obtain ⟨v32, h33, ev32, E⟩ := E
        refine go_callV (y := yX8_readTotal) (n := 81) (st := []) (as := []) (stk9 := [vi v32]) (OX8_readTotal ev32) yw_X8_readTotal ci_8 ga34 wml_RX8_104 wim_X8_readTotal wse_X8_readTotal (Nat.le_of_ble_eq_true rfl) rfl ⟨Nat.le_of_ble_eq_true rfl, Nat.le_of_ble_eq_true rfl⟩ (Nat.le_of_ble_eq_true rfl) dX8_readLine_78 rfl (by cases fa34; rfl) rfl ?_
        unfold xz at E
        split at E
        · next c35 =>
          cases E
          exact go_zreturn rfl c35 dX8_readLine_81
        · cases E
    · rw [if_neg c8] at E
      refine go_aload_n (j := 0) (n := 62) rfl rfl dX8_readLine_61 rfl ?_
      refine go_iconst (z := 1) (n := 63) ⟨by decide, by decide⟩ dX8_readLine_62 rfl ?_
      replace E := Option.bind_eq_some_iff.mp E; obtain ⟨a38, ea38, E⟩ := E
      obtain ⟨fa38, ga38⟩ := xrc_some ea38
      replace E := xb_some E; obtain ⟨v36, h37, ev36, E⟩ := E
      refine go_callV (y := yX8_readSet) (n := 66) (st := []) (as := [vi 1]) (stk9 := [vi v36]) (OX8_readSet ev36) yw_X8_readSet ci_8 ga38 wml_RX8_101 wim_X8_readSet wse_X8_readSet (Nat.le_of_ble_eq_true rfl) rfl ⟨Nat.le_of_ble_eq_true rfl, Nat.le_of_ble_eq_true rfl⟩ (Nat.le_of_ble_eq_true rfl) dX8_readLine_63 rfl (by cases fa38; rfl) rfl ?_
      unfold xz at E
      split at E
      · next c39 =>
        cases E
        exact go_zreturn rfl c39 dX8_readLine_66
      · cases E
  · rw [if_neg c4] at E
    refine go_aload_n (j := 0) (n := 11) rfl rfl dX8_readLine_10 rfl ?_
    refine go_iconst (z := 1) (n := 12) ⟨by decide, by decide⟩ dX8_readLine_11 rfl ?_
    refine go_bipush (z := 9) (n := 14) ⟨by decide, by decide⟩ dX8_readLine_12 rfl ?_
    replace E := Option.bind_eq_some_iff.mp E; obtain ⟨a42, ea42, E⟩ := E
    obtain ⟨fa42, ga42⟩ := xrc_some ea42
    replace E := xb_some E; obtain ⟨v40, h41, ev40, E⟩ := E
    refine go_callV (y := yX8_takeNumber) (n := 17) (st := []) (as := [vi 1, vi 9]) (stk9 := [vi v40]) (OX8_takeNumber ev40) yw_X8_takeNumber ci_8 ga42 wml_RX8_94 wim_X8_takeNumber wse_X8_takeNumber (Nat.le_of_ble_eq_true rfl) rfl ⟨Nat.le_of_ble_eq_true rfl, Nat.le_of_ble_eq_true rfl⟩ (Nat.le_of_ble_eq_true rfl) dX8_readLine_14 rfl (by cases fa42; rfl) rfl ?_
    refine go_if_ne (tgt := 22) (n := 20) dX8_readLine_17 rfl rfl (fun c43 => ?_) (fun c43 => ?_)
    · rw [if_neg c43] at E
      refine go_aload_n (j := 0) (n := 23) rfl rfl dX8_readLine_22 rfl ?_
      replace E := Option.bind_eq_some_iff.mp E; obtain ⟨v44, ev44, E⟩ := E
      refine go_getI (n := 26) ev44 fl_RX8_98 rfl dX8_readLine_23 rfl ?_
      refine go_istore_n (n := 27) (lv' := [(1, vi v44), (0, vr (some l0))]) rfl dX8_readLine_26 rfl (Nat.le_of_ble_eq_true rfl) rfl ?_
      refine go_aload_n (j := 1) (n := 28) rfl rfl dX8_readLine_27 rfl ?_
      refine go_sipush (z := 257) (n := 31) ⟨by decide, by decide⟩ dX8_readLine_28 rfl ?_
      replace E := Option.bind_eq_some_iff.mp E; obtain ⟨a47, ea47, E⟩ := E
      obtain ⟨fa47, ga47⟩ := xrc_some ea47
      replace E := xb_some E; obtain ⟨v45, h46, ev45, E⟩ := E
      refine go_callV (y := yX8_takes) (n := 34) (st := []) (as := [vi 257]) (stk9 := [vi v45]) (OX8_takes ev45) yw_X8_takes ci_8 ga47 wml_RX8_76 wim_X8_takes wse_X8_takes (Nat.le_of_ble_eq_true rfl) rfl ⟨Nat.le_of_ble_eq_true rfl, Nat.le_of_ble_eq_true rfl⟩ (Nat.le_of_ble_eq_true rfl) dX8_readLine_31 rfl (by cases fa47; rfl) rfl ?_
      refine go_if_eq (tgt := 49) (n := 37) dX8_readLine_34 rfl rfl (fun c48 => ?_) (fun c48 => ?_)
      · rw [if_pos c48] at E
        refine go_iconst (z := 0) (n := 50) ⟨by decide, by decide⟩ dX8_readLine_49 rfl ?_
        cases E
        exact go_zreturn rfl (Or.inl rfl) dX8_readLine_50
      · rw [if_neg c48] at E
        refine go_aload_n (j := 1) (n := 38) rfl rfl dX8_readLine_37 rfl ?_
        refine go_iload_n (j := 0) (n := 39) rfl rfl dX8_readLine_38 rfl ?_
        replace E := Option.bind_eq_some_iff.mp E; obtain ⟨a51, ea51, E⟩ := E
        obtain ⟨fa51, ga51⟩ := xrc_some ea51
        replace E := xb_some E; obtain ⟨v49, h50, ev49, E⟩ := E
        refine go_callV (y := yX8_readSet) (n := 42) (st := []) (as := [vi v44]) (stk9 := [vi v49]) (OX8_readSet ev49) yw_X8_readSet ci_8 ga51 wml_RX8_101 wim_X8_readSet wse_X8_readSet (Nat.le_of_ble_eq_true rfl) rfl ⟨Nat.le_of_ble_eq_true rfl, Nat.le_of_ble_eq_true rfl⟩ (Nat.le_of_ble_eq_true rfl) dX8_readLine_39 rfl (by cases fa51; rfl) rfl ?_
        refine go_if_eq (tgt := 49) (n := 45) dX8_readLine_42 rfl rfl (fun c52 => ?_) (fun c52 => ?_)
        · simp only [if_pos c52] at E
          refine go_iconst (z := 0) (n := 50) ⟨by decide, by decide⟩ dX8_readLine_49 rfl ?_
          cases E
          exact go_zreturn rfl (Or.inl rfl) dX8_readLine_50
        · simp only [if_neg c52] at E
          refine go_iconst (z := 1) (n := 46) ⟨by decide, by decide⟩ dX8_readLine_45 rfl ?_
          refine go_goto (tgt := 50) dX8_readLine_46 rfl ?_
          cases E
          exact go_zreturn rfl (Or.inr rfl) dX8_readLine_50
    · rw [if_pos c43] at E
      refine go_iconst (z := 0) (n := 21) ⟨by decide, by decide⟩ dX8_readLine_20 rfl ?_
      cases E
      exact go_zreturn rfl (Or.inl rfl) dX8_readLine_21
theorem OX8_readLine {F : Nat} {l0 : Nat} {h hf : HP} {r : Int} (e : X8_readLine F l0 h = some (r, hf)) : Ok MX8_readLine [vr (some l0)] (some (vi r)) h hf := fun K _ _ _ => SX8_readLine l0 h e
abbrev MX8_begin : MI := (RX8, cX8_begin, 1, (some .int), 2, none, "begin")
noncomputable def X8_begin (F : Nat)   (l0 : Nat)  (h : HP) : Option (Int × HP) :=
  (xgI h (some l0) 8 17 6).bind fun v1 =>
  if v1 < 0 then
    some ((-1), h)
  else
    (xgI h (some l0) 8 17 6).bind fun v3 =>
    (xgI h (some l0) 8 17 5).bind fun v4 =>
    if v4 ≤ v3 then
      some ((-1), h)
    else
      (xgI h (some l0) 8 17 6).bind fun v6 =>
      if 400 < v6 then
        some ((-1), h)
      else
        (xgP h (some l0) 8 17 3).bind fun v8 =>
        (xgI h (some l0) 8 17 6).bind fun v9 =>
        (xaI h v8 100 v9).bind fun v10 =>
        some (v10, h)
set_option maxRecDepth 100000 in
theorem SX8_begin {K : Ctx} {F : Nat} {r : Int} {hf : HP}     (l0 : Nat)  (h : HP) (E : X8_begin F   l0 h = some (r, hf)) : Go K MX8_begin (QM K (some (vi r)) hf) hf 0 [(0, vr (some l0))] [] h := by
  unfold X8_begin at E
  refine go_aload_n (j := 0) (n := 1) rfl rfl dX8_begin_0 rfl ?_
  replace E := Option.bind_eq_some_iff.mp E; obtain ⟨v1, ev1, E⟩ := E
  refine go_getI (n := 4) ev1 fl_RX8_50 rfl dX8_begin_1 rfl ?_
  refine go_if_lt (tgt := 40) (n := 7) dX8_begin_4 rfl rfl (fun c2 => ?_) (fun c2 => ?_)
  · rw [if_pos c2] at E
    refine go_iconst (z := (-1)) (n := 41) ⟨by decide, by decide⟩ dX8_begin_40 rfl ?_
    cases E
    exact go_ireturn rfl dX8_begin_41
  · rw [if_neg c2] at E
    refine go_aload_n (j := 0) (n := 8) rfl rfl dX8_begin_7 rfl ?_
    replace E := Option.bind_eq_some_iff.mp E; obtain ⟨v3, ev3, E⟩ := E
    refine go_getI (n := 11) ev3 fl_RX8_50 rfl dX8_begin_8 rfl ?_
    refine go_aload_n (j := 0) (n := 12) rfl rfl dX8_begin_11 rfl ?_
    replace E := Option.bind_eq_some_iff.mp E; obtain ⟨v4, ev4, E⟩ := E
    refine go_getI (n := 15) ev4 fl_RX8_155 rfl dX8_begin_12 rfl ?_
    refine go_icmp_ge (tgt := 40) (n := 18) dX8_begin_15 rfl rfl (fun c5 => ?_) (fun c5 => ?_)
    · rw [if_pos c5] at E
      refine go_iconst (z := (-1)) (n := 41) ⟨by decide, by decide⟩ dX8_begin_40 rfl ?_
      cases E
      exact go_ireturn rfl dX8_begin_41
    · rw [if_neg c5] at E
      refine go_aload_n (j := 0) (n := 19) rfl rfl dX8_begin_18 rfl ?_
      replace E := Option.bind_eq_some_iff.mp E; obtain ⟨v6, ev6, E⟩ := E
      refine go_getI (n := 22) ev6 fl_RX8_50 rfl dX8_begin_19 rfl ?_
      refine go_sipush (z := 400) (n := 25) ⟨by decide, by decide⟩ dX8_begin_22 rfl ?_
      refine go_icmp_gt (tgt := 40) (n := 28) dX8_begin_25 rfl rfl (fun c7 => ?_) (fun c7 => ?_)
      · rw [if_pos c7] at E
        refine go_iconst (z := (-1)) (n := 41) ⟨by decide, by decide⟩ dX8_begin_40 rfl ?_
        cases E
        exact go_ireturn rfl dX8_begin_41
      · rw [if_neg c7] at E
        refine go_aload_n (j := 0) (n := 29) rfl rfl dX8_begin_28 rfl ?_
        replace E := Option.bind_eq_some_iff.mp E; obtain ⟨v8, ev8, E⟩ := E
        refine go_getP (n := 32) ev8 fl_RX8_18 rfl dX8_begin_29 rfl ?_
        refine go_aload_n (j := 0) (n := 33) rfl rfl dX8_begin_32 rfl ?_
        replace E := Option.bind_eq_some_iff.mp E; obtain ⟨v9, ev9, E⟩ := E
        refine go_getI (n := 36) ev9 fl_RX8_50 rfl dX8_begin_33 rfl ?_
        replace E := Option.bind_eq_some_iff.mp E; obtain ⟨v10, ev10, E⟩ := E
        refine go_iaload (n := 37) ev10 dX8_begin_36 rfl ?_
        refine go_goto (tgt := 41) dX8_begin_37 rfl ?_
        cases E
        exact go_ireturn rfl dX8_begin_41
theorem OX8_begin {F : Nat} {l0 : Nat} {h hf : HP} {r : Int} (e : X8_begin F l0 h = some (r, hf)) : Ok MX8_begin [vr (some l0)] (some (vi r)) h hf := fun K _ _ _ => SX8_begin l0 h e
theorem wml_RJ7_304 : Cond.methodLink RJ7 304 Lib.Math.min.name ∈ BW := bw_of 1245 (by decide +kernel) rfl
theorem wml_RJ7_150 : Cond.methodLink RJ7 150 arraycopyName ∈ BW := bw_of 1246 (by decide +kernel) rfl
abbrev MJ7_copyOf_59c91 : MI := (RJ7, cJ7_copyOf_59c91, 3, (some (.array .int)), 2, none, "copyOf")
noncomputable def XJ7_copyOf_59c91 (F : Nat)   (l0 : Option Nat) (l1 : Int)  (h : HP) : Option (Option Nat × HP) :=
  (xal h l0).bind fun v1 =>
  if l1 = v1 then
    none
  else
    (xna h 100 l1).bind fun h3 =>
    (xal h3 l0).bind fun v4 =>
    (xcp h3 l0 0 (some (gn h3)) 0 (min v4 l1)).bind fun h5 =>
    some ((some (gn h3)), h5)
set_option maxRecDepth 100000 in
theorem SXJ7_copyOf_59c91 {K : Ctx} {F : Nat} {r : Option Nat} {hf : HP}     (l0 : Option Nat) (l1 : Int)  (h : HP) (E : XJ7_copyOf_59c91 F   l0 l1 h = some (r, hf)) : Go K MJ7_copyOf_59c91 (QM K (some (vr r)) hf) hf 0 [(0, vr l0), (1, vi l1)] [] h := by
  unfold XJ7_copyOf_59c91 at E
  refine go_iload_n (j := 1) (n := 1) rfl rfl dJ7_copyOf_59c91_0 rfl ?_
  refine go_aload_n (j := 0) (n := 2) rfl rfl dJ7_copyOf_59c91_1 rfl ?_
  replace E := Option.bind_eq_some_iff.mp E; obtain ⟨v1, ev1, E⟩ := E
  refine go_alen (n := 3) ev1 dJ7_copyOf_59c91_2 rfl ?_
  refine go_icmp_ne (tgt := 14) (n := 6) dJ7_copyOf_59c91_3 rfl rfl (fun c2 => ?_) (fun c2 => ?_)
  · rw [if_neg c2] at E
    refine go_iload_n (j := 1) (n := 15) rfl rfl dJ7_copyOf_59c91_14 rfl ?_
    replace E := Option.bind_eq_some_iff.mp E; obtain ⟨h3, eh3, E⟩ := E
    refine go_newI (n := 17) eh3 dJ7_copyOf_59c91_15 rfl wa_int ?_
    refine go_astore_n (n := 18) (lv' := [(2, vr (some (gn h3))), (0, vr l0), (1, vi l1)]) rfl dJ7_copyOf_59c91_17 rfl (Nat.le_of_ble_eq_true rfl) rfl ?_
    refine go_aload_n (j := 1) (n := 19) rfl rfl dJ7_copyOf_59c91_18 rfl ?_
    refine go_iconst (z := 0) (n := 20) ⟨by decide, by decide⟩ dJ7_copyOf_59c91_19 rfl ?_
    refine go_aload_n (j := 0) (n := 21) rfl rfl dJ7_copyOf_59c91_20 rfl ?_
    refine go_iconst (z := 0) (n := 22) ⟨by decide, by decide⟩ dJ7_copyOf_59c91_21 rfl ?_
    refine go_aload_n (j := 1) (n := 23) rfl rfl dJ7_copyOf_59c91_22 rfl ?_
    replace E := Option.bind_eq_some_iff.mp E; obtain ⟨v4, ev4, E⟩ := E
    refine go_alen (n := 24) ev4 dJ7_copyOf_59c91_23 rfl ?_
    refine go_iload_n (j := 2) (n := 25) rfl rfl dJ7_copyOf_59c91_24 rfl ?_
    refine go_mmin (n := 28) wml_RJ7_304 jm_min_i (Nat.le_of_ble_eq_true rfl) (Nat.le_of_ble_eq_true rfl) dJ7_copyOf_59c91_25 rfl ?_
    replace E := Option.bind_eq_some_iff.mp E; obtain ⟨h5, eh5, E⟩ := E
    refine go_copy (n := 31) eh5 wml_RJ7_150 w_copy (Nat.le_of_ble_eq_true rfl) (Nat.le_of_ble_eq_true rfl) dJ7_copyOf_59c91_28 rfl ?_
    refine go_aload_n (j := 0) (n := 32) rfl rfl dJ7_copyOf_59c91_31 rfl ?_
    cases E
    exact go_areturn (rt := (.array .int)) rfl (by first | exact Or.inl ⟨_, rfl⟩ | exact Or.inr ⟨_, rfl⟩) dJ7_copyOf_59c91_32
  · rw [if_pos c2] at E
    refine go_aload_n (j := 0) (n := 7) rfl rfl dJ7_copyOf_59c91_6 rfl ?_
    cases E
theorem OXJ7_copyOf_59c91 {F : Nat} {l0 : Option Nat} {l1 : Int} {h hf : HP} {r : Option Nat} (e : XJ7_copyOf_59c91 F l0 l1 h = some (r, hf)) : Ok MJ7_copyOf_59c91 [vr l0, vi l1] (some (vr r)) h hf := fun K _ _ _ => SXJ7_copyOf_59c91 l0 l1 h e
theorem wml_RX9_1 : Cond.methodLink RX9 1 objectInit ∈ BW := bw_of 1250 (by decide +kernel) rfl
theorem ff_RX9_7 : FLF RX9 7 9 4 0 := ⟨TX9, ci_9, by decide, bw_of 1251 (by decide +kernel) rfl, rfl, rfl⟩
theorem ff_RX9_13 : FLF RX9 13 9 4 1 := ⟨TX9, ci_9, by decide, bw_of 1252 (by decide +kernel) rfl, rfl, rfl⟩
theorem ff_RX9_17 : FLF RX9 17 9 4 2 := ⟨TX9, ci_9, by decide, bw_of 1255 (by decide +kernel) rfl, rfl, rfl⟩
theorem ff_RX9_21 : FLF RX9 21 9 4 3 := ⟨TX9, ci_9, by decide, bw_of 1257 (by decide +kernel) rfl, rfl, rfl⟩
abbrev MX9_init : MI := (RX9, cX9_init, 7, none, 2, none, "<init>")
noncomputable def X9_init (F : Nat)   (l0 : Nat) (l1 : Option Nat) (l2 : Int) (l3 : Int) (l5 : Int)  (h : HP) : Option (Unit × HP) :=
  (xpP h (some l0) 9 4 0 l1).bind fun h1 =>
  (xpI h1 (some l0) 9 4 1 l2).bind fun h2 =>
  (xpJ h2 (some l0) 9 4 2 l3).bind fun h3 =>
  (xpJ h3 (some l0) 9 4 3 l5).bind fun h4 =>
  some ((), h4)
set_option maxRecDepth 100000 in
theorem SX9_init {K : Ctx} {F : Nat} {r : Unit} {hf : HP}     (l0 : Nat) (l1 : Option Nat) (l2 : Int) (l3 : Int) (l5 : Int)  (h : HP) (E : X9_init F   l0 l1 l2 l3 l5 h = some (r, hf)) : Go K MX9_init (QM K none hf) hf 0 [(0, vr (some l0)), (1, vr l1), (2, vi l2), (3, vl l3), (5, vl l5)] [] h := by
  unfold X9_init at E
  refine go_aload_n (j := 0) (n := 1) rfl rfl dX9_init_0 rfl ?_
  refine go_objInit (n := 4) wml_RX9_1 w_oinit ⟨_, rfl⟩ (Nat.le_of_ble_eq_true rfl) (Nat.le_of_ble_eq_true rfl) dX9_init_1 rfl ?_
  refine go_aload_n (j := 0) (n := 5) rfl rfl dX9_init_4 rfl ?_
  refine go_aload_n (j := 1) (n := 6) rfl rfl dX9_init_5 rfl ?_
  replace E := Option.bind_eq_some_iff.mp E; obtain ⟨h1, eh1, E⟩ := E
  refine go_putFP (n := 9) eh1 ff_RX9_7 rfl rfl dX9_init_6 rfl ?_
  refine go_aload_n (j := 0) (n := 10) rfl rfl dX9_init_9 rfl ?_
  refine go_iload_n (j := 2) (n := 11) rfl rfl dX9_init_10 rfl ?_
  replace E := Option.bind_eq_some_iff.mp E; obtain ⟨h2, eh2, E⟩ := E
  refine go_putFI (n := 14) eh2 ff_RX9_13 rfl rfl dX9_init_11 rfl ?_
  refine go_aload_n (j := 0) (n := 15) rfl rfl dX9_init_14 rfl ?_
  refine go_lload_n (j := 3) (n := 16) rfl rfl dX9_init_15 rfl ?_
  replace E := Option.bind_eq_some_iff.mp E; obtain ⟨h3, eh3, E⟩ := E
  refine go_putFJ (n := 19) eh3 ff_RX9_17 rfl rfl dX9_init_16 rfl ?_
  refine go_aload_n (j := 0) (n := 20) rfl rfl dX9_init_19 rfl ?_
  refine go_lload (j := 4) (n := 22) rfl dX9_init_20 rfl ?_
  replace E := Option.bind_eq_some_iff.mp E; obtain ⟨h4, eh4, E⟩ := E
  refine go_putFJ (n := 25) eh4 ff_RX9_21 rfl rfl dX9_init_22 rfl ?_
  cases E
  exact go_return rfl dX9_init_25
theorem OX9_init {F : Nat} {l0 : Nat} {l1 : Option Nat} {l2 : Int} {l3 : Int} {l5 : Int} {h hf : HP} {r : Unit} (e : X9_init F l0 l1 l2 l3 l5 h = some (r, hf)) : Ok MX9_init [vr (some l0), vr l1, vi l2, vl l3, vl l5] none h hf := fun K _ _ _ => SX9_init l0 l1 l2 l3 l5 h e
theorem wml_RX8_37 : Cond.methodLink RX8 37 Lib.Math.min.name ∈ BW := bw_of 1070 (by decide +kernel) rfl
theorem yw_X8_scan : YW yX8_scan cX8_scan 4 none 1 := ⟨bw_of 1075 (by decide +kernel) rfl, bw_of 118 (by decide +kernel) rfl, ⟨by decide +kernel, by decide +kernel, by decide +kernel⟩, by decide +kernel⟩
theorem wml_RX8_46 : Cond.methodLink RX8 46 yX8_scan ∈ BW := bw_of 1072 (by decide +kernel) rfl
theorem wim_X8_scan : Cond.instanceMethod yX8_scan ∈ BW := bw_of 1074 (by decide +kernel) rfl
theorem wse_X8_scan : Cond.selects RX8 yX8_scan yX8_scan ∈ BW := bw_of 9 (by decide +kernel) rfl
theorem fl_RX8_56 : FL RX8 56 8 17 14 false := ⟨RX8, TX8, ci_8, by decide, bw_of 174 (by decide +kernel) rfl, rfl, rfl⟩
theorem yw_X8_begin : YW yX8_begin cX8_begin 1 (some .int) 0 := ⟨bw_of 1232 (by decide +kernel) rfl, bw_of 118 (by decide +kernel) rfl, ⟨by decide +kernel, by decide +kernel, by decide +kernel⟩, by decide +kernel⟩
theorem wml_RX8_80 : Cond.methodLink RX8 80 yX8_begin ∈ BW := bw_of 1229 (by decide +kernel) rfl
theorem wim_X8_begin : Cond.instanceMethod yX8_begin ∈ BW := bw_of 1231 (by decide +kernel) rfl
theorem wse_X8_begin : Cond.selects RX8 yX8_begin yX8_begin ∈ BW := bw_of 34 (by decide +kernel) rfl
theorem nl_RX8_83 : NL RX8 83 9 4 := ⟨RX9, TX9, ci_9, bw_of 1233 (by decide +kernel) rfl, bw_of 1234 (by decide +kernel) rfl, bw_of 140 (by decide +kernel) rfl, by decide +kernel⟩
theorem yw_J7_copyOf_59c91 : YW yJ7_copyOf_59c91 cJ7_copyOf_59c91 3 (some (.array .int)) 2 := ⟨bw_of 1237 (by decide +kernel) rfl, bw_of 126 (by decide +kernel) rfl, ⟨by decide +kernel, by decide +kernel, by decide +kernel⟩, by decide +kernel⟩
theorem wml_RX8_85 : Cond.methodLink RX8 85 yJ7_copyOf_59c91 ∈ BW := bw_of 1235 (by decide +kernel) rfl
theorem wst_J7_copyOf_59c91 : Cond.static yJ7_copyOf_59c91 ∈ BW := bw_of 1236 (by decide +kernel) rfl
theorem yw_X9_init : YW yX9_init cX9_init 7 none 4 := ⟨bw_of 1249 (by decide +kernel) rfl, bw_of 140 (by decide +kernel) rfl, ⟨by decide +kernel, by decide +kernel, by decide +kernel⟩, by decide +kernel⟩
theorem wml_RX8_91 : Cond.methodLink RX8 91 yX9_init ∈ BW := bw_of 1247 (by decide +kernel) rfl
theorem wim_X9_init : Cond.instanceMethod yX9_init ∈ BW := bw_of 1248 (by decide +kernel) rfl
theorem yw_X8_readLine : YW yX8_readLine cX8_readLine 2 (some .boolean) 0 := ⟨bw_of 1158 (by decide +kernel) rfl, bw_of 118 (by decide +kernel) rfl, ⟨by decide +kernel, by decide +kernel, by decide +kernel⟩, by decide +kernel⟩
theorem wml_RX8_70 : Cond.methodLink RX8 70 yX8_readLine ∈ BW := bw_of 1155 (by decide +kernel) rfl
theorem wim_X8_readLine : Cond.instanceMethod yX8_readLine ∈ BW := bw_of 1157 (by decide +kernel) rfl
theorem wse_X8_readLine : Cond.selects RX8 yX8_readLine yX8_readLine ∈ BW := bw_of 16 (by decide +kernel) rfl
theorem wl_RX8_74 : Cond.constantLong RX8 74 (Int64.ofInt (-1)) ∈ BW := bw_of 1228 (by decide +kernel) rfl
abbrev MX8_readText : MI := (RX8, cX8_readText, 8, (some (.object "TeaNight$Text")), 11, none, "readText")
noncomputable def X8_readText_L163 (F : Nat)   (l0 : Nat) (l2 : Int) (l3 : Int) (s0 : Int) (s1 : Option Nat) (h : HP) : Option (Option Nat × HP) :=
  (xpI h s1 8 17 16 s0).bind fun h1 =>
  if l3 = 0 then
    some (none, h1)
  else
    (xnw h1 9 4).bind fun h3 =>
    (xgP h3 (some l0) 8 17 8).bind fun v4 =>
    (xgI h3 (some l0) 8 17 9).bind fun v5 =>
    xb (XJ7_copyOf_59c91 F v4 (max 0 v5) h3) fun v6 h7 =>
    (xgJ h7 (some l0) 8 17 14).bind fun v8 =>
    (xgJ h7 (some l0) 8 17 15).bind fun v9 =>
    xb (X9_init F (gn h3) v6 l2 v8 v9 h7) fun v10 h11 =>
    some ((some (gn h3)), h11)
set_option maxRecDepth 100000 in
theorem SX8_readText_L163 {K : Ctx} {F : Nat} {r : Option Nat} {hf : HP}     (l0 : Nat) (l2 : Int) (l3 : Int) (s0 : Int) (s1 : Option Nat) (h : HP) (E : X8_readText_L163 F   l0 l2 l3 s0 s1 h = some (r, hf)) : Go K MX8_readText (QM K (some (vr r)) hf) hf 163 [(0, vr (some l0)), (2, vi l2), (3, vi l3)] [vi s0, vr s1] h := by
  unfold X8_readText_L163 at E
  replace E := Option.bind_eq_some_iff.mp E; obtain ⟨h1, eh1, E⟩ := E
  refine go_putI (n := 166) eh1 fl_RX8_30 rfl dX8_readText_163 rfl ?_
  refine go_iload_n (j := 2) (n := 167) rfl rfl dX8_readText_166 rfl ?_
  refine go_if_eq (tgt := 204) (n := 170) dX8_readText_167 rfl rfl (fun c2 => ?_) (fun c2 => ?_)
  · rw [if_pos c2] at E
    refine go_null (n := 205) dX8_readText_204 rfl ?_
    cases E
    exact go_areturn (rt := (.object "TeaNight$Text")) rfl (by first | exact Or.inl ⟨_, rfl⟩ | exact Or.inr ⟨_, rfl⟩) dX8_readText_205
  · rw [if_neg c2] at E
    replace E := Option.bind_eq_some_iff.mp E; obtain ⟨h3, eh3, E⟩ := E
    refine go_new (n := 173) eh3 nl_RX8_83 dX8_readText_170 rfl ?_
    refine go_dup (n := 174) rfl dX8_readText_173 rfl ?_
    refine go_aload_n (j := 0) (n := 175) rfl rfl dX8_readText_174 rfl ?_
    replace E := Option.bind_eq_some_iff.mp E; obtain ⟨v4, ev4, E⟩ := E
    refine go_getP (n := 178) ev4 fl_RX8_24 rfl dX8_readText_175 rfl ?_
    refine go_iconst (z := 0) (n := 179) ⟨by decide, by decide⟩ dX8_readText_178 rfl ?_
    refine go_aload_n (j := 0) (n := 180) rfl rfl dX8_readText_179 rfl ?_
    replace E := Option.bind_eq_some_iff.mp E; obtain ⟨v5, ev5, E⟩ := E
    refine go_getI (n := 183) ev5 fl_RX8_53 rfl dX8_readText_180 rfl ?_
    refine go_mmax (n := 186) wml_RX8_43 jm_max_i (Nat.le_of_ble_eq_true rfl) (Nat.le_of_ble_eq_true rfl) dX8_readText_183 rfl ?_
    replace E := xb_some E; obtain ⟨v6, h7, ev6, E⟩ := E
    refine go_callS (y := yJ7_copyOf_59c91) (n := 189) (st := [vr (some (gn h3)), vr (some (gn h3))]) (as := [vr v4, vi (max 0 v5)]) (stk9 := [vr v6, vr (some (gn h3)), vr (some (gn h3))]) (OXJ7_copyOf_59c91 ev6) yw_J7_copyOf_59c91 wml_RX8_85 wst_J7_copyOf_59c91 (Nat.le_of_ble_eq_true rfl) rfl ⟨Nat.le_of_ble_eq_true rfl, Nat.le_of_ble_eq_true rfl⟩ (Nat.le_of_ble_eq_true rfl) dX8_readText_186 rfl rfl rfl ?_
    refine go_iload_n (j := 1) (n := 190) rfl rfl dX8_readText_189 rfl ?_
    refine go_aload_n (j := 0) (n := 191) rfl rfl dX8_readText_190 rfl ?_
    replace E := Option.bind_eq_some_iff.mp E; obtain ⟨v8, ev8, E⟩ := E
    refine go_getJ (n := 194) ev8 fl_RX8_56 rfl dX8_readText_191 rfl ?_
    refine go_aload_n (j := 0) (n := 195) rfl rfl dX8_readText_194 rfl ?_
    replace E := Option.bind_eq_some_iff.mp E; obtain ⟨v9, ev9, E⟩ := E
    refine go_getJ (n := 198) ev9 fl_RX8_60 rfl dX8_readText_195 rfl ?_
    replace E := xb_some E; obtain ⟨v10, h11, ev10, E⟩ := E
    refine go_callI (y := yX9_init) (n := 201) (st := [vr (some (gn h3))]) (as := [vr v6, vi l2, vl v8, vl v9]) (OX9_init ev10) yw_X9_init wml_RX8_91 wim_X9_init rfl (Nat.le_of_ble_eq_true rfl) rfl ⟨Nat.le_of_ble_eq_true rfl, Nat.le_of_ble_eq_true rfl⟩ (Nat.le_of_ble_eq_true rfl) dX8_readText_198 rfl rfl ?_
    refine go_goto (tgt := 205) dX8_readText_201 rfl ?_
    cases E
    exact go_areturn (rt := (.object "TeaNight$Text")) rfl (by first | exact Or.inl ⟨_, rfl⟩ | exact Or.inr ⟨_, rfl⟩) dX8_readText_205
noncomputable def X8_readText_L150 (F : Nat)   (l0 : Nat) (l2 : Int) (l3 : Int)  (h : HP) : Option (Option Nat × HP) :=
  if l3 = 0 then
    (xrc h (some l0) 8 17).bind fun a4 =>
    xb (X8_begin F a4 h) fun v2 h3 =>
    X8_readText_L163 F l0 l2 l3 v2 (some l0) h3
  else
    X8_readText_L163 F l0 l2 l3 (-1) (some l0) h
set_option maxRecDepth 100000 in
theorem SX8_readText_L150 {K : Ctx} {F : Nat} {r : Option Nat} {hf : HP}     (l0 : Nat) (l2 : Int) (l3 : Int)  (h : HP) (E : X8_readText_L150 F   l0 l2 l3 h = some (r, hf)) : Go K MX8_readText (QM K (some (vr r)) hf) hf 150 [(0, vr (some l0)), (2, vi l2), (3, vi l3)] [] h := by
  unfold X8_readText_L150 at E
  refine go_aload_n (j := 0) (n := 151) rfl rfl dX8_readText_150 rfl ?_
  refine go_iload_n (j := 2) (n := 152) rfl rfl dX8_readText_151 rfl ?_
  refine go_if_eq (tgt := 159) (n := 155) dX8_readText_152 rfl rfl (fun c1 => ?_) (fun c1 => ?_)
  · rw [if_pos c1] at E
    refine go_aload_n (j := 0) (n := 160) rfl rfl dX8_readText_159 rfl ?_
    replace E := Option.bind_eq_some_iff.mp E; obtain ⟨a4, ea4, E⟩ := E
    obtain ⟨fa4, ga4⟩ := xrc_some ea4
    replace E := xb_some E; obtain ⟨v2, h3, ev2, E⟩ := E
    refine go_callV (y := yX8_begin) (n := 163) (st := [vr (some l0)]) (as := []) (stk9 := [vi v2, vr (some l0)]) (OX8_begin ev2) yw_X8_begin ci_8 ga4 wml_RX8_80 wim_X8_begin wse_X8_begin (Nat.le_of_ble_eq_true rfl) rfl ⟨Nat.le_of_ble_eq_true rfl, Nat.le_of_ble_eq_true rfl⟩ (Nat.le_of_ble_eq_true rfl) dX8_readText_160 rfl (by cases fa4; rfl) rfl ?_
    exact SX8_readText_L163     _ _ _ _ _ _ E
  · rw [if_neg c1] at E
    refine go_iconst (z := (-1)) (n := 156) ⟨by decide, by decide⟩ dX8_readText_155 rfl ?_
    refine go_goto (tgt := 163) dX8_readText_156 rfl ?_
    exact SX8_readText_L163     _ _ _ _ _ _ E
noncomputable def X8_readText_L144 (F : Nat)  (rc65 : Nat → Int → Int → Int → Int → HP → Option (Option Nat × HP)) (l0 : Nat) (l2 : Int) (l3 : Int) (l4 : Int) (l5 : Int)  (h : HP) : Option (Option Nat × HP) :=
  rc65 l0 l2 l3 l4 (w32 (l5 + 1)) h
set_option maxRecDepth 100000 in
theorem SX8_readText_L144 {K : Ctx} {F : Nat} {r : Option Nat} {hf : HP}   (rc65 : Nat → Int → Int → Int → Int → HP → Option (Option Nat × HP)) (hrc65 : ∀ l0 l2 l3 l4 l5 h, rc65 l0 l2 l3 l4 l5 h = some (r, hf) → Go K MX8_readText (QM K (some (vr r)) hf) hf 65 [(0, vr (some l0)), (2, vi l2), (3, vi l3), (4, vi l4), (5, vi l5)] [] h) (l0 : Nat) (l2 : Int) (l3 : Int) (l4 : Int) (l5 : Int)  (h : HP) (E : X8_readText_L144 F  rc65 l0 l2 l3 l4 l5 h = some (r, hf)) : Go K MX8_readText (QM K (some (vr r)) hf) hf 144 [(0, vr (some l0)), (2, vi l2), (3, vi l3), (4, vi l4), (5, vi l5)] [] h := by
  unfold X8_readText_L144 at E
  refine go_iinc (j := 4) (n := 147) (lv' := [(5, vi (w32 (l5 + 1))), (0, vr (some l0)), (2, vi l2), (3, vi l3), (4, vi l4)]) rfl dX8_readText_144 rfl (Nat.le_of_ble_eq_true rfl) rfl ?_
  refine go_goto (tgt := 65) dX8_readText_147 rfl ?_
  refine go_pick (lv' := [(0, vr (some l0)), (2, vi l2), (3, vi l3), (4, vi l4), (5, vi (w32 (l5 + 1)))]) [1, 2, 3, 4, 0] rfl ?_
  exact hrc65 _ _ _ _ _ _ E
noncomputable def X8_readText_L135 (F : Nat)  (rc65 : Nat → Int → Int → Int → Int → HP → Option (Option Nat × HP)) (l0 : Nat) (l2 : Int) (l5 : Int) (s0 : Int) (h : HP) : Option (Option Nat × HP) :=
  (xrc h (some l0) 8 17).bind fun a3 =>
  xb (X8_takes F a3 59 h) fun v1 h2 =>
  X8_readText_L144 F rc65 l0 l2 s0 v1 l5 h2
set_option maxRecDepth 100000 in
theorem SX8_readText_L135 {K : Ctx} {F : Nat} {r : Option Nat} {hf : HP}   (rc65 : Nat → Int → Int → Int → Int → HP → Option (Option Nat × HP)) (hrc65 : ∀ l0 l2 l3 l4 l5 h, rc65 l0 l2 l3 l4 l5 h = some (r, hf) → Go K MX8_readText (QM K (some (vr r)) hf) hf 65 [(0, vr (some l0)), (2, vi l2), (3, vi l3), (4, vi l4), (5, vi l5)] [] h) (l0 : Nat) (l2 : Int) (l5 : Int) (s0 : Int) (h : HP) (E : X8_readText_L135 F  rc65 l0 l2 l5 s0 h = some (r, hf)) : Go K MX8_readText (QM K (some (vr r)) hf) hf 135 [(0, vr (some l0)), (2, vi l2), (5, vi l5)] [vi s0] h := by
  unfold X8_readText_L135 at E
  refine go_istore_n (n := 136) (lv' := [(3, vi s0), (0, vr (some l0)), (2, vi l2), (5, vi l5)]) rfl dX8_readText_135 rfl (Nat.le_of_ble_eq_true rfl) rfl ?_
  refine go_aload_n (j := 1) (n := 137) rfl rfl dX8_readText_136 rfl ?_
  refine go_bipush (z := 59) (n := 139) ⟨by decide, by decide⟩ dX8_readText_137 rfl ?_
  replace E := Option.bind_eq_some_iff.mp E; obtain ⟨a3, ea3, E⟩ := E
  obtain ⟨fa3, ga3⟩ := xrc_some ea3
  replace E := xb_some E; obtain ⟨v1, h2, ev1, E⟩ := E
  refine go_callV (y := yX8_takes) (n := 142) (st := []) (as := [vi 59]) (stk9 := [vi v1]) (OX8_takes ev1) yw_X8_takes ci_8 ga3 wml_RX8_76 wim_X8_takes wse_X8_takes (Nat.le_of_ble_eq_true rfl) rfl ⟨Nat.le_of_ble_eq_true rfl, Nat.le_of_ble_eq_true rfl⟩ (Nat.le_of_ble_eq_true rfl) dX8_readText_139 rfl (by cases fa3; rfl) rfl ?_
  refine go_istore (n := 144) (lv' := [(4, vi v1), (3, vi s0), (0, vr (some l0)), (2, vi l2), (5, vi l5)]) dX8_readText_142 rfl (Nat.le_of_ble_eq_true rfl) rfl ?_
  refine go_pick (lv' := [(0, vr (some l0)), (2, vi l2), (3, vi s0), (4, vi v1), (5, vi l5)]) [2, 3, 1, 0, 4] rfl ?_
  exact SX8_readText_L144   _ hrc65 _ _ _ _ _  _ E
noncomputable def X8_readText_L65 (F : Nat)   (k : Nat) : Nat → Int → Int → Int → Int → HP → Option (Option Nat × HP) :=
  Nat.rec (motive := fun _ => Nat → Int → Int → Int → Int → HP → Option (Option Nat × HP)) (fun _ _ _ _ _ _ => none) (fun _ rc65 l0 l2 l3 l4 l5 h =>
    if 10 ≤ l5 then
      X8_readText_L150 F l0 l2 l3 h
    else
      if l4 = 0 then
        X8_readText_L150 F l0 l2 l3 h
      else
        (xgJ h (some l0) 8 17 15).bind fun v3 =>
        (xpJ h (some l0) 8 17 13 0).bind fun h4 =>
        (xrc h4 (some l0) 8 17).bind fun a7 =>
        xb (X8_readLine F a7 h4) fun v5 h6 =>
        (xgJ h6 (some l0) 8 17 14).bind fun v8 =>
        (xgJ h6 (some l0) 8 17 13).bind fun v9 =>
        (xpJ h6 (some l0) 8 17 14 (yor v8 (yand v9 (yxor v3 (-1))))).bind fun h10 =>
        if v5 = 0 then
          X8_readText_L144 F rc65 l0 l2 l3 v5 l5 h10
        else
          (xrc h10 (some l0) 8 17).bind fun a14 =>
          xb (X8_kind F a14 h10) fun v12 h13 =>
          X8_readText_L135 F rc65 l0 (w32 (l2 + 1)) l5 (if v12 = (-1) then 1 else 0) h13) k
theorem X8_readText_L65_s (F : Nat)   (k : Nat) (l0 : Nat) (l2 : Int) (l3 : Int) (l4 : Int) (l5 : Int)  (h : HP) : X8_readText_L65 F   (k + 1) l0 l2 l3 l4 l5 h =
    if 10 ≤ l5 then
      X8_readText_L150 F l0 l2 l3 h
    else
      if l4 = 0 then
        X8_readText_L150 F l0 l2 l3 h
      else
        (xgJ h (some l0) 8 17 15).bind fun v3 =>
        (xpJ h (some l0) 8 17 13 0).bind fun h4 =>
        (xrc h4 (some l0) 8 17).bind fun a7 =>
        xb (X8_readLine F a7 h4) fun v5 h6 =>
        (xgJ h6 (some l0) 8 17 14).bind fun v8 =>
        (xgJ h6 (some l0) 8 17 13).bind fun v9 =>
        (xpJ h6 (some l0) 8 17 14 (yor v8 (yand v9 (yxor v3 (-1))))).bind fun h10 =>
        if v5 = 0 then
          X8_readText_L144 F (X8_readText_L65 F k) l0 l2 l3 v5 l5 h10
        else
          (xrc h10 (some l0) 8 17).bind fun a14 =>
          xb (X8_kind F a14 h10) fun v12 h13 =>
          X8_readText_L135 F (X8_readText_L65 F k) l0 (w32 (l2 + 1)) l5 (if v12 = (-1) then 1 else 0) h13 := rfl
set_option maxRecDepth 100000 in
theorem SX8_readText_L65 {K : Ctx} {F : Nat} {r : Option Nat} {hf : HP}     : ∀ (k : Nat) (l0 : Nat) (l2 : Int) (l3 : Int) (l4 : Int) (l5 : Int)  (h : HP), X8_readText_L65 F   k l0 l2 l3 l4 l5 h = some (r, hf) → Go K MX8_readText (QM K (some (vr r)) hf) hf 65 [(0, vr (some l0)), (2, vi l2), (3, vi l3), (4, vi l4), (5, vi l5)] [] h := by
  intro k
  induction k with
  | zero => intro l0 l2 l3 l4 l5 h E; exact nomatch E
  | succ k hrc65 =>
    intro l0 l2 l3 l4 l5 h E
    rw [X8_readText_L65_s] at E
    refine go_iload (j := 4) (n := 67) rfl dX8_readText_65 rfl ?_
    refine go_bipush (z := 10) (n := 69) ⟨by decide, by decide⟩ dX8_readText_67 rfl ?_
    refine go_icmp_ge (tgt := 150) (n := 72) dX8_readText_69 rfl rfl (fun c1 => ?_) (fun c1 => ?_)
    · rw [if_pos c1] at E
      refine go_pick (lv' := [(0, vr (some l0)), (2, vi l2), (3, vi l3)]) [0, 1, 2] rfl ?_
      exact SX8_readText_L150     _ _ _  _ E
    · rw [if_neg c1] at E
      refine go_iload (j := 3) (n := 74) rfl dX8_readText_72 rfl ?_
      refine go_if_eq (tgt := 150) (n := 77) dX8_readText_74 rfl rfl (fun c2 => ?_) (fun c2 => ?_)
      · rw [if_pos c2] at E
        refine go_pick (lv' := [(0, vr (some l0)), (2, vi l2), (3, vi l3)]) [0, 1, 2] rfl ?_
        exact SX8_readText_L150     _ _ _  _ E
      · rw [if_neg c2] at E
        refine go_aload_n (j := 0) (n := 78) rfl rfl dX8_readText_77 rfl ?_
        replace E := Option.bind_eq_some_iff.mp E; obtain ⟨v3, ev3, E⟩ := E
        refine go_getJ (n := 81) ev3 fl_RX8_60 rfl dX8_readText_78 rfl ?_
        refine go_lstore (n := 83) (lv' := [(6, vl v3), (0, vr (some l0)), (2, vi l2), (3, vi l3), (4, vi l4), (5, vi l5)]) dX8_readText_81 rfl (Nat.le_of_ble_eq_true rfl) rfl ?_
        refine go_aload_n (j := 1) (n := 84) rfl rfl dX8_readText_83 rfl ?_
        refine go_lconst (w := 0) (n := 85) rfl dX8_readText_84 rfl ?_
        replace E := Option.bind_eq_some_iff.mp E; obtain ⟨h4, eh4, E⟩ := E
        refine go_putJ (n := 88) eh4 fl_RX8_67 rfl dX8_readText_85 rfl ?_
        refine go_aload_n (j := 1) (n := 89) rfl rfl dX8_readText_88 rfl ?_
        replace E := Option.bind_eq_some_iff.mp E; obtain ⟨a7, ea7, E⟩ := E
        obtain ⟨fa7, ga7⟩ := xrc_some ea7
        replace E := xb_some E; obtain ⟨v5, h6, ev5, E⟩ := E
        refine go_callV (y := yX8_readLine) (n := 92) (st := []) (as := []) (stk9 := [vi v5]) (OX8_readLine ev5) yw_X8_readLine ci_8 ga7 wml_RX8_70 wim_X8_readLine wse_X8_readLine (Nat.le_of_ble_eq_true rfl) rfl ⟨Nat.le_of_ble_eq_true rfl, Nat.le_of_ble_eq_true rfl⟩ (Nat.le_of_ble_eq_true rfl) dX8_readText_89 rfl (by cases fa7; rfl) rfl ?_
        refine go_istore (n := 94) (lv' := [(4, vi v5), (6, vl v3), (0, vr (some l0)), (2, vi l2), (3, vi l3), (5, vi l5)]) dX8_readText_92 rfl (Nat.le_of_ble_eq_true rfl) rfl ?_
        refine go_aload_n (j := 2) (n := 95) rfl rfl dX8_readText_94 rfl ?_
        refine go_dup (n := 96) rfl dX8_readText_95 rfl ?_
        replace E := Option.bind_eq_some_iff.mp E; obtain ⟨v8, ev8, E⟩ := E
        refine go_getJ (n := 99) ev8 fl_RX8_56 rfl dX8_readText_96 rfl ?_
        refine go_aload_n (j := 2) (n := 100) rfl rfl dX8_readText_99 rfl ?_
        replace E := Option.bind_eq_some_iff.mp E; obtain ⟨v9, ev9, E⟩ := E
        refine go_getJ (n := 103) ev9 fl_RX8_67 rfl dX8_readText_100 rfl ?_
        refine go_lload (j := 1) (n := 105) rfl dX8_readText_103 rfl ?_
        refine go_ldc2 (z := (-1)) (n := 108) ⟨by decide, by decide⟩ wl_RX8_74 dX8_readText_105 rfl ?_
        refine go_lxor (n := 109) dX8_readText_108 rfl ?_
        refine go_land (n := 110) dX8_readText_109 rfl ?_
        refine go_lor (n := 111) dX8_readText_110 rfl ?_
        replace E := Option.bind_eq_some_iff.mp E; obtain ⟨h10, eh10, E⟩ := E
        refine go_putJ (n := 114) eh10 fl_RX8_56 rfl dX8_readText_111 rfl ?_
        refine go_iload (j := 0) (n := 116) rfl dX8_readText_114 rfl ?_
        refine go_if_eq (tgt := 144) (n := 119) dX8_readText_116 rfl rfl (fun c11 => ?_) (fun c11 => ?_)
        · rw [if_pos c11] at E
          refine go_pick (lv' := [(0, vr (some l0)), (2, vi l2), (3, vi l3), (4, vi v5), (5, vi l5)]) [2, 3, 4, 0, 5] rfl ?_
          exact SX8_readText_L144   _ hrc65 _ _ _ _ _  _ E
        · rw [if_neg c11] at E
          refine go_iinc (j := 3) (n := 122) (lv' := [(2, vi (w32 (l2 + 1))), (4, vi v5), (6, vl v3), (0, vr (some l0)), (3, vi l3), (5, vi l5)]) rfl dX8_readText_119 rfl (Nat.le_of_ble_eq_true rfl) rfl ?_
          refine go_aload_n (j := 3) (n := 123) rfl rfl dX8_readText_122 rfl ?_
          replace E := Option.bind_eq_some_iff.mp E; obtain ⟨a14, ea14, E⟩ := E
          obtain ⟨fa14, ga14⟩ := xrc_some ea14
          replace E := xb_some E; obtain ⟨v12, h13, ev12, E⟩ := E
          refine go_callV (y := yX8_kind) (n := 126) (st := []) (as := []) (stk9 := [vi v12]) (OX8_kind ev12) yw_X8_kind ci_8 ga14 wml_RX8_63 wim_X8_kind wse_X8_kind (Nat.le_of_ble_eq_true rfl) rfl ⟨Nat.le_of_ble_eq_true rfl, Nat.le_of_ble_eq_true rfl⟩ (Nat.le_of_ble_eq_true rfl) dX8_readText_123 rfl (by cases fa14; rfl) rfl ?_
          refine go_iconst (z := (-1)) (n := 127) ⟨by decide, by decide⟩ dX8_readText_126 rfl ?_
          refine go_icmp_ne (tgt := 134) (n := 130) dX8_readText_127 rfl rfl (fun c15 => ?_) (fun c15 => ?_)
          · simp only [if_neg c15] at E
            refine go_iconst (z := 0) (n := 135) ⟨by decide, by decide⟩ dX8_readText_134 rfl ?_
            refine go_pick (lv' := [(0, vr (some l0)), (2, vi (w32 (l2 + 1))), (5, vi l5)]) [3, 0, 5] rfl ?_
            exact SX8_readText_L135   _ hrc65 _ _ _ _ _ E
          · simp only [if_pos c15] at E
            refine go_iconst (z := 1) (n := 131) ⟨by decide, by decide⟩ dX8_readText_130 rfl ?_
            refine go_goto (tgt := 135) dX8_readText_131 rfl ?_
            refine go_pick (lv' := [(0, vr (some l0)), (2, vi (w32 (l2 + 1))), (5, vi l5)]) [3, 0, 5] rfl ?_
            exact SX8_readText_L135   _ hrc65 _ _ _ _ _ E
noncomputable def X8_readText_L60 (F : Nat)   (l0 : Nat) (l2 : Int) (l3 : Int) (s0 : Int) (h : HP) : Option (Option Nat × HP) :=
  X8_readText_L65 F F l0 l2 l3 s0 0 h
set_option maxRecDepth 100000 in
theorem SX8_readText_L60 {K : Ctx} {F : Nat} {r : Option Nat} {hf : HP}     (l0 : Nat) (l2 : Int) (l3 : Int) (s0 : Int) (h : HP) (E : X8_readText_L60 F   l0 l2 l3 s0 h = some (r, hf)) : Go K MX8_readText (QM K (some (vr r)) hf) hf 60 [(0, vr (some l0)), (2, vi l2), (3, vi l3)] [vi s0] h := by
  unfold X8_readText_L60 at E
  refine go_istore (n := 62) (lv' := [(4, vi s0), (0, vr (some l0)), (2, vi l2), (3, vi l3)]) dX8_readText_60 rfl (Nat.le_of_ble_eq_true rfl) rfl ?_
  refine go_iconst (z := 0) (n := 63) ⟨by decide, by decide⟩ dX8_readText_62 rfl ?_
  refine go_istore (n := 65) (lv' := [(5, vi 0), (4, vi s0), (0, vr (some l0)), (2, vi l2), (3, vi l3)]) dX8_readText_63 rfl (Nat.le_of_ble_eq_true rfl) rfl ?_
  refine go_pick (lv' := [(0, vr (some l0)), (2, vi l2), (3, vi l3), (4, vi s0), (5, vi 0)]) [2, 3, 4, 1, 0] rfl ?_
  exact SX8_readText_L65     F _ _ _ _ _ _ E
noncomputable def X8_readText_L50 (F : Nat)   (l0 : Nat) (l2 : Int) (s0 : Int) (h : HP) : Option (Option Nat × HP) :=
  X8_readText_L60 F l0 l2 s0 (if s0 = 0 then 1 else 0) h
set_option maxRecDepth 100000 in
theorem SX8_readText_L50 {K : Ctx} {F : Nat} {r : Option Nat} {hf : HP}     (l0 : Nat) (l2 : Int) (s0 : Int) (h : HP) (E : X8_readText_L50 F   l0 l2 s0 h = some (r, hf)) : Go K MX8_readText (QM K (some (vr r)) hf) hf 50 [(0, vr (some l0)), (2, vi l2)] [vi s0] h := by
  unfold X8_readText_L50 at E
  refine go_istore_n (n := 51) (lv' := [(3, vi s0), (0, vr (some l0)), (2, vi l2)]) rfl dX8_readText_50 rfl (Nat.le_of_ble_eq_true rfl) rfl ?_
  refine go_iload_n (j := 0) (n := 52) rfl rfl dX8_readText_51 rfl ?_
  refine go_if_ne (tgt := 59) (n := 55) dX8_readText_52 rfl rfl (fun c1 => ?_) (fun c1 => ?_)
  · simp only [if_neg c1] at E
    refine go_iconst (z := 0) (n := 60) ⟨by decide, by decide⟩ dX8_readText_59 rfl ?_
    refine go_pick (lv' := [(0, vr (some l0)), (2, vi l2), (3, vi s0)]) [1, 2, 0] rfl ?_
    exact SX8_readText_L60     _ _ _ _ _ E
  · simp only [if_pos c1] at E
    refine go_iconst (z := 1) (n := 56) ⟨by decide, by decide⟩ dX8_readText_55 rfl ?_
    refine go_goto (tgt := 60) dX8_readText_56 rfl ?_
    refine go_pick (lv' := [(0, vr (some l0)), (2, vi l2), (3, vi s0)]) [1, 2, 0] rfl ?_
    exact SX8_readText_L60     _ _ _ _ _ E
noncomputable def X8_readText (F : Nat)   (l0 : Nat) (l1 : Int)  (h : HP) : Option (Option Nat × HP) :=
  (xrc h (some l0) 8 17).bind fun a3 =>
  xb (X8_scan F a3 (max 0 (min l1 400)) h) fun v1 h2 =>
  (xpI h2 (some l0) 8 17 6 0).bind fun h4 =>
  (xpI h4 (some l0) 8 17 9 0).bind fun h5 =>
  (xpJ h5 (some l0) 8 17 14 0).bind fun h6 =>
  (xpJ h6 (some l0) 8 17 15 0).bind fun h7 =>
  (xrc h7 (some l0) 8 17).bind fun a10 =>
  xb (X8_kind F a10 h7) fun v8 h9 =>
  X8_readText_L50 F l0 0 (if v8 = (-1) then 1 else 0) h9
set_option maxRecDepth 100000 in
theorem SX8_readText {K : Ctx} {F : Nat} {r : Option Nat} {hf : HP}     (l0 : Nat) (l1 : Int)  (h : HP) (E : X8_readText F   l0 l1 h = some (r, hf)) : Go K MX8_readText (QM K (some (vr r)) hf) hf 0 [(0, vr (some l0)), (1, vi l1)] [] h := by
  unfold X8_readText at E
  refine go_aload_n (j := 0) (n := 1) rfl rfl dX8_readText_0 rfl ?_
  refine go_iconst (z := 0) (n := 2) ⟨by decide, by decide⟩ dX8_readText_1 rfl ?_
  refine go_iload_n (j := 1) (n := 3) rfl rfl dX8_readText_2 rfl ?_
  refine go_sipush (z := 400) (n := 6) ⟨by decide, by decide⟩ dX8_readText_3 rfl ?_
  refine go_mmin (n := 9) wml_RX8_37 jm_min_i (Nat.le_of_ble_eq_true rfl) (Nat.le_of_ble_eq_true rfl) dX8_readText_6 rfl ?_
  refine go_mmax (n := 12) wml_RX8_43 jm_max_i (Nat.le_of_ble_eq_true rfl) (Nat.le_of_ble_eq_true rfl) dX8_readText_9 rfl ?_
  replace E := Option.bind_eq_some_iff.mp E; obtain ⟨a3, ea3, E⟩ := E
  obtain ⟨fa3, ga3⟩ := xrc_some ea3
  replace E := xb_some E; obtain ⟨v1, h2, ev1, E⟩ := E
  refine go_callV (y := yX8_scan) (n := 15) (st := []) (as := [vi (max 0 (min l1 400))]) (stk9 := []) (OX8_scan ev1) yw_X8_scan ci_8 ga3 wml_RX8_46 wim_X8_scan wse_X8_scan (Nat.le_of_ble_eq_true rfl) rfl ⟨Nat.le_of_ble_eq_true rfl, Nat.le_of_ble_eq_true rfl⟩ (Nat.le_of_ble_eq_true rfl) dX8_readText_12 rfl (by cases fa3; rfl) rfl ?_
  refine go_aload_n (j := 0) (n := 16) rfl rfl dX8_readText_15 rfl ?_
  refine go_iconst (z := 0) (n := 17) ⟨by decide, by decide⟩ dX8_readText_16 rfl ?_
  replace E := Option.bind_eq_some_iff.mp E; obtain ⟨h4, eh4, E⟩ := E
  refine go_putI (n := 20) eh4 fl_RX8_50 rfl dX8_readText_17 rfl ?_
  refine go_aload_n (j := 0) (n := 21) rfl rfl dX8_readText_20 rfl ?_
  refine go_iconst (z := 0) (n := 22) ⟨by decide, by decide⟩ dX8_readText_21 rfl ?_
  replace E := Option.bind_eq_some_iff.mp E; obtain ⟨h5, eh5, E⟩ := E
  refine go_putI (n := 25) eh5 fl_RX8_53 rfl dX8_readText_22 rfl ?_
  refine go_aload_n (j := 0) (n := 26) rfl rfl dX8_readText_25 rfl ?_
  refine go_lconst (w := 0) (n := 27) rfl dX8_readText_26 rfl ?_
  replace E := Option.bind_eq_some_iff.mp E; obtain ⟨h6, eh6, E⟩ := E
  refine go_putJ (n := 30) eh6 fl_RX8_56 rfl dX8_readText_27 rfl ?_
  refine go_aload_n (j := 0) (n := 31) rfl rfl dX8_readText_30 rfl ?_
  refine go_lconst (w := 0) (n := 32) rfl dX8_readText_31 rfl ?_
  replace E := Option.bind_eq_some_iff.mp E; obtain ⟨h7, eh7, E⟩ := E
  refine go_putJ (n := 35) eh7 fl_RX8_60 rfl dX8_readText_32 rfl ?_
  refine go_iconst (z := 0) (n := 36) ⟨by decide, by decide⟩ dX8_readText_35 rfl ?_
  refine go_istore_n (n := 37) (lv' := [(2, vi 0), (0, vr (some l0)), (1, vi l1)]) rfl dX8_readText_36 rfl (Nat.le_of_ble_eq_true rfl) rfl ?_
  refine go_aload_n (j := 1) (n := 38) rfl rfl dX8_readText_37 rfl ?_
  replace E := Option.bind_eq_some_iff.mp E; obtain ⟨a10, ea10, E⟩ := E
  obtain ⟨fa10, ga10⟩ := xrc_some ea10
  replace E := xb_some E; obtain ⟨v8, h9, ev8, E⟩ := E
  refine go_callV (y := yX8_kind) (n := 41) (st := []) (as := []) (stk9 := [vi v8]) (OX8_kind ev8) yw_X8_kind ci_8 ga10 wml_RX8_63 wim_X8_kind wse_X8_kind (Nat.le_of_ble_eq_true rfl) rfl ⟨Nat.le_of_ble_eq_true rfl, Nat.le_of_ble_eq_true rfl⟩ (Nat.le_of_ble_eq_true rfl) dX8_readText_38 rfl (by cases fa10; rfl) rfl ?_
  refine go_iconst (z := (-1)) (n := 42) ⟨by decide, by decide⟩ dX8_readText_41 rfl ?_
  refine go_icmp_ne (tgt := 49) (n := 45) dX8_readText_42 rfl rfl (fun c11 => ?_) (fun c11 => ?_)
  · simp only [if_neg c11] at E
    refine go_iconst (z := 0) (n := 50) ⟨by decide, by decide⟩ dX8_readText_49 rfl ?_
    refine go_pick (lv' := [(0, vr (some l0)), (2, vi 0)]) [1, 0] rfl ?_
    exact SX8_readText_L50     _ _ _ _ E
  · simp only [if_pos c11] at E
    refine go_iconst (z := 1) (n := 46) ⟨by decide, by decide⟩ dX8_readText_45 rfl ?_
    refine go_goto (tgt := 50) dX8_readText_46 rfl ?_
    refine go_pick (lv' := [(0, vr (some l0)), (2, vi 0)]) [1, 0] rfl ?_
    exact SX8_readText_L50     _ _ _ _ E
theorem OX8_readText {F : Nat} {l0 : Nat} {l1 : Int} {h hf : HP} {r : Option Nat} (e : X8_readText F l0 l1 h = some (r, hf)) : Ok MX8_readText [vr (some l0), vi l1] (some (vr r)) h hf := fun K _ _ _ => SX8_readText l0 l1 h e
abbrev MX2_setUp : MI := (RX2, cX2_setUp, 7, none, 2, none, "setUp")
noncomputable def X2_setUp (F : Nat)   (l0 : Nat) (l1 : Int) (l2 : Int) (l3 : Int) (l4 : Int) (l5 : Int) (l6 : Option Nat)  (h : HP) : Option (Unit × HP) :=
  (xpI h (some l0) 2 18 0 l1).bind fun h1 =>
  (xpI h1 (some l0) 2 18 1 l2).bind fun h2 =>
  (xpI h2 (some l0) 2 18 2 l3).bind fun h3 =>
  (xpI h3 (some l0) 2 18 3 l4).bind fun h4 =>
  (xpZ h4 (some l0) 2 18 4 l5).bind fun h5 =>
  (xpP h5 (some l0) 2 18 5 l6).bind fun h6 =>
  (xpI h6 (some l0) 2 18 6 0).bind fun h7 =>
  (xpI h7 (some l0) 2 18 7 0).bind fun h8 =>
  (xpI h8 (some l0) 2 18 8 0).bind fun h9 =>
  (xpI h9 (some l0) 2 18 9 0).bind fun h10 =>
  (xpI h10 (some l0) 2 18 10 0).bind fun h11 =>
  (xpI h11 (some l0) 2 18 11 0).bind fun h12 =>
  (xpI h12 (some l0) 2 18 12 0).bind fun h13 =>
  (xpI h13 (some l0) 2 18 13 0).bind fun h14 =>
  (xpI h14 (some l0) 2 18 14 (-1)).bind fun h15 =>
  (xpI h15 (some l0) 2 18 15 0).bind fun h16 =>
  (xpI h16 (some l0) 2 18 16 0).bind fun h17 =>
  (xpI h17 (some l0) 2 18 17 0).bind fun h18 =>
  some ((), h18)
set_option maxRecDepth 100000 in
theorem SX2_setUp {K : Ctx} {F : Nat} {r : Unit} {hf : HP}     (l0 : Nat) (l1 : Int) (l2 : Int) (l3 : Int) (l4 : Int) (l5 : Int) (l6 : Option Nat)  (h : HP) (E : X2_setUp F   l0 l1 l2 l3 l4 l5 l6 h = some (r, hf)) : Go K MX2_setUp (QM K none hf) hf 0 [(0, vr (some l0)), (1, vi l1), (2, vi l2), (3, vi l3), (4, vi l4), (5, vi l5), (6, vr l6)] [] h := by
  unfold X2_setUp at E
  refine go_aload_n (j := 0) (n := 1) rfl rfl dX2_setUp_0 rfl ?_
  refine go_iload_n (j := 1) (n := 2) rfl rfl dX2_setUp_1 rfl ?_
  replace E := Option.bind_eq_some_iff.mp E; obtain ⟨h1, eh1, E⟩ := E
  refine go_putI (n := 5) eh1 fl_RX2_9 rfl dX2_setUp_2 rfl ?_
  refine go_aload_n (j := 0) (n := 6) rfl rfl dX2_setUp_5 rfl ?_
  refine go_iload_n (j := 2) (n := 7) rfl rfl dX2_setUp_6 rfl ?_
  replace E := Option.bind_eq_some_iff.mp E; obtain ⟨h2, eh2, E⟩ := E
  refine go_putI (n := 10) eh2 fl_RX2_15 rfl dX2_setUp_7 rfl ?_
  refine go_aload_n (j := 0) (n := 11) rfl rfl dX2_setUp_10 rfl ?_
  refine go_iload_n (j := 3) (n := 12) rfl rfl dX2_setUp_11 rfl ?_
  replace E := Option.bind_eq_some_iff.mp E; obtain ⟨h3, eh3, E⟩ := E
  refine go_putI (n := 15) eh3 fl_RX2_18 rfl dX2_setUp_12 rfl ?_
  refine go_aload_n (j := 0) (n := 16) rfl rfl dX2_setUp_15 rfl ?_
  refine go_iload (j := 4) (n := 18) rfl dX2_setUp_16 rfl ?_
  replace E := Option.bind_eq_some_iff.mp E; obtain ⟨h4, eh4, E⟩ := E
  refine go_putI (n := 21) eh4 fl_RX2_21 rfl dX2_setUp_18 rfl ?_
  refine go_aload_n (j := 0) (n := 22) rfl rfl dX2_setUp_21 rfl ?_
  refine go_iload (j := 5) (n := 24) rfl dX2_setUp_22 rfl ?_
  replace E := Option.bind_eq_some_iff.mp E; obtain ⟨h5, eh5, E⟩ := E
  refine go_putZ (n := 27) eh5 fl_RX2_24 rfl dX2_setUp_24 rfl ?_
  refine go_aload_n (j := 0) (n := 28) rfl rfl dX2_setUp_27 rfl ?_
  refine go_aload (j := 6) (n := 30) rfl dX2_setUp_28 rfl ?_
  replace E := Option.bind_eq_some_iff.mp E; obtain ⟨h6, eh6, E⟩ := E
  refine go_putP (n := 33) eh6 fl_RX2_28 rfl dX2_setUp_30 rfl ?_
  refine go_aload_n (j := 0) (n := 34) rfl rfl dX2_setUp_33 rfl ?_
  refine go_iconst (z := 0) (n := 35) ⟨by decide, by decide⟩ dX2_setUp_34 rfl ?_
  replace E := Option.bind_eq_some_iff.mp E; obtain ⟨h7, eh7, E⟩ := E
  refine go_putI (n := 38) eh7 fl_RX2_32 rfl dX2_setUp_35 rfl ?_
  refine go_aload_n (j := 0) (n := 39) rfl rfl dX2_setUp_38 rfl ?_
  refine go_iconst (z := 0) (n := 40) ⟨by decide, by decide⟩ dX2_setUp_39 rfl ?_
  replace E := Option.bind_eq_some_iff.mp E; obtain ⟨h8, eh8, E⟩ := E
  refine go_putI (n := 43) eh8 fl_RX2_35 rfl dX2_setUp_40 rfl ?_
  refine go_aload_n (j := 0) (n := 44) rfl rfl dX2_setUp_43 rfl ?_
  refine go_iconst (z := 0) (n := 45) ⟨by decide, by decide⟩ dX2_setUp_44 rfl ?_
  replace E := Option.bind_eq_some_iff.mp E; obtain ⟨h9, eh9, E⟩ := E
  refine go_putI (n := 48) eh9 fl_RX2_38 rfl dX2_setUp_45 rfl ?_
  refine go_aload_n (j := 0) (n := 49) rfl rfl dX2_setUp_48 rfl ?_
  refine go_iconst (z := 0) (n := 50) ⟨by decide, by decide⟩ dX2_setUp_49 rfl ?_
  replace E := Option.bind_eq_some_iff.mp E; obtain ⟨h10, eh10, E⟩ := E
  refine go_putI (n := 53) eh10 fl_RX2_41 rfl dX2_setUp_50 rfl ?_
  refine go_aload_n (j := 0) (n := 54) rfl rfl dX2_setUp_53 rfl ?_
  refine go_iconst (z := 0) (n := 55) ⟨by decide, by decide⟩ dX2_setUp_54 rfl ?_
  replace E := Option.bind_eq_some_iff.mp E; obtain ⟨h11, eh11, E⟩ := E
  refine go_putI (n := 58) eh11 fl_RX2_44 rfl dX2_setUp_55 rfl ?_
  refine go_aload_n (j := 0) (n := 59) rfl rfl dX2_setUp_58 rfl ?_
  refine go_iconst (z := 0) (n := 60) ⟨by decide, by decide⟩ dX2_setUp_59 rfl ?_
  replace E := Option.bind_eq_some_iff.mp E; obtain ⟨h12, eh12, E⟩ := E
  refine go_putI (n := 63) eh12 fl_RX2_47 rfl dX2_setUp_60 rfl ?_
  refine go_aload_n (j := 0) (n := 64) rfl rfl dX2_setUp_63 rfl ?_
  refine go_iconst (z := 0) (n := 65) ⟨by decide, by decide⟩ dX2_setUp_64 rfl ?_
  replace E := Option.bind_eq_some_iff.mp E; obtain ⟨h13, eh13, E⟩ := E
  refine go_putI (n := 68) eh13 fl_RX2_50 rfl dX2_setUp_65 rfl ?_
  refine go_aload_n (j := 0) (n := 69) rfl rfl dX2_setUp_68 rfl ?_
  refine go_iconst (z := 0) (n := 70) ⟨by decide, by decide⟩ dX2_setUp_69 rfl ?_
  replace E := Option.bind_eq_some_iff.mp E; obtain ⟨h14, eh14, E⟩ := E
  refine go_putI (n := 73) eh14 fl_RX2_53 rfl dX2_setUp_70 rfl ?_
  refine go_aload_n (j := 0) (n := 74) rfl rfl dX2_setUp_73 rfl ?_
  refine go_iconst (z := (-1)) (n := 75) ⟨by decide, by decide⟩ dX2_setUp_74 rfl ?_
  replace E := Option.bind_eq_some_iff.mp E; obtain ⟨h15, eh15, E⟩ := E
  refine go_putI (n := 78) eh15 fl_RX2_56 rfl dX2_setUp_75 rfl ?_
  refine go_aload_n (j := 0) (n := 79) rfl rfl dX2_setUp_78 rfl ?_
  refine go_iconst (z := 0) (n := 80) ⟨by decide, by decide⟩ dX2_setUp_79 rfl ?_
  replace E := Option.bind_eq_some_iff.mp E; obtain ⟨h16, eh16, E⟩ := E
  refine go_putI (n := 83) eh16 fl_RX2_59 rfl dX2_setUp_80 rfl ?_
  refine go_aload_n (j := 0) (n := 84) rfl rfl dX2_setUp_83 rfl ?_
  refine go_iconst (z := 0) (n := 85) ⟨by decide, by decide⟩ dX2_setUp_84 rfl ?_
  replace E := Option.bind_eq_some_iff.mp E; obtain ⟨h17, eh17, E⟩ := E
  refine go_putI (n := 88) eh17 fl_RX2_62 rfl dX2_setUp_85 rfl ?_
  refine go_aload_n (j := 0) (n := 89) rfl rfl dX2_setUp_88 rfl ?_
  refine go_iconst (z := 0) (n := 90) ⟨by decide, by decide⟩ dX2_setUp_89 rfl ?_
  replace E := Option.bind_eq_some_iff.mp E; obtain ⟨h18, eh18, E⟩ := E
  refine go_putI (n := 93) eh18 fl_RX2_65 rfl dX2_setUp_90 rfl ?_
  cases E
  exact go_return rfl dX2_setUp_93
theorem OX2_setUp {F : Nat} {l0 : Nat} {l1 : Int} {l2 : Int} {l3 : Int} {l4 : Int} {l5 : Int} {l6 : Option Nat} {h hf : HP} {r : Unit} (e : X2_setUp F l0 l1 l2 l3 l4 l5 l6 h = some (r, hf)) : Ok MX2_setUp [vr (some l0), vi l1, vi l2, vi l3, vi l4, vi l5, vr l6] none h hf := fun K _ _ _ => SX2_setUp l0 l1 l2 l3 l4 l5 l6 h e
theorem wml_RX3_56 : Cond.methodLink RX3 56 yX2_reads ∈ BW := bw_of 1298 (by decide +kernel) rfl
abbrev MX3_findLeaning : MI := (RX3, cX3_findLeaning, 4, none, 3, none, "findLeaning")
noncomputable def X3_findLeaning_L61 (F : Nat)  (rc2 : Nat → Int → HP → Option (Unit × HP)) (rc20 : Nat → Int → Int → Int → HP → Option (Unit × HP)) (l0 : Nat) (l1 : Int) (l2 : Int) (l3 : Int)  (h : HP) : Option (Unit × HP) :=
  rc20 l0 l1 l2 (w32 (l3 + 1)) h
set_option maxRecDepth 100000 in
theorem SX3_findLeaning_L61 {K : Ctx} {F : Nat} {r : Unit} {hf : HP}   (rc2 : Nat → Int → HP → Option (Unit × HP)) (rc20 : Nat → Int → Int → Int → HP → Option (Unit × HP)) (hrc2 : ∀ l0 l1 h, rc2 l0 l1 h = some (r, hf) → Go K MX3_findLeaning (QM K none hf) hf 2 [(0, vr (some l0)), (1, vi l1)] [] h) (hrc20 : ∀ l0 l1 l2 l3 h, rc20 l0 l1 l2 l3 h = some (r, hf) → Go K MX3_findLeaning (QM K none hf) hf 20 [(0, vr (some l0)), (1, vi l1), (2, vi l2), (3, vi l3)] [] h) (l0 : Nat) (l1 : Int) (l2 : Int) (l3 : Int)  (h : HP) (E : X3_findLeaning_L61 F  rc2 rc20 l0 l1 l2 l3 h = some (r, hf)) : Go K MX3_findLeaning (QM K none hf) hf 61 [(0, vr (some l0)), (1, vi l1), (2, vi l2), (3, vi l3)] [] h := by
  unfold X3_findLeaning_L61 at E
  refine go_iinc (j := 3) (n := 64) (lv' := [(3, vi (w32 (l3 + 1))), (0, vr (some l0)), (1, vi l1), (2, vi l2)]) rfl dX3_findLeaning_61 rfl (Nat.le_of_ble_eq_true rfl) rfl ?_
  refine go_goto (tgt := 20) dX3_findLeaning_64 rfl ?_
  refine go_pick (lv' := [(0, vr (some l0)), (1, vi l1), (2, vi l2), (3, vi (w32 (l3 + 1)))]) [1, 2, 3, 0] rfl ?_
  exact hrc20 _ _ _ _ _ E
noncomputable def X3_findLeaning_L20 (F : Nat)  (rc2 : Nat → Int → HP → Option (Unit × HP)) (k : Nat) : Nat → Int → Int → Int → HP → Option (Unit × HP) :=
  Nat.rec (motive := fun _ => Nat → Int → Int → Int → HP → Option (Unit × HP)) (fun _ _ _ _ _ => none) (fun _ rc20 l0 l1 l2 l3 h =>
    (xgI h (some l0) 3 7 5).bind fun v1 =>
    if v1 ≤ l3 then
      (xgP h (some l0) 3 7 1).bind fun v3 =>
      (xsI h v3 l1 l2).bind fun h4 =>
      rc2 l0 (w32 (l1 + 1)) h4
    else
      if l3 = l1 then
        X3_findLeaning_L61 F rc2 rc20 l0 l1 l2 l3 h
      else
        (xrc h (some l0) 3 7).bind fun a8 =>
        xb (X3_at F a8 l1 h) fun v6 h7 =>
        (xrc h7 v6 2 18).bind fun a11 =>
        xb (X2_reads F a11 h7) fun v9 h10 =>
        (xrc h10 (some l0) 3 7).bind fun a14 =>
        xb (X3_at F a14 l3 h10) fun v12 h13 =>
        (xrc h13 v12 2 18).bind fun a17 =>
        xb (X2_writes F a17 h13) fun v15 h16 =>
        X3_findLeaning_L61 F rc2 rc20 l0 l1 (if (xcmp (yand v9 v15) 0) = 0 then l2 else xor_ l2 (xshl 1 l3)) l3 h16) k
theorem X3_findLeaning_L20_s (F : Nat)  (rc2 : Nat → Int → HP → Option (Unit × HP)) (k : Nat) (l0 : Nat) (l1 : Int) (l2 : Int) (l3 : Int)  (h : HP) : X3_findLeaning_L20 F  rc2 (k + 1) l0 l1 l2 l3 h =
    (xgI h (some l0) 3 7 5).bind fun v1 =>
    if v1 ≤ l3 then
      (xgP h (some l0) 3 7 1).bind fun v3 =>
      (xsI h v3 l1 l2).bind fun h4 =>
      rc2 l0 (w32 (l1 + 1)) h4
    else
      if l3 = l1 then
        X3_findLeaning_L61 F rc2 (X3_findLeaning_L20 F rc2 k) l0 l1 l2 l3 h
      else
        (xrc h (some l0) 3 7).bind fun a8 =>
        xb (X3_at F a8 l1 h) fun v6 h7 =>
        (xrc h7 v6 2 18).bind fun a11 =>
        xb (X2_reads F a11 h7) fun v9 h10 =>
        (xrc h10 (some l0) 3 7).bind fun a14 =>
        xb (X3_at F a14 l3 h10) fun v12 h13 =>
        (xrc h13 v12 2 18).bind fun a17 =>
        xb (X2_writes F a17 h13) fun v15 h16 =>
        X3_findLeaning_L61 F rc2 (X3_findLeaning_L20 F rc2 k) l0 l1 (if (xcmp (yand v9 v15) 0) = 0 then l2 else xor_ l2 (xshl 1 l3)) l3 h16 := rfl
set_option maxRecDepth 100000 in
theorem SX3_findLeaning_L20 {K : Ctx} {F : Nat} {r : Unit} {hf : HP}   (rc2 : Nat → Int → HP → Option (Unit × HP)) (hrc2 : ∀ l0 l1 h, rc2 l0 l1 h = some (r, hf) → Go K MX3_findLeaning (QM K none hf) hf 2 [(0, vr (some l0)), (1, vi l1)] [] h) : ∀ (k : Nat) (l0 : Nat) (l1 : Int) (l2 : Int) (l3 : Int)  (h : HP), X3_findLeaning_L20 F  rc2 k l0 l1 l2 l3 h = some (r, hf) → Go K MX3_findLeaning (QM K none hf) hf 20 [(0, vr (some l0)), (1, vi l1), (2, vi l2), (3, vi l3)] [] h := by
  intro k
  induction k with
  | zero => intro l0 l1 l2 l3 h E; exact nomatch E
  | succ k hrc20 =>
    intro l0 l1 l2 l3 h E
    rw [X3_findLeaning_L20_s] at E
    refine go_iload_n (j := 3) (n := 21) rfl rfl dX3_findLeaning_20 rfl ?_
    refine go_aload_n (j := 0) (n := 22) rfl rfl dX3_findLeaning_21 rfl ?_
    replace E := Option.bind_eq_some_iff.mp E; obtain ⟨v1, ev1, E⟩ := E
    refine go_getI (n := 25) ev1 fl_RX3_36 rfl dX3_findLeaning_22 rfl ?_
    refine go_icmp_ge (tgt := 67) (n := 28) dX3_findLeaning_25 rfl rfl (fun c2 => ?_) (fun c2 => ?_)
    · rw [if_pos c2] at E
      refine go_aload_n (j := 0) (n := 68) rfl rfl dX3_findLeaning_67 rfl ?_
      replace E := Option.bind_eq_some_iff.mp E; obtain ⟨v3, ev3, E⟩ := E
      refine go_getP (n := 71) ev3 fl_RX3_17 rfl dX3_findLeaning_68 rfl ?_
      refine go_iload_n (j := 1) (n := 72) rfl rfl dX3_findLeaning_71 rfl ?_
      refine go_iload_n (j := 2) (n := 73) rfl rfl dX3_findLeaning_72 rfl ?_
      replace E := Option.bind_eq_some_iff.mp E; obtain ⟨h4, eh4, E⟩ := E
      refine go_iastore (n := 74) eh4 dX3_findLeaning_73 rfl ?_
      refine go_iinc (j := 1) (n := 77) (lv' := [(1, vi (w32 (l1 + 1))), (0, vr (some l0)), (2, vi l2), (3, vi l3)]) rfl dX3_findLeaning_74 rfl (Nat.le_of_ble_eq_true rfl) rfl ?_
      refine go_goto (tgt := 2) dX3_findLeaning_77 rfl ?_
      refine go_pick (lv' := [(0, vr (some l0)), (1, vi (w32 (l1 + 1)))]) [1, 0] rfl ?_
      exact hrc2 _ _ _ E
    · rw [if_neg c2] at E
      refine go_iload_n (j := 3) (n := 29) rfl rfl dX3_findLeaning_28 rfl ?_
      refine go_iload_n (j := 1) (n := 30) rfl rfl dX3_findLeaning_29 rfl ?_
      refine go_icmp_eq (tgt := 61) (n := 33) dX3_findLeaning_30 rfl rfl (fun c5 => ?_) (fun c5 => ?_)
      · rw [if_pos c5] at E
        exact SX3_findLeaning_L61   _ _ hrc2 hrc20 _ _ _ _  _ E
      · rw [if_neg c5] at E
        refine go_aload_n (j := 0) (n := 34) rfl rfl dX3_findLeaning_33 rfl ?_
        refine go_iload_n (j := 1) (n := 35) rfl rfl dX3_findLeaning_34 rfl ?_
        replace E := Option.bind_eq_some_iff.mp E; obtain ⟨a8, ea8, E⟩ := E
        obtain ⟨fa8, ga8⟩ := xrc_some ea8
        replace E := xb_some E; obtain ⟨v6, h7, ev6, E⟩ := E
        refine go_callV (y := yX3_at) (n := 38) (st := []) (as := [vi l1]) (stk9 := [vr v6]) (OX3_at ev6) yw_X3_at ci_3 ga8 wml_RX3_52 wim_X3_at wse_X3_at (Nat.le_of_ble_eq_true rfl) rfl ⟨Nat.le_of_ble_eq_true rfl, Nat.le_of_ble_eq_true rfl⟩ (Nat.le_of_ble_eq_true rfl) dX3_findLeaning_35 rfl (by cases fa8; rfl) rfl ?_
        replace E := Option.bind_eq_some_iff.mp E; obtain ⟨a11, ea11, E⟩ := E
        obtain ⟨fa11, ga11⟩ := xrc_some ea11
        replace E := xb_some E; obtain ⟨v9, h10, ev9, E⟩ := E
        refine go_callV (y := yX2_reads) (n := 41) (st := []) (as := []) (stk9 := [vl v9]) (OX2_reads ev9) yw_X2_reads ci_2 ga11 wml_RX3_56 wim_X2_reads wse_X2_reads (Nat.le_of_ble_eq_true rfl) rfl ⟨Nat.le_of_ble_eq_true rfl, Nat.le_of_ble_eq_true rfl⟩ (Nat.le_of_ble_eq_true rfl) dX3_findLeaning_38 rfl (by cases fa11; rfl) rfl ?_
        refine go_aload_n (j := 0) (n := 42) rfl rfl dX3_findLeaning_41 rfl ?_
        refine go_iload_n (j := 3) (n := 43) rfl rfl dX3_findLeaning_42 rfl ?_
        replace E := Option.bind_eq_some_iff.mp E; obtain ⟨a14, ea14, E⟩ := E
        obtain ⟨fa14, ga14⟩ := xrc_some ea14
        replace E := xb_some E; obtain ⟨v12, h13, ev12, E⟩ := E
        refine go_callV (y := yX3_at) (n := 46) (st := [vl v9]) (as := [vi l3]) (stk9 := [vr v12, vl v9]) (OX3_at ev12) yw_X3_at ci_3 ga14 wml_RX3_52 wim_X3_at wse_X3_at (Nat.le_of_ble_eq_true rfl) rfl ⟨Nat.le_of_ble_eq_true rfl, Nat.le_of_ble_eq_true rfl⟩ (Nat.le_of_ble_eq_true rfl) dX3_findLeaning_43 rfl (by cases fa14; rfl) rfl ?_
        replace E := Option.bind_eq_some_iff.mp E; obtain ⟨a17, ea17, E⟩ := E
        obtain ⟨fa17, ga17⟩ := xrc_some ea17
        replace E := xb_some E; obtain ⟨v15, h16, ev15, E⟩ := E
        refine go_callV (y := yX2_writes) (n := 49) (st := [vl v9]) (as := []) (stk9 := [vl v15, vl v9]) (OX2_writes ev15) yw_X2_writes ci_2 ga17 wml_RX3_60 wim_X2_writes wse_X2_writes (Nat.le_of_ble_eq_true rfl) rfl ⟨Nat.le_of_ble_eq_true rfl, Nat.le_of_ble_eq_true rfl⟩ (Nat.le_of_ble_eq_true rfl) dX3_findLeaning_46 rfl (by cases fa17; rfl) rfl ?_
        refine go_land (n := 50) dX3_findLeaning_49 rfl ?_
        refine go_lconst (w := 0) (n := 51) rfl dX3_findLeaning_50 rfl ?_
        refine go_lcmp (n := 52) dX3_findLeaning_51 rfl ?_
        refine go_if_eq (tgt := 61) (n := 55) dX3_findLeaning_52 rfl rfl (fun c18 => ?_) (fun c18 => ?_)
        · simp only [if_pos c18] at E
          exact SX3_findLeaning_L61   _ _ hrc2 hrc20 _ _ _ _  _ E
        · simp only [if_neg c18] at E
          refine go_iload_n (j := 2) (n := 56) rfl rfl dX3_findLeaning_55 rfl ?_
          refine go_iconst (z := 1) (n := 57) ⟨by decide, by decide⟩ dX3_findLeaning_56 rfl ?_
          refine go_iload_n (j := 3) (n := 58) rfl rfl dX3_findLeaning_57 rfl ?_
          refine go_ishl (n := 59) dX3_findLeaning_58 rfl ?_
          refine go_ior (n := 60) dX3_findLeaning_59 rfl ?_
          refine go_istore_n (n := 61) (lv' := [(2, vi (xor_ l2 (xshl 1 l3))), (0, vr (some l0)), (1, vi l1), (3, vi l3)]) rfl dX3_findLeaning_60 rfl (Nat.le_of_ble_eq_true rfl) rfl ?_
          refine go_pick (lv' := [(0, vr (some l0)), (1, vi l1), (2, vi (xor_ l2 (xshl 1 l3))), (3, vi l3)]) [1, 2, 0, 3] rfl ?_
          exact SX3_findLeaning_L61   _ _ hrc2 hrc20 _ _ _ _  _ E
noncomputable def X3_findLeaning_L2 (F : Nat)   (k : Nat) : Nat → Int → HP → Option (Unit × HP) :=
  Nat.rec (motive := fun _ => Nat → Int → HP → Option (Unit × HP)) (fun _ _ _ => none) (fun _ rc2 l0 l1 h =>
    (xgI h (some l0) 3 7 5).bind fun v1 =>
    if v1 ≤ l1 then
      some ((), h)
    else
      if 12 ≤ l1 then
        some ((), h)
      else
        X3_findLeaning_L20 F rc2 F l0 l1 0 0 h) k
theorem X3_findLeaning_L2_s (F : Nat)   (k : Nat) (l0 : Nat) (l1 : Int)  (h : HP) : X3_findLeaning_L2 F   (k + 1) l0 l1 h =
    (xgI h (some l0) 3 7 5).bind fun v1 =>
    if v1 ≤ l1 then
      some ((), h)
    else
      if 12 ≤ l1 then
        some ((), h)
      else
        X3_findLeaning_L20 F (X3_findLeaning_L2 F k) F l0 l1 0 0 h := rfl
set_option maxRecDepth 100000 in
theorem SX3_findLeaning_L2 {K : Ctx} {F : Nat} {r : Unit} {hf : HP}     : ∀ (k : Nat) (l0 : Nat) (l1 : Int)  (h : HP), X3_findLeaning_L2 F   k l0 l1 h = some (r, hf) → Go K MX3_findLeaning (QM K none hf) hf 2 [(0, vr (some l0)), (1, vi l1)] [] h := by
  intro k
  induction k with
  | zero => intro l0 l1 h E; exact nomatch E
  | succ k hrc2 =>
    intro l0 l1 h E
    rw [X3_findLeaning_L2_s] at E
    refine go_iload_n (j := 1) (n := 3) rfl rfl dX3_findLeaning_2 rfl ?_
    refine go_aload_n (j := 0) (n := 4) rfl rfl dX3_findLeaning_3 rfl ?_
    replace E := Option.bind_eq_some_iff.mp E; obtain ⟨v1, ev1, E⟩ := E
    refine go_getI (n := 7) ev1 fl_RX3_36 rfl dX3_findLeaning_4 rfl ?_
    refine go_icmp_ge (tgt := 80) (n := 10) dX3_findLeaning_7 rfl rfl (fun c2 => ?_) (fun c2 => ?_)
    · rw [if_pos c2] at E
      cases E
      exact go_return rfl dX3_findLeaning_80
    · rw [if_neg c2] at E
      refine go_iload_n (j := 1) (n := 11) rfl rfl dX3_findLeaning_10 rfl ?_
      refine go_bipush (z := 12) (n := 13) ⟨by decide, by decide⟩ dX3_findLeaning_11 rfl ?_
      refine go_icmp_ge (tgt := 80) (n := 16) dX3_findLeaning_13 rfl rfl (fun c3 => ?_) (fun c3 => ?_)
      · rw [if_pos c3] at E
        cases E
        exact go_return rfl dX3_findLeaning_80
      · rw [if_neg c3] at E
        refine go_iconst (z := 0) (n := 17) ⟨by decide, by decide⟩ dX3_findLeaning_16 rfl ?_
        refine go_istore_n (n := 18) (lv' := [(2, vi 0), (0, vr (some l0)), (1, vi l1)]) rfl dX3_findLeaning_17 rfl (Nat.le_of_ble_eq_true rfl) rfl ?_
        refine go_iconst (z := 0) (n := 19) ⟨by decide, by decide⟩ dX3_findLeaning_18 rfl ?_
        refine go_istore_n (n := 20) (lv' := [(3, vi 0), (2, vi 0), (0, vr (some l0)), (1, vi l1)]) rfl dX3_findLeaning_19 rfl (Nat.le_of_ble_eq_true rfl) rfl ?_
        refine go_pick (lv' := [(0, vr (some l0)), (1, vi l1), (2, vi 0), (3, vi 0)]) [2, 3, 1, 0] rfl ?_
        exact SX3_findLeaning_L20   _ hrc2 F _ _ _ _ _ E
noncomputable def X3_findLeaning (F : Nat)   (l0 : Nat)  (h : HP) : Option (Unit × HP) :=
  X3_findLeaning_L2 F F l0 0 h
set_option maxRecDepth 100000 in
theorem SX3_findLeaning {K : Ctx} {F : Nat} {r : Unit} {hf : HP}     (l0 : Nat)  (h : HP) (E : X3_findLeaning F   l0 h = some (r, hf)) : Go K MX3_findLeaning (QM K none hf) hf 0 [(0, vr (some l0))] [] h := by
  unfold X3_findLeaning at E
  refine go_iconst (z := 0) (n := 1) ⟨by decide, by decide⟩ dX3_findLeaning_0 rfl ?_
  refine go_istore_n (n := 2) (lv' := [(1, vi 0), (0, vr (some l0))]) rfl dX3_findLeaning_1 rfl (Nat.le_of_ble_eq_true rfl) rfl ?_
  refine go_pick (lv' := [(0, vr (some l0)), (1, vi 0)]) [1, 0] rfl ?_
  exact SX3_findLeaning_L2     F _ _ _ E
theorem OX3_findLeaning {F : Nat} {l0 : Nat} {h hf : HP} {r : Unit} (e : X3_findLeaning F l0 h = some (r, hf)) : Ok MX3_findLeaning [vr (some l0)] none h hf := fun K _ _ _ => SX3_findLeaning l0 h e
abbrev MX3_nextPlaced : MI := (RX3, cX3_nextPlaced, 3, (some .int), 3, none, "nextPlaced")
noncomputable def X3_nextPlaced_L32 (F : Nat)  (rc2 : Nat → Int → Int → HP → Option (Int × HP)) (l0 : Nat) (l1 : Int) (l2 : Int)  (h : HP) : Option (Int × HP) :=
  rc2 l0 l1 (w32 (l2 + 1)) h
set_option maxRecDepth 100000 in
theorem SX3_nextPlaced_L32 {K : Ctx} {F : Nat} {r : Int} {hf : HP}   (rc2 : Nat → Int → Int → HP → Option (Int × HP)) (hrc2 : ∀ l0 l1 l2 h, rc2 l0 l1 l2 h = some (r, hf) → Go K MX3_nextPlaced (QM K (some (vi r)) hf) hf 2 [(0, vr (some l0)), (1, vi l1), (2, vi l2)] [] h) (l0 : Nat) (l1 : Int) (l2 : Int)  (h : HP) (E : X3_nextPlaced_L32 F  rc2 l0 l1 l2 h = some (r, hf)) : Go K MX3_nextPlaced (QM K (some (vi r)) hf) hf 32 [(0, vr (some l0)), (1, vi l1), (2, vi l2)] [] h := by
  unfold X3_nextPlaced_L32 at E
  refine go_iinc (j := 2) (n := 35) (lv' := [(2, vi (w32 (l2 + 1))), (0, vr (some l0)), (1, vi l1)]) rfl dX3_nextPlaced_32 rfl (Nat.le_of_ble_eq_true rfl) rfl ?_
  refine go_goto (tgt := 2) dX3_nextPlaced_35 rfl ?_
  refine go_pick (lv' := [(0, vr (some l0)), (1, vi l1), (2, vi (w32 (l2 + 1)))]) [1, 2, 0] rfl ?_
  exact hrc2 _ _ _ _ E
noncomputable def X3_nextPlaced_L2 (F : Nat)   (k : Nat) : Nat → Int → Int → HP → Option (Int × HP) :=
  Nat.rec (motive := fun _ => Nat → Int → Int → HP → Option (Int × HP)) (fun _ _ _ _ => none) (fun _ rc2 l0 l1 l2 h =>
    (xgI h (some l0) 3 7 5).bind fun v1 =>
    if v1 ≤ l2 then
      some ((-1), h)
    else
      if (xand (xush l1 l2) 1) = 0 then
        (xrc h (some l0) 3 7).bind fun a6 =>
        xb (X3_leansOf F a6 l2 h) fun v4 h5 =>
        if (xand v4 (xxor l1 (-1))) = 0 then
          some (l2, h5)
        else
          X3_nextPlaced_L32 F rc2 l0 l1 l2 h5
      else
        X3_nextPlaced_L32 F rc2 l0 l1 l2 h) k
theorem X3_nextPlaced_L2_s (F : Nat)   (k : Nat) (l0 : Nat) (l1 : Int) (l2 : Int)  (h : HP) : X3_nextPlaced_L2 F   (k + 1) l0 l1 l2 h =
    (xgI h (some l0) 3 7 5).bind fun v1 =>
    if v1 ≤ l2 then
      some ((-1), h)
    else
      if (xand (xush l1 l2) 1) = 0 then
        (xrc h (some l0) 3 7).bind fun a6 =>
        xb (X3_leansOf F a6 l2 h) fun v4 h5 =>
        if (xand v4 (xxor l1 (-1))) = 0 then
          some (l2, h5)
        else
          X3_nextPlaced_L32 F (X3_nextPlaced_L2 F k) l0 l1 l2 h5
      else
        X3_nextPlaced_L32 F (X3_nextPlaced_L2 F k) l0 l1 l2 h := rfl
set_option maxRecDepth 100000 in
theorem SX3_nextPlaced_L2 {K : Ctx} {F : Nat} {r : Int} {hf : HP}     : ∀ (k : Nat) (l0 : Nat) (l1 : Int) (l2 : Int)  (h : HP), X3_nextPlaced_L2 F   k l0 l1 l2 h = some (r, hf) → Go K MX3_nextPlaced (QM K (some (vi r)) hf) hf 2 [(0, vr (some l0)), (1, vi l1), (2, vi l2)] [] h := by
  intro k
  induction k with
  | zero => intro l0 l1 l2 h E; exact nomatch E
  | succ k hrc2 =>
    intro l0 l1 l2 h E
    rw [X3_nextPlaced_L2_s] at E
    refine go_iload_n (j := 2) (n := 3) rfl rfl dX3_nextPlaced_2 rfl ?_
    refine go_aload_n (j := 0) (n := 4) rfl rfl dX3_nextPlaced_3 rfl ?_
    replace E := Option.bind_eq_some_iff.mp E; obtain ⟨v1, ev1, E⟩ := E
    refine go_getI (n := 7) ev1 fl_RX3_36 rfl dX3_nextPlaced_4 rfl ?_
    refine go_icmp_ge (tgt := 38) (n := 10) dX3_nextPlaced_7 rfl rfl (fun c2 => ?_) (fun c2 => ?_)
    · rw [if_pos c2] at E
      refine go_iconst (z := (-1)) (n := 39) ⟨by decide, by decide⟩ dX3_nextPlaced_38 rfl ?_
      cases E
      exact go_ireturn rfl dX3_nextPlaced_39
    · rw [if_neg c2] at E
      refine go_iload_n (j := 1) (n := 11) rfl rfl dX3_nextPlaced_10 rfl ?_
      refine go_iload_n (j := 2) (n := 12) rfl rfl dX3_nextPlaced_11 rfl ?_
      refine go_iushr (n := 13) dX3_nextPlaced_12 rfl ?_
      refine go_iconst (z := 1) (n := 14) ⟨by decide, by decide⟩ dX3_nextPlaced_13 rfl ?_
      refine go_iand (n := 15) dX3_nextPlaced_14 rfl ?_
      refine go_if_ne (tgt := 32) (n := 18) dX3_nextPlaced_15 rfl rfl (fun c3 => ?_) (fun c3 => ?_)
      · rw [if_neg c3] at E
        exact SX3_nextPlaced_L32   _ hrc2 _ _ _  _ E
      · rw [if_pos c3] at E
        refine go_aload_n (j := 0) (n := 19) rfl rfl dX3_nextPlaced_18 rfl ?_
        refine go_iload_n (j := 2) (n := 20) rfl rfl dX3_nextPlaced_19 rfl ?_
        replace E := Option.bind_eq_some_iff.mp E; obtain ⟨a6, ea6, E⟩ := E
        obtain ⟨fa6, ga6⟩ := xrc_some ea6
        replace E := xb_some E; obtain ⟨v4, h5, ev4, E⟩ := E
        refine go_callV (y := yX3_leansOf) (n := 23) (st := []) (as := [vi l2]) (stk9 := [vi v4]) (OX3_leansOf ev4) yw_X3_leansOf ci_3 ga6 wml_RX3_67 wim_X3_leansOf wse_X3_leansOf (Nat.le_of_ble_eq_true rfl) rfl ⟨Nat.le_of_ble_eq_true rfl, Nat.le_of_ble_eq_true rfl⟩ (Nat.le_of_ble_eq_true rfl) dX3_nextPlaced_20 rfl (by cases fa6; rfl) rfl ?_
        refine go_iload_n (j := 1) (n := 24) rfl rfl dX3_nextPlaced_23 rfl ?_
        refine go_iconst (z := (-1)) (n := 25) ⟨by decide, by decide⟩ dX3_nextPlaced_24 rfl ?_
        refine go_ixor (n := 26) dX3_nextPlaced_25 rfl ?_
        refine go_iand (n := 27) dX3_nextPlaced_26 rfl ?_
        refine go_if_ne (tgt := 32) (n := 30) dX3_nextPlaced_27 rfl rfl (fun c7 => ?_) (fun c7 => ?_)
        · rw [if_neg c7] at E
          exact SX3_nextPlaced_L32   _ hrc2 _ _ _  _ E
        · rw [if_pos c7] at E
          refine go_iload_n (j := 2) (n := 31) rfl rfl dX3_nextPlaced_30 rfl ?_
          cases E
          exact go_ireturn rfl dX3_nextPlaced_31
noncomputable def X3_nextPlaced (F : Nat)   (l0 : Nat) (l1 : Int)  (h : HP) : Option (Int × HP) :=
  X3_nextPlaced_L2 F F l0 l1 0 h
set_option maxRecDepth 100000 in
theorem SX3_nextPlaced {K : Ctx} {F : Nat} {r : Int} {hf : HP}     (l0 : Nat) (l1 : Int)  (h : HP) (E : X3_nextPlaced F   l0 l1 h = some (r, hf)) : Go K MX3_nextPlaced (QM K (some (vi r)) hf) hf 0 [(0, vr (some l0)), (1, vi l1)] [] h := by
  unfold X3_nextPlaced at E
  refine go_iconst (z := 0) (n := 1) ⟨by decide, by decide⟩ dX3_nextPlaced_0 rfl ?_
  refine go_istore_n (n := 2) (lv' := [(2, vi 0), (0, vr (some l0)), (1, vi l1)]) rfl dX3_nextPlaced_1 rfl (Nat.le_of_ble_eq_true rfl) rfl ?_
  refine go_pick (lv' := [(0, vr (some l0)), (1, vi l1), (2, vi 0)]) [1, 2, 0] rfl ?_
  exact SX3_nextPlaced_L2     F _ _ _ _ E
theorem OX3_nextPlaced {F : Nat} {l0 : Nat} {l1 : Int} {h hf : HP} {r : Int} (e : X3_nextPlaced F l0 l1 h = some (r, hf)) : Ok MX3_nextPlaced [vr (some l0), vi l1] (some (vi r)) h hf := fun K _ _ _ => SX3_nextPlaced l0 l1 h e
theorem yw_X3_nextPlaced : YW yX3_nextPlaced cX3_nextPlaced 3 (some .int) 1 := ⟨bw_of 1306 (by decide +kernel) rfl, bw_of 122 (by decide +kernel) rfl, ⟨by decide +kernel, by decide +kernel, by decide +kernel⟩, by decide +kernel⟩
theorem wml_RX3_63 : Cond.methodLink RX3 63 yX3_nextPlaced ∈ BW := bw_of 1303 (by decide +kernel) rfl
theorem wim_X3_nextPlaced : Cond.instanceMethod yX3_nextPlaced ∈ BW := bw_of 1305 (by decide +kernel) rfl
theorem wse_X3_nextPlaced : Cond.selects RX3 yX3_nextPlaced yX3_nextPlaced ∈ BW := bw_of 37 (by decide +kernel) rfl
abbrev MX3_findOrder : MI := (RX3, cX3_findOrder, 4, none, 4, none, "findOrder")
noncomputable def X3_findOrder_L9 (F : Nat)   (k : Nat) : Nat → Int → Int → HP → Option (Unit × HP) :=
  Nat.rec (motive := fun _ => Nat → Int → Int → HP → Option (Unit × HP)) (fun _ _ _ _ => none) (fun _ rc9 l0 l1 l2 h =>
    (xgI h (some l0) 3 7 5).bind fun v1 =>
    if v1 ≤ l2 then
      some ((), h)
    else
      if 12 ≤ l2 then
        some ((), h)
      else
        (xrc h (some l0) 3 7).bind fun a6 =>
        xb (X3_nextPlaced F a6 l1 h) fun v4 h5 =>
        if v4 = (-1) then
          (xpZ h5 (some l0) 3 7 4 0).bind fun h10 =>
          some ((), h10)
        else
          (xgP h5 (some l0) 3 7 2).bind fun v8 =>
          (xsI h5 v8 l2 v4).bind fun h9 =>
          rc9 l0 (xor_ l1 (xshl 1 v4)) (w32 (l2 + 1)) h9) k
theorem X3_findOrder_L9_s (F : Nat)   (k : Nat) (l0 : Nat) (l1 : Int) (l2 : Int)  (h : HP) : X3_findOrder_L9 F   (k + 1) l0 l1 l2 h =
    (xgI h (some l0) 3 7 5).bind fun v1 =>
    if v1 ≤ l2 then
      some ((), h)
    else
      if 12 ≤ l2 then
        some ((), h)
      else
        (xrc h (some l0) 3 7).bind fun a6 =>
        xb (X3_nextPlaced F a6 l1 h) fun v4 h5 =>
        if v4 = (-1) then
          (xpZ h5 (some l0) 3 7 4 0).bind fun h10 =>
          some ((), h10)
        else
          (xgP h5 (some l0) 3 7 2).bind fun v8 =>
          (xsI h5 v8 l2 v4).bind fun h9 =>
          (X3_findOrder_L9 F k) l0 (xor_ l1 (xshl 1 v4)) (w32 (l2 + 1)) h9 := rfl
set_option maxRecDepth 100000 in
theorem SX3_findOrder_L9 {K : Ctx} {F : Nat} {r : Unit} {hf : HP}     : ∀ (k : Nat) (l0 : Nat) (l1 : Int) (l2 : Int)  (h : HP), X3_findOrder_L9 F   k l0 l1 l2 h = some (r, hf) → Go K MX3_findOrder (QM K none hf) hf 9 [(0, vr (some l0)), (1, vi l1), (2, vi l2)] [] h := by
  intro k
  induction k with
  | zero => intro l0 l1 l2 h E; exact nomatch E
  | succ k hrc9 =>
    intro l0 l1 l2 h E
    rw [X3_findOrder_L9_s] at E
    refine go_iload_n (j := 2) (n := 10) rfl rfl dX3_findOrder_9 rfl ?_
    refine go_aload_n (j := 0) (n := 11) rfl rfl dX3_findOrder_10 rfl ?_
    replace E := Option.bind_eq_some_iff.mp E; obtain ⟨v1, ev1, E⟩ := E
    refine go_getI (n := 14) ev1 fl_RX3_36 rfl dX3_findOrder_11 rfl ?_
    refine go_icmp_ge (tgt := 59) (n := 17) dX3_findOrder_14 rfl rfl (fun c2 => ?_) (fun c2 => ?_)
    · rw [if_pos c2] at E
      cases E
      exact go_return rfl dX3_findOrder_59
    · rw [if_neg c2] at E
      refine go_iload_n (j := 2) (n := 18) rfl rfl dX3_findOrder_17 rfl ?_
      refine go_bipush (z := 12) (n := 20) ⟨by decide, by decide⟩ dX3_findOrder_18 rfl ?_
      refine go_icmp_ge (tgt := 59) (n := 23) dX3_findOrder_20 rfl rfl (fun c3 => ?_) (fun c3 => ?_)
      · rw [if_pos c3] at E
        cases E
        exact go_return rfl dX3_findOrder_59
      · rw [if_neg c3] at E
        refine go_aload_n (j := 0) (n := 24) rfl rfl dX3_findOrder_23 rfl ?_
        refine go_iload_n (j := 1) (n := 25) rfl rfl dX3_findOrder_24 rfl ?_
        replace E := Option.bind_eq_some_iff.mp E; obtain ⟨a6, ea6, E⟩ := E
        obtain ⟨fa6, ga6⟩ := xrc_some ea6
        replace E := xb_some E; obtain ⟨v4, h5, ev4, E⟩ := E
        refine go_callV (y := yX3_nextPlaced) (n := 28) (st := []) (as := [vi l1]) (stk9 := [vi v4]) (OX3_nextPlaced ev4) yw_X3_nextPlaced ci_3 ga6 wml_RX3_63 wim_X3_nextPlaced wse_X3_nextPlaced (Nat.le_of_ble_eq_true rfl) rfl ⟨Nat.le_of_ble_eq_true rfl, Nat.le_of_ble_eq_true rfl⟩ (Nat.le_of_ble_eq_true rfl) dX3_findOrder_25 rfl (by cases fa6; rfl) rfl ?_
        refine go_istore_n (n := 29) (lv' := [(3, vi v4), (0, vr (some l0)), (1, vi l1), (2, vi l2)]) rfl dX3_findOrder_28 rfl (Nat.le_of_ble_eq_true rfl) rfl ?_
        refine go_iload_n (j := 0) (n := 30) rfl rfl dX3_findOrder_29 rfl ?_
        refine go_iconst (z := (-1)) (n := 31) ⟨by decide, by decide⟩ dX3_findOrder_30 rfl ?_
        refine go_icmp_ne (tgt := 40) (n := 34) dX3_findOrder_31 rfl rfl (fun c7 => ?_) (fun c7 => ?_)
        · rw [if_neg c7] at E
          refine go_aload_n (j := 1) (n := 41) rfl rfl dX3_findOrder_40 rfl ?_
          replace E := Option.bind_eq_some_iff.mp E; obtain ⟨v8, ev8, E⟩ := E
          refine go_getP (n := 44) ev8 fl_RX3_21 rfl dX3_findOrder_41 rfl ?_
          refine go_iload_n (j := 3) (n := 45) rfl rfl dX3_findOrder_44 rfl ?_
          refine go_iload_n (j := 0) (n := 46) rfl rfl dX3_findOrder_45 rfl ?_
          replace E := Option.bind_eq_some_iff.mp E; obtain ⟨h9, eh9, E⟩ := E
          refine go_iastore (n := 47) eh9 dX3_findOrder_46 rfl ?_
          refine go_iload_n (j := 2) (n := 48) rfl rfl dX3_findOrder_47 rfl ?_
          refine go_iconst (z := 1) (n := 49) ⟨by decide, by decide⟩ dX3_findOrder_48 rfl ?_
          refine go_iload_n (j := 0) (n := 50) rfl rfl dX3_findOrder_49 rfl ?_
          refine go_ishl (n := 51) dX3_findOrder_50 rfl ?_
          refine go_ior (n := 52) dX3_findOrder_51 rfl ?_
          refine go_istore_n (n := 53) (lv' := [(1, vi (xor_ l1 (xshl 1 v4))), (3, vi v4), (0, vr (some l0)), (2, vi l2)]) rfl dX3_findOrder_52 rfl (Nat.le_of_ble_eq_true rfl) rfl ?_
          refine go_iinc (j := 3) (n := 56) (lv' := [(2, vi (w32 (l2 + 1))), (1, vi (xor_ l1 (xshl 1 v4))), (3, vi v4), (0, vr (some l0))]) rfl dX3_findOrder_53 rfl (Nat.le_of_ble_eq_true rfl) rfl ?_
          refine go_goto (tgt := 9) dX3_findOrder_56 rfl ?_
          refine go_pick (lv' := [(0, vr (some l0)), (1, vi (xor_ l1 (xshl 1 v4))), (2, vi (w32 (l2 + 1)))]) [3, 1, 0] rfl ?_
          exact hrc9 _ _ _ _ E
        · rw [if_pos c7] at E
          refine go_aload_n (j := 1) (n := 35) rfl rfl dX3_findOrder_34 rfl ?_
          refine go_iconst (z := 0) (n := 36) ⟨by decide, by decide⟩ dX3_findOrder_35 rfl ?_
          replace E := Option.bind_eq_some_iff.mp E; obtain ⟨h10, eh10, E⟩ := E
          refine go_putZ (n := 39) eh10 fl_RX3_27 rfl dX3_findOrder_36 rfl ?_
          cases E
          exact go_return rfl dX3_findOrder_39
noncomputable def X3_findOrder (F : Nat)   (l0 : Nat)  (h : HP) : Option (Unit × HP) :=
  (xpZ h (some l0) 3 7 4 1).bind fun h1 =>
  X3_findOrder_L9 F F l0 0 0 h1
set_option maxRecDepth 100000 in
theorem SX3_findOrder {K : Ctx} {F : Nat} {r : Unit} {hf : HP}     (l0 : Nat)  (h : HP) (E : X3_findOrder F   l0 h = some (r, hf)) : Go K MX3_findOrder (QM K none hf) hf 0 [(0, vr (some l0))] [] h := by
  unfold X3_findOrder at E
  refine go_iconst (z := 0) (n := 1) ⟨by decide, by decide⟩ dX3_findOrder_0 rfl ?_
  refine go_istore_n (n := 2) (lv' := [(1, vi 0), (0, vr (some l0))]) rfl dX3_findOrder_1 rfl (Nat.le_of_ble_eq_true rfl) rfl ?_
  refine go_aload_n (j := 1) (n := 3) rfl rfl dX3_findOrder_2 rfl ?_
  refine go_iconst (z := 1) (n := 4) ⟨by decide, by decide⟩ dX3_findOrder_3 rfl ?_
  replace E := Option.bind_eq_some_iff.mp E; obtain ⟨h1, eh1, E⟩ := E
  refine go_putZ (n := 7) eh1 fl_RX3_27 rfl dX3_findOrder_4 rfl ?_
  refine go_iconst (z := 0) (n := 8) ⟨by decide, by decide⟩ dX3_findOrder_7 rfl ?_
  refine go_istore_n (n := 9) (lv' := [(2, vi 0), (1, vi 0), (0, vr (some l0))]) rfl dX3_findOrder_8 rfl (Nat.le_of_ble_eq_true rfl) rfl ?_
  refine go_pick (lv' := [(0, vr (some l0)), (1, vi 0), (2, vi 0)]) [2, 1, 0] rfl ?_
  exact SX3_findOrder_L9     F _ _ _ _ E
theorem OX3_findOrder {F : Nat} {l0 : Nat} {h hf : HP} {r : Unit} (e : X3_findOrder F l0 h = some (r, hf)) : Ok MX3_findOrder [vr (some l0)] none h hf := fun K _ _ _ => SX3_findOrder l0 h e
theorem yw_X3_findLeaning : YW yX3_findLeaning cX3_findLeaning 4 none 0 := ⟨bw_of 1297 (by decide +kernel) rfl, bw_of 122 (by decide +kernel) rfl, ⟨by decide +kernel, by decide +kernel, by decide +kernel⟩, by decide +kernel⟩
theorem wml_RX3_46 : Cond.methodLink RX3 46 yX3_findLeaning ∈ BW := bw_of 1294 (by decide +kernel) rfl
theorem wim_X3_findLeaning : Cond.instanceMethod yX3_findLeaning ∈ BW := bw_of 1296 (by decide +kernel) rfl
theorem wse_X3_findLeaning : Cond.selects RX3 yX3_findLeaning yX3_findLeaning ∈ BW := bw_of 35 (by decide +kernel) rfl
theorem yw_X3_findOrder : YW yX3_findOrder cX3_findOrder 4 none 0 := ⟨bw_of 1302 (by decide +kernel) rfl, bw_of 122 (by decide +kernel) rfl, ⟨by decide +kernel, by decide +kernel, by decide +kernel⟩, by decide +kernel⟩
theorem wml_RX3_49 : Cond.methodLink RX3 49 yX3_findOrder ∈ BW := bw_of 1299 (by decide +kernel) rfl
theorem wim_X3_findOrder : Cond.instanceMethod yX3_findOrder ∈ BW := bw_of 1301 (by decide +kernel) rfl
theorem wse_X3_findOrder : Cond.selects RX3 yX3_findOrder yX3_findOrder ∈ BW := bw_of 36 (by decide +kernel) rfl
abbrev MX3_admit : MI := (RX3, cX3_admit, 2, (some .int), 5, none, "adm\x69t")
noncomputable def X3_admit (F : Nat)   (l0 : Nat)  (h : HP) : Option (Int × HP) :=
  (xgI h (some l0) 3 7 5).bind fun v1 =>
  (xgI h (some l0) 3 7 5).bind fun v2 =>
  (xpI h (some l0) 3 7 5 (min (w32 (v2 + 1)) 12)).bind fun h3 =>
  (xrc h3 (some l0) 3 7).bind fun a6 =>
  xb (X3_findLeaning F a6 h3) fun v4 h5 =>
  (xrc h5 (some l0) 3 7).bind fun a9 =>
  xb (X3_findOrder F a9 h5) fun v7 h8 =>
  some (v1, h8)
set_option maxRecDepth 100000 in
theorem SX3_admit {K : Ctx} {F : Nat} {r : Int} {hf : HP}     (l0 : Nat)  (h : HP) (E : X3_admit F   l0 h = some (r, hf)) : Go K MX3_admit (QM K (some (vi r)) hf) hf 0 [(0, vr (some l0))] [] h := by
  unfold X3_admit at E
  refine go_aload_n (j := 0) (n := 1) rfl rfl dX3_admit_0 rfl ?_
  replace E := Option.bind_eq_some_iff.mp E; obtain ⟨v1, ev1, E⟩ := E
  refine go_getI (n := 4) ev1 fl_RX3_36 rfl dX3_admit_1 rfl ?_
  refine go_istore_n (n := 5) (lv' := [(1, vi v1), (0, vr (some l0))]) rfl dX3_admit_4 rfl (Nat.le_of_ble_eq_true rfl) rfl ?_
  refine go_aload_n (j := 1) (n := 6) rfl rfl dX3_admit_5 rfl ?_
  refine go_aload_n (j := 1) (n := 7) rfl rfl dX3_admit_6 rfl ?_
  replace E := Option.bind_eq_some_iff.mp E; obtain ⟨v2, ev2, E⟩ := E
  refine go_getI (n := 10) ev2 fl_RX3_36 rfl dX3_admit_7 rfl ?_
  refine go_iconst (z := 1) (n := 11) ⟨by decide, by decide⟩ dX3_admit_10 rfl ?_
  refine go_iadd (n := 12) dX3_admit_11 rfl ?_
  refine go_bipush (z := 12) (n := 14) ⟨by decide, by decide⟩ dX3_admit_12 rfl ?_
  refine go_mmin (n := 17) wml_RX3_40 jm_min_i (Nat.le_of_ble_eq_true rfl) (Nat.le_of_ble_eq_true rfl) dX3_admit_14 rfl ?_
  replace E := Option.bind_eq_some_iff.mp E; obtain ⟨h3, eh3, E⟩ := E
  refine go_putI (n := 20) eh3 fl_RX3_36 rfl dX3_admit_17 rfl ?_
  refine go_aload_n (j := 1) (n := 21) rfl rfl dX3_admit_20 rfl ?_
  replace E := Option.bind_eq_some_iff.mp E; obtain ⟨a6, ea6, E⟩ := E
  obtain ⟨fa6, ga6⟩ := xrc_some ea6
  replace E := xb_some E; obtain ⟨v4, h5, ev4, E⟩ := E
  refine go_callV (y := yX3_findLeaning) (n := 24) (st := []) (as := []) (stk9 := []) (OX3_findLeaning ev4) yw_X3_findLeaning ci_3 ga6 wml_RX3_46 wim_X3_findLeaning wse_X3_findLeaning (Nat.le_of_ble_eq_true rfl) rfl ⟨Nat.le_of_ble_eq_true rfl, Nat.le_of_ble_eq_true rfl⟩ (Nat.le_of_ble_eq_true rfl) dX3_admit_21 rfl (by cases fa6; rfl) rfl ?_
  refine go_aload_n (j := 1) (n := 25) rfl rfl dX3_admit_24 rfl ?_
  replace E := Option.bind_eq_some_iff.mp E; obtain ⟨a9, ea9, E⟩ := E
  obtain ⟨fa9, ga9⟩ := xrc_some ea9
  replace E := xb_some E; obtain ⟨v7, h8, ev7, E⟩ := E
  refine go_callV (y := yX3_findOrder) (n := 28) (st := []) (as := []) (stk9 := []) (OX3_findOrder ev7) yw_X3_findOrder ci_3 ga9 wml_RX3_49 wim_X3_findOrder wse_X3_findOrder (Nat.le_of_ble_eq_true rfl) rfl ⟨Nat.le_of_ble_eq_true rfl, Nat.le_of_ble_eq_true rfl⟩ (Nat.le_of_ble_eq_true rfl) dX3_admit_25 rfl (by cases fa9; rfl) rfl ?_
  refine go_iload_n (j := 0) (n := 29) rfl rfl dX3_admit_28 rfl ?_
  cases E
  exact go_ireturn rfl dX3_admit_29
theorem OX3_admit {F : Nat} {l0 : Nat} {h hf : HP} {r : Int} (e : X3_admit F l0 h = some (r, hf)) : Ok MX3_admit [vr (some l0)] (some (vi r)) h hf := fun K _ _ _ => SX3_admit l0 h e
theorem yw_X8_readText : YW yX8_readText cX8_readText 8 (some (.object "TeaNight$Text")) 1 := ⟨bw_of 1069 (by decide +kernel) rfl, bw_of 118 (by decide +kernel) rfl, ⟨by decide +kernel, by decide +kernel, by decide +kernel⟩, by decide +kernel⟩
theorem wml_RX11_87 : Cond.methodLink RX11 87 yX8_readText ∈ BW := bw_of 1066 (by decide +kernel) rfl
theorem wim_X8_readText : Cond.instanceMethod yX8_readText ∈ BW := bw_of 1067 (by decide +kernel) rfl
theorem wse_X8_readText : Cond.selects RX8 yX8_readText yX8_readText ∈ BW := bw_of 1068 (by decide +kernel) rfl
theorem fl_RX11_91 : FL RX11 91 8 17 16 false := ⟨RX8, TX8, ci_8, by decide, bw_of 177 (by decide +kernel) rfl, rfl, rfl⟩
theorem yw_X2_setUp : YW yX2_setUp cX2_setUp 7 none 6 := ⟨bw_of 1289 (by decide +kernel) rfl, bw_of 123 (by decide +kernel) rfl, ⟨by decide +kernel, by decide +kernel, by decide +kernel⟩, by decide +kernel⟩
theorem wml_RX11_119 : Cond.methodLink RX11 119 yX2_setUp ∈ BW := bw_of 1286 (by decide +kernel) rfl
theorem wim_X2_setUp : Cond.instanceMethod yX2_setUp ∈ BW := bw_of 1287 (by decide +kernel) rfl
theorem wse_X2_setUp : Cond.selects RX2 yX2_setUp yX2_setUp ∈ BW := bw_of 1288 (by decide +kernel) rfl
theorem yw_X3_admit : YW yX3_admit cX3_admit 2 (some .int) 0 := ⟨bw_of 1293 (by decide +kernel) rfl, bw_of 122 (by decide +kernel) rfl, ⟨by decide +kernel, by decide +kernel, by decide +kernel⟩, by decide +kernel⟩
theorem wml_RX11_125 : Cond.methodLink RX11 125 yX3_admit ∈ BW := bw_of 1290 (by decide +kernel) rfl
theorem wim_X3_admit : Cond.instanceMethod yX3_admit ∈ BW := bw_of 1291 (by decide +kernel) rfl
theorem wse_X3_admit : Cond.selects RX3 yX3_admit yX3_admit ∈ BW := bw_of 1292 (by decide +kernel) rfl
theorem xt_RX11_110_114 : XT RX11 110 114 "java/lang/UnsupportedOperationException" := ⟨by decide +kernel, bw_of 1269 (by decide +kernel) rfl, bw_of 142 (by decide +kernel) rfl, by
  have q : ∀ w ∈ vx_atS RX11 114 "java/lang/UnsupportedOperationException" XN, (w ∈ lw_tbl ∧ goodWord w = true) ∨ w ∈ XWl := by decide +kernel
  exact fun w hw => (q w hw).imp (fun z => List.mem_filter.mpr z) id, by decide +kernel⟩
abbrev MX11_job : MI := (RX11, cX11_job, 9, (some .int), 13, some [], "job")
noncomputable def X11_job (F : Nat)   (l0 : Nat) (l1 : Int) (l2 : Int) (l3 : Int) (l4 : Int) (l5 : Int)  (h : HP) : Option ((String ⊕ Int) × HP) :=
  (xgP h (some l0) 11 6 0).bind fun v1 =>
  (xgI h v1 8 17 1).bind fun v2 =>
  (xgP h (some l0) 11 6 0).bind fun v3 =>
  (xpI h v3 8 17 1 0).bind fun h4 =>
  xth (X11_needNumber F l1 1 60 h4) fun v5 h6 =>
  xth (X11_needNumber F l2 0 1000 h6) fun v7 h8 =>
  xth (X11_needNumber F l3 0 480 h8) fun v9 h10 =>
  xth (X11_needNumber F l4 0 60 h10) fun v11 h12 =>
  (xgP h12 (some l0) 11 6 0).bind fun v13 =>
  (xrc h12 v13 8 17).bind fun a16 =>
  xb (X8_readText F a16 v2 h12) fun v14 h15 =>
  (xgP h15 (some l0) 11 6 0).bind fun v17 =>
  (xgI h15 v17 8 17 16).bind fun v18 =>
  (xpI h15 (some l0) 11 6 1 v18).bind fun h19 =>
  if v14 = none then
    some (.inl "java/lang/IllegalArgumentException", exc h19)
  else
    (xgP h19 (some l0) 11 6 2).bind fun v21 =>
    (xgP h19 v21 4 12 2).bind fun v22 =>
    (xgI h19 v22 3 7 5).bind fun v23 =>
    if v23 < 12 then
      (xgP h19 (some l0) 11 6 2).bind fun v25 =>
      (xgP h19 v25 4 12 2).bind fun v26 =>
      (xgP h19 (some l0) 11 6 2).bind fun v27 =>
      (xgP h19 v27 4 12 2).bind fun v28 =>
      (xgI h19 v28 3 7 5).bind fun v29 =>
      (xrc h19 v26 3 7).bind fun a32 =>
      xb (X3_at F a32 v29 h19) fun v30 h31 =>
      (xrc h31 v30 2 18).bind fun a35 =>
      xb (X2_setUp F a35 l1 l2 l3 l4 l5 v14 h31) fun v33 h34 =>
      (xgP h34 (some l0) 11 6 2).bind fun v36 =>
      (xgP h34 v36 4 12 2).bind fun v37 =>
      (xrc h34 v37 3 7).bind fun a40 =>
      xb (X3_admit F a40 h34) fun v38 h39 =>
      some (.inr v38, h39)
    else
      some (.inl "java/lang/UnsupportedOperationException", exc h19)
set_option maxRecDepth 100000 in
theorem SX11_job {K : Ctx} {F : Nat} {r : String ⊕ Int} {hf : HP}     (l0 : Nat) (l1 : Int) (l2 : Int) (l3 : Int) (l4 : Int) (l5 : Int)  (h : HP) (E : X11_job F   l0 l1 l2 l3 l4 l5 h = some (r, hf)) : Go K MX11_job (QMX K (rI r) hf) hf 0 [(0, vr (some l0)), (1, vi l1), (2, vi l2), (3, vi l3), (4, vi l4), (5, vi l5)] [] h := by
  unfold X11_job at E
  refine go_aload_n (j := 0) (n := 1) rfl rfl dX11_job_0 rfl ?_
  replace E := Option.bind_eq_some_iff.mp E; obtain ⟨v1, ev1, E⟩ := E
  refine go_getP (n := 4) ev1 fl_RX11_12 rfl dX11_job_1 rfl ?_
  replace E := Option.bind_eq_some_iff.mp E; obtain ⟨v2, ev2, E⟩ := E
  refine go_getI (n := 7) ev2 fl_RX11_37 rfl dX11_job_4 rfl ?_
  refine go_istore (n := 9) (lv' := [(6, vi v2), (0, vr (some l0)), (1, vi l1), (2, vi l2), (3, vi l3), (4, vi l4), (5, vi l5)]) dX11_job_7 rfl (Nat.le_of_ble_eq_true rfl) rfl ?_
  refine go_aload_n (j := 1) (n := 10) rfl rfl dX11_job_9 rfl ?_
  replace E := Option.bind_eq_some_iff.mp E; obtain ⟨v3, ev3, E⟩ := E
  refine go_getP (n := 13) ev3 fl_RX11_12 rfl dX11_job_10 rfl ?_
  refine go_iconst (z := 0) (n := 14) ⟨by decide, by decide⟩ dX11_job_13 rfl ?_
  replace E := Option.bind_eq_some_iff.mp E; obtain ⟨h4, eh4, E⟩ := E
  refine go_putI (n := 17) eh4 fl_RX11_37 rfl dX11_job_14 rfl ?_
  refine go_iload_n (j := 2) (n := 18) rfl rfl dX11_job_17 rfl ?_
  refine go_iconst (z := 1) (n := 19) ⟨by decide, by decide⟩ dX11_job_18 rfl ?_
  refine go_bipush (z := 60) (n := 21) ⟨by decide, by decide⟩ dX11_job_19 rfl ?_
  replace E := xth_some E; rcases E with ⟨x44, ev5, rfl⟩ | ⟨v5, h6, ev5, E⟩
  · exact go_callXSt (y := yX11_needNumber) (as := [vi l1, vi 1, vi 60]) (st := []) (OXX11_needNumber ev5) yw_X11_needNumber wml_RX11_44 wst_X11_needNumber (Nat.le_of_ble_eq_true rfl) rfl ⟨Nat.le_of_ble_eq_true rfl, Nat.le_of_ble_eq_true rfl⟩ (Nat.le_of_ble_eq_true rfl) dX11_job_21 rfl rfl
  refine go_callXSr (y := yX11_needNumber) (n := 24) (st := []) (as := [vi l1, vi 1, vi 60]) (stk9 := []) (OXX11_needNumber ev5) yw_X11_needNumber wml_RX11_44 wst_X11_needNumber (Nat.le_of_ble_eq_true rfl) rfl ⟨Nat.le_of_ble_eq_true rfl, Nat.le_of_ble_eq_true rfl⟩ (Nat.le_of_ble_eq_true rfl) dX11_job_21 rfl rfl rfl ?_
  refine go_iload_n (j := 3) (n := 25) rfl rfl dX11_job_24 rfl ?_
  refine go_iconst (z := 0) (n := 26) ⟨by decide, by decide⟩ dX11_job_25 rfl ?_
  refine go_sipush (z := 1000) (n := 29) ⟨by decide, by decide⟩ dX11_job_26 rfl ?_
  replace E := xth_some E; rcases E with ⟨x43, ev7, rfl⟩ | ⟨v7, h8, ev7, E⟩
  · exact go_callXSt (y := yX11_needNumber) (as := [vi l2, vi 0, vi 1000]) (st := []) (OXX11_needNumber ev7) yw_X11_needNumber wml_RX11_44 wst_X11_needNumber (Nat.le_of_ble_eq_true rfl) rfl ⟨Nat.le_of_ble_eq_true rfl, Nat.le_of_ble_eq_true rfl⟩ (Nat.le_of_ble_eq_true rfl) dX11_job_29 rfl rfl
  refine go_callXSr (y := yX11_needNumber) (n := 32) (st := []) (as := [vi l2, vi 0, vi 1000]) (stk9 := []) (OXX11_needNumber ev7) yw_X11_needNumber wml_RX11_44 wst_X11_needNumber (Nat.le_of_ble_eq_true rfl) rfl ⟨Nat.le_of_ble_eq_true rfl, Nat.le_of_ble_eq_true rfl⟩ (Nat.le_of_ble_eq_true rfl) dX11_job_29 rfl rfl rfl ?_
  refine go_iload_n (j := 4) (n := 33) rfl rfl dX11_job_32 rfl ?_
  refine go_iconst (z := 0) (n := 34) ⟨by decide, by decide⟩ dX11_job_33 rfl ?_
  refine go_sipush (z := 480) (n := 37) ⟨by decide, by decide⟩ dX11_job_34 rfl ?_
  replace E := xth_some E; rcases E with ⟨x42, ev9, rfl⟩ | ⟨v9, h10, ev9, E⟩
  · exact go_callXSt (y := yX11_needNumber) (as := [vi l3, vi 0, vi 480]) (st := []) (OXX11_needNumber ev9) yw_X11_needNumber wml_RX11_44 wst_X11_needNumber (Nat.le_of_ble_eq_true rfl) rfl ⟨Nat.le_of_ble_eq_true rfl, Nat.le_of_ble_eq_true rfl⟩ (Nat.le_of_ble_eq_true rfl) dX11_job_37 rfl rfl
  refine go_callXSr (y := yX11_needNumber) (n := 40) (st := []) (as := [vi l3, vi 0, vi 480]) (stk9 := []) (OXX11_needNumber ev9) yw_X11_needNumber wml_RX11_44 wst_X11_needNumber (Nat.le_of_ble_eq_true rfl) rfl ⟨Nat.le_of_ble_eq_true rfl, Nat.le_of_ble_eq_true rfl⟩ (Nat.le_of_ble_eq_true rfl) dX11_job_37 rfl rfl rfl ?_
  refine go_iload (j := 5) (n := 42) rfl dX11_job_40 rfl ?_
  refine go_iconst (z := 0) (n := 43) ⟨by decide, by decide⟩ dX11_job_42 rfl ?_
  refine go_bipush (z := 60) (n := 45) ⟨by decide, by decide⟩ dX11_job_43 rfl ?_
  replace E := xth_some E; rcases E with ⟨x41, ev11, rfl⟩ | ⟨v11, h12, ev11, E⟩
  · exact go_callXSt (y := yX11_needNumber) (as := [vi l4, vi 0, vi 60]) (st := []) (OXX11_needNumber ev11) yw_X11_needNumber wml_RX11_44 wst_X11_needNumber (Nat.le_of_ble_eq_true rfl) rfl ⟨Nat.le_of_ble_eq_true rfl, Nat.le_of_ble_eq_true rfl⟩ (Nat.le_of_ble_eq_true rfl) dX11_job_45 rfl rfl
  refine go_callXSr (y := yX11_needNumber) (n := 48) (st := []) (as := [vi l4, vi 0, vi 60]) (stk9 := []) (OXX11_needNumber ev11) yw_X11_needNumber wml_RX11_44 wst_X11_needNumber (Nat.le_of_ble_eq_true rfl) rfl ⟨Nat.le_of_ble_eq_true rfl, Nat.le_of_ble_eq_true rfl⟩ (Nat.le_of_ble_eq_true rfl) dX11_job_45 rfl rfl rfl ?_
  refine go_aload_n (j := 1) (n := 49) rfl rfl dX11_job_48 rfl ?_
  replace E := Option.bind_eq_some_iff.mp E; obtain ⟨v13, ev13, E⟩ := E
  refine go_getP (n := 52) ev13 fl_RX11_12 rfl dX11_job_49 rfl ?_
  refine go_iload (j := 0) (n := 54) rfl dX11_job_52 rfl ?_
  replace E := Option.bind_eq_some_iff.mp E; obtain ⟨a16, ea16, E⟩ := E
  obtain ⟨fa16, ga16⟩ := xrc_some ea16
  replace E := xb_some E; obtain ⟨v14, h15, ev14, E⟩ := E
  refine go_callV (y := yX8_readText) (n := 57) (st := []) (as := [vi v2]) (stk9 := [vr v14]) (OX8_readText ev14) yw_X8_readText ci_8 ga16 wml_RX11_87 wim_X8_readText wse_X8_readText (Nat.le_of_ble_eq_true rfl) rfl ⟨Nat.le_of_ble_eq_true rfl, Nat.le_of_ble_eq_true rfl⟩ (Nat.le_of_ble_eq_true rfl) dX11_job_54 rfl (by cases fa16; rfl) rfl ?_
  refine go_astore (n := 59) (lv' := [(7, vr v14), (6, vi v2), (0, vr (some l0)), (1, vi l1), (2, vi l2), (3, vi l3), (4, vi l4), (5, vi l5)]) dX11_job_57 rfl (Nat.le_of_ble_eq_true rfl) rfl ?_
  refine go_aload_n (j := 2) (n := 60) rfl rfl dX11_job_59 rfl ?_
  refine go_aload_n (j := 2) (n := 61) rfl rfl dX11_job_60 rfl ?_
  replace E := Option.bind_eq_some_iff.mp E; obtain ⟨v17, ev17, E⟩ := E
  refine go_getP (n := 64) ev17 fl_RX11_12 rfl dX11_job_61 rfl ?_
  replace E := Option.bind_eq_some_iff.mp E; obtain ⟨v18, ev18, E⟩ := E
  refine go_getI (n := 67) ev18 fl_RX11_91 rfl dX11_job_64 rfl ?_
  replace E := Option.bind_eq_some_iff.mp E; obtain ⟨h19, eh19, E⟩ := E
  refine go_putI (n := 70) eh19 fl_RX11_16 rfl dX11_job_67 rfl ?_
  refine go_aload (j := 0) (n := 72) rfl dX11_job_70 rfl ?_
  refine go_ifnonnull (tgt := 85) (n := 75) dX11_job_72 rfl rfl (fun c20 => ?_) (fun c20 => ?_)
  · rw [if_neg c20] at E
    refine go_aload_n (j := 2) (n := 86) rfl rfl dX11_job_85 rfl ?_
    replace E := Option.bind_eq_some_iff.mp E; obtain ⟨v21, ev21, E⟩ := E
    refine go_getP (n := 89) ev21 fl_RX11_23 rfl dX11_job_86 rfl ?_
    replace E := Option.bind_eq_some_iff.mp E; obtain ⟨v22, ev22, E⟩ := E
    refine go_getP (n := 92) ev22 fl_RX11_101 rfl dX11_job_89 rfl ?_
    replace E := Option.bind_eq_some_iff.mp E; obtain ⟨v23, ev23, E⟩ := E
    refine go_getI (n := 95) ev23 fl_RX11_105 rfl dX11_job_92 rfl ?_
    refine go_bipush (z := 12) (n := 97) ⟨by decide, by decide⟩ dX11_job_95 rfl ?_
    refine go_icmp_lt (tgt := 110) (n := 100) dX11_job_97 rfl rfl (fun c24 => ?_) (fun c24 => ?_)
    · rw [if_pos c24] at E
      refine go_aload_n (j := 2) (n := 111) rfl rfl dX11_job_110 rfl ?_
      replace E := Option.bind_eq_some_iff.mp E; obtain ⟨v25, ev25, E⟩ := E
      refine go_getP (n := 114) ev25 fl_RX11_23 rfl dX11_job_111 rfl ?_
      replace E := Option.bind_eq_some_iff.mp E; obtain ⟨v26, ev26, E⟩ := E
      refine go_getP (n := 117) ev26 fl_RX11_101 rfl dX11_job_114 rfl ?_
      refine go_aload_n (j := 2) (n := 118) rfl rfl dX11_job_117 rfl ?_
      replace E := Option.bind_eq_some_iff.mp E; obtain ⟨v27, ev27, E⟩ := E
      refine go_getP (n := 121) ev27 fl_RX11_23 rfl dX11_job_118 rfl ?_
      replace E := Option.bind_eq_some_iff.mp E; obtain ⟨v28, ev28, E⟩ := E
      refine go_getP (n := 124) ev28 fl_RX11_101 rfl dX11_job_121 rfl ?_
      replace E := Option.bind_eq_some_iff.mp E; obtain ⟨v29, ev29, E⟩ := E
      refine go_getI (n := 127) ev29 fl_RX11_105 rfl dX11_job_124 rfl ?_
      replace E := Option.bind_eq_some_iff.mp E; obtain ⟨a32, ea32, E⟩ := E
      obtain ⟨fa32, ga32⟩ := xrc_some ea32
      replace E := xb_some E; obtain ⟨v30, h31, ev30, E⟩ := E
      refine go_callV (y := yX3_at) (n := 130) (st := []) (as := [vi v29]) (stk9 := [vr v30]) (OX3_at ev30) yw_X3_at ci_3 ga32 wml_RX11_115 wim_X3_at wse_X3_at (Nat.le_of_ble_eq_true rfl) rfl ⟨Nat.le_of_ble_eq_true rfl, Nat.le_of_ble_eq_true rfl⟩ (Nat.le_of_ble_eq_true rfl) dX11_job_127 rfl (by cases fa32; rfl) rfl ?_
      refine go_astore (n := 132) (lv' := [(8, vr v30), (7, vr v14), (6, vi v2), (0, vr (some l0)), (1, vi l1), (2, vi l2), (3, vi l3), (4, vi l4), (5, vi l5)]) dX11_job_130 rfl (Nat.le_of_ble_eq_true rfl) rfl ?_
      refine go_aload (j := 0) (n := 134) rfl dX11_job_132 rfl ?_
      refine go_iload_n (j := 4) (n := 135) rfl rfl dX11_job_134 rfl ?_
      refine go_iload_n (j := 5) (n := 136) rfl rfl dX11_job_135 rfl ?_
      refine go_iload_n (j := 6) (n := 137) rfl rfl dX11_job_136 rfl ?_
      refine go_iload (j := 7) (n := 139) rfl dX11_job_137 rfl ?_
      refine go_iload (j := 8) (n := 141) rfl dX11_job_139 rfl ?_
      refine go_aload (j := 1) (n := 143) rfl dX11_job_141 rfl ?_
      replace E := Option.bind_eq_some_iff.mp E; obtain ⟨a35, ea35, E⟩ := E
      obtain ⟨fa35, ga35⟩ := xrc_some ea35
      replace E := xb_some E; obtain ⟨v33, h34, ev33, E⟩ := E
      refine go_callV (y := yX2_setUp) (n := 146) (st := []) (as := [vi l1, vi l2, vi l3, vi l4, vi l5, vr v14]) (stk9 := []) (OX2_setUp ev33) yw_X2_setUp ci_2 ga35 wml_RX11_119 wim_X2_setUp wse_X2_setUp (Nat.le_of_ble_eq_true rfl) rfl ⟨Nat.le_of_ble_eq_true rfl, Nat.le_of_ble_eq_true rfl⟩ (Nat.le_of_ble_eq_true rfl) dX11_job_143 rfl (by cases fa35; rfl) rfl ?_
      refine go_aload_n (j := 3) (n := 147) rfl rfl dX11_job_146 rfl ?_
      replace E := Option.bind_eq_some_iff.mp E; obtain ⟨v36, ev36, E⟩ := E
      refine go_getP (n := 150) ev36 fl_RX11_23 rfl dX11_job_147 rfl ?_
      replace E := Option.bind_eq_some_iff.mp E; obtain ⟨v37, ev37, E⟩ := E
      refine go_getP (n := 153) ev37 fl_RX11_101 rfl dX11_job_150 rfl ?_
      replace E := Option.bind_eq_some_iff.mp E; obtain ⟨a40, ea40, E⟩ := E
      obtain ⟨fa40, ga40⟩ := xrc_some ea40
      replace E := xb_some E; obtain ⟨v38, h39, ev38, E⟩ := E
      refine go_callV (y := yX3_admit) (n := 156) (st := []) (as := []) (stk9 := [vi v38]) (OX3_admit ev38) yw_X3_admit ci_3 ga40 wml_RX11_125 wim_X3_admit wse_X3_admit (Nat.le_of_ble_eq_true rfl) rfl ⟨Nat.le_of_ble_eq_true rfl, Nat.le_of_ble_eq_true rfl⟩ (Nat.le_of_ble_eq_true rfl) dX11_job_153 rfl (by cases fa40; rfl) rfl ?_
      cases E
      exact go_ret (go_ireturn rfl dX11_job_156)
    · rw [if_neg c24] at E
      cases E
      exact go_throw (j := 21) xt_RX11_110_114 rfl rfl rfl (Nat.le_of_ble_eq_true rfl) dX11_job_100 dX11_job_103 dX11_job_104 dX11_job_106 dX11_job_109 (Nat.le_of_ble_eq_true rfl)
  · rw [if_pos c20] at E
    cases E
    exact go_throw (j := 20) xt_RX11_94_98 rfl rfl rfl (Nat.le_of_ble_eq_true rfl) dX11_job_75 dX11_job_78 dX11_job_79 dX11_job_81 dX11_job_84 (Nat.le_of_ble_eq_true rfl)
theorem OXX11_job {F : Nat} {l0 : Nat} {l1 : Int} {l2 : Int} {l3 : Int} {l4 : Int} {l5 : Int} {h hf : HP} {r : String ⊕ Int} (e : X11_job F l0 l1 l2 l3 l4 l5 h = some (r, hf)) : OkX MX11_job [vr (some l0), vi l1, vi l2, vi l3, vi l4, vi l5] (rI r) h hf := fun K _ _ _ => SX11_job l0 l1 l2 l3 l4 l5 h e
abbrev MX7_failLamp : MI := (RX7, cX7_failLamp, 4, (some .boolean), 2, none, "failLamp")
noncomputable def X7_failLamp (F : Nat)   (l0 : Nat) (l1 : Int) (l2 : Int) (l3 : Int)  (h : HP) : Option (Int × HP) :=
  if l1 < 0 then
    some (0, h)
  else
    if 16 ≤ l1 then
      some (0, h)
    else
      (xgP h (some l0) 7 10 3).bind fun v3 =>
      (xaI h v3 100 l1).bind fun v4 =>
      if v4 = 0 then
        (xgP h (some l0) 7 10 2).bind fun v6 =>
        (xsI h v6 l1 l2).bind fun h7 =>
        (xgP h7 (some l0) 7 10 3).bind fun v8 =>
        (xsI h7 v8 l1 l3).bind fun h9 =>
        some (1, h9)
      else
        some (0, h)
set_option maxRecDepth 100000 in
theorem SX7_failLamp {K : Ctx} {F : Nat} {r : Int} {hf : HP}     (l0 : Nat) (l1 : Int) (l2 : Int) (l3 : Int)  (h : HP) (E : X7_failLamp F   l0 l1 l2 l3 h = some (r, hf)) : Go K MX7_failLamp (QM K (some (vi r)) hf) hf 0 [(0, vr (some l0)), (1, vi l1), (2, vi l2), (3, vi l3)] [] h := by
  unfold X7_failLamp at E
  refine go_iload_n (j := 1) (n := 1) rfl rfl dX7_failLamp_0 rfl ?_
  refine go_if_lt (tgt := 19) (n := 4) dX7_failLamp_1 rfl rfl (fun c1 => ?_) (fun c1 => ?_)
  · rw [if_pos c1] at E
    refine go_iconst (z := 0) (n := 20) ⟨by decide, by decide⟩ dX7_failLamp_19 rfl ?_
    cases E
    exact go_zreturn rfl (Or.inl rfl) dX7_failLamp_20
  · rw [if_neg c1] at E
    refine go_iload_n (j := 1) (n := 5) rfl rfl dX7_failLamp_4 rfl ?_
    refine go_bipush (z := 16) (n := 7) ⟨by decide, by decide⟩ dX7_failLamp_5 rfl ?_
    refine go_icmp_ge (tgt := 19) (n := 10) dX7_failLamp_7 rfl rfl (fun c2 => ?_) (fun c2 => ?_)
    · rw [if_pos c2] at E
      refine go_iconst (z := 0) (n := 20) ⟨by decide, by decide⟩ dX7_failLamp_19 rfl ?_
      cases E
      exact go_zreturn rfl (Or.inl rfl) dX7_failLamp_20
    · rw [if_neg c2] at E
      refine go_aload_n (j := 0) (n := 11) rfl rfl dX7_failLamp_10 rfl ?_
      replace E := Option.bind_eq_some_iff.mp E; obtain ⟨v3, ev3, E⟩ := E
      refine go_getP (n := 14) ev3 fl_RX7_21 rfl dX7_failLamp_11 rfl ?_
      refine go_iload_n (j := 1) (n := 15) rfl rfl dX7_failLamp_14 rfl ?_
      replace E := Option.bind_eq_some_iff.mp E; obtain ⟨v4, ev4, E⟩ := E
      refine go_iaload (n := 16) ev4 dX7_failLamp_15 rfl ?_
      refine go_if_eq (tgt := 21) (n := 19) dX7_failLamp_16 rfl rfl (fun c5 => ?_) (fun c5 => ?_)
      · rw [if_pos c5] at E
        refine go_aload_n (j := 0) (n := 22) rfl rfl dX7_failLamp_21 rfl ?_
        replace E := Option.bind_eq_some_iff.mp E; obtain ⟨v6, ev6, E⟩ := E
        refine go_getP (n := 25) ev6 fl_RX7_18 rfl dX7_failLamp_22 rfl ?_
        refine go_iload_n (j := 1) (n := 26) rfl rfl dX7_failLamp_25 rfl ?_
        refine go_iload_n (j := 2) (n := 27) rfl rfl dX7_failLamp_26 rfl ?_
        replace E := Option.bind_eq_some_iff.mp E; obtain ⟨h7, eh7, E⟩ := E
        refine go_iastore (n := 28) eh7 dX7_failLamp_27 rfl ?_
        refine go_aload_n (j := 0) (n := 29) rfl rfl dX7_failLamp_28 rfl ?_
        replace E := Option.bind_eq_some_iff.mp E; obtain ⟨v8, ev8, E⟩ := E
        refine go_getP (n := 32) ev8 fl_RX7_21 rfl dX7_failLamp_29 rfl ?_
        refine go_iload_n (j := 1) (n := 33) rfl rfl dX7_failLamp_32 rfl ?_
        refine go_iload_n (j := 3) (n := 34) rfl rfl dX7_failLamp_33 rfl ?_
        replace E := Option.bind_eq_some_iff.mp E; obtain ⟨h9, eh9, E⟩ := E
        refine go_iastore (n := 35) eh9 dX7_failLamp_34 rfl ?_
        refine go_iconst (z := 1) (n := 36) ⟨by decide, by decide⟩ dX7_failLamp_35 rfl ?_
        cases E
        exact go_zreturn rfl (Or.inr rfl) dX7_failLamp_36
      · rw [if_neg c5] at E
        refine go_iconst (z := 0) (n := 20) ⟨by decide, by decide⟩ dX7_failLamp_19 rfl ?_
        cases E
        exact go_zreturn rfl (Or.inl rfl) dX7_failLamp_20
theorem OX7_failLamp {F : Nat} {l0 : Nat} {l1 : Int} {l2 : Int} {l3 : Int} {h hf : HP} {r : Int} (e : X7_failLamp F l0 l1 l2 l3 h = some (r, hf)) : Ok MX7_failLamp [vr (some l0), vi l1, vi l2, vi l3] (some (vi r)) h hf := fun K _ _ _ => SX7_failLamp l0 l1 l2 l3 h e
theorem yw_X7_failLamp : YW yX7_failLamp cX7_failLamp 4 (some .boolean) 3 := ⟨bw_of 1539 (by decide +kernel) rfl, bw_of 121 (by decide +kernel) rfl, ⟨by decide +kernel, by decide +kernel, by decide +kernel⟩, by decide +kernel⟩
theorem wml_RX11_195 : Cond.methodLink RX11 195 yX7_failLamp ∈ BW := bw_of 1536 (by decide +kernel) rfl
theorem wim_X7_failLamp : Cond.instanceMethod yX7_failLamp ∈ BW := bw_of 1537 (by decide +kernel) rfl
theorem wse_X7_failLamp : Cond.selects RX7 yX7_failLamp yX7_failLamp ∈ BW := bw_of 1538 (by decide +kernel) rfl
abbrev MX11_lamp : MI := (RX11, cX11_lamp, 4, (some .boolean), 13, some [], "lamp")
noncomputable def X11_lamp (F : Nat)   (l0 : Nat) (l1 : Int) (l2 : Int) (l3 : Int)  (h : HP) : Option ((String ⊕ Int) × HP) :=
  xth (X11_needPlace F l1 16 h) fun v1 h2 =>
  (xgP h2 (some l0) 11 6 2).bind fun v3 =>
  (xgI h2 v3 4 12 6).bind fun v4 =>
  xth (X11_needNumber F l2 v4 480 h2) fun v5 h6 =>
  if l3 = 0 then
    some (.inl "java/lang/IllegalArgumentException", exc h6)
  else
    (xgP h6 (some l0) 11 6 2).bind fun v8 =>
    (xgP h6 v8 4 12 1).bind fun v9 =>
    (xrc h6 v9 7 10).bind fun a12 =>
    xb (X7_failLamp F a12 l1 l2 l3 h6) fun v10 h11 =>
    xzX v10 h11
set_option maxRecDepth 100000 in
theorem SX11_lamp {K : Ctx} {F : Nat} {r : String ⊕ Int} {hf : HP}     (l0 : Nat) (l1 : Int) (l2 : Int) (l3 : Int)  (h : HP) (E : X11_lamp F   l0 l1 l2 l3 h = some (r, hf)) : Go K MX11_lamp (QMX K (rI r) hf) hf 0 [(0, vr (some l0)), (1, vi l1), (2, vi l2), (3, vi l3)] [] h := by
  unfold X11_lamp at E
  refine go_iload_n (j := 1) (n := 1) rfl rfl dX11_lamp_0 rfl ?_
  refine go_bipush (z := 16) (n := 3) ⟨by decide, by decide⟩ dX11_lamp_1 rfl ?_
  replace E := xth_some E; rcases E with ⟨x15, ev1, rfl⟩ | ⟨v1, h2, ev1, E⟩
  · exact go_callXSt (y := yX11_needPlace) (as := [vi l1, vi 16]) (st := []) (OXX11_needPlace ev1) yw_X11_needPlace wml_RX11_54 wst_X11_needPlace (Nat.le_of_ble_eq_true rfl) rfl ⟨Nat.le_of_ble_eq_true rfl, Nat.le_of_ble_eq_true rfl⟩ (Nat.le_of_ble_eq_true rfl) dX11_lamp_3 rfl rfl
  refine go_callXSr (y := yX11_needPlace) (n := 6) (st := []) (as := [vi l1, vi 16]) (stk9 := []) (OXX11_needPlace ev1) yw_X11_needPlace wml_RX11_54 wst_X11_needPlace (Nat.le_of_ble_eq_true rfl) rfl ⟨Nat.le_of_ble_eq_true rfl, Nat.le_of_ble_eq_true rfl⟩ (Nat.le_of_ble_eq_true rfl) dX11_lamp_3 rfl rfl rfl ?_
  refine go_iload_n (j := 2) (n := 7) rfl rfl dX11_lamp_6 rfl ?_
  refine go_aload_n (j := 0) (n := 8) rfl rfl dX11_lamp_7 rfl ?_
  replace E := Option.bind_eq_some_iff.mp E; obtain ⟨v3, ev3, E⟩ := E
  refine go_getP (n := 11) ev3 fl_RX11_23 rfl dX11_lamp_8 rfl ?_
  replace E := Option.bind_eq_some_iff.mp E; obtain ⟨v4, ev4, E⟩ := E
  refine go_getI (n := 14) ev4 fl_RX11_178 rfl dX11_lamp_11 rfl ?_
  refine go_sipush (z := 480) (n := 17) ⟨by decide, by decide⟩ dX11_lamp_14 rfl ?_
  replace E := xth_some E; rcases E with ⟨x14, ev5, rfl⟩ | ⟨v5, h6, ev5, E⟩
  · exact go_callXSt (y := yX11_needNumber) (as := [vi l2, vi v4, vi 480]) (st := []) (OXX11_needNumber ev5) yw_X11_needNumber wml_RX11_44 wst_X11_needNumber (Nat.le_of_ble_eq_true rfl) rfl ⟨Nat.le_of_ble_eq_true rfl, Nat.le_of_ble_eq_true rfl⟩ (Nat.le_of_ble_eq_true rfl) dX11_lamp_17 rfl rfl
  refine go_callXSr (y := yX11_needNumber) (n := 20) (st := []) (as := [vi l2, vi v4, vi 480]) (stk9 := []) (OXX11_needNumber ev5) yw_X11_needNumber wml_RX11_44 wst_X11_needNumber (Nat.le_of_ble_eq_true rfl) rfl ⟨Nat.le_of_ble_eq_true rfl, Nat.le_of_ble_eq_true rfl⟩ (Nat.le_of_ble_eq_true rfl) dX11_lamp_17 rfl rfl rfl ?_
  refine go_iload_n (j := 3) (n := 21) rfl rfl dX11_lamp_20 rfl ?_
  refine go_if_ne (tgt := 34) (n := 24) dX11_lamp_21 rfl rfl (fun c7 => ?_) (fun c7 => ?_)
  · rw [if_neg c7] at E
    refine go_aload_n (j := 0) (n := 35) rfl rfl dX11_lamp_34 rfl ?_
    replace E := Option.bind_eq_some_iff.mp E; obtain ⟨v8, ev8, E⟩ := E
    refine go_getP (n := 38) ev8 fl_RX11_23 rfl dX11_lamp_35 rfl ?_
    replace E := Option.bind_eq_some_iff.mp E; obtain ⟨v9, ev9, E⟩ := E
    refine go_getP (n := 41) ev9 fl_RX11_60 rfl dX11_lamp_38 rfl ?_
    refine go_iload_n (j := 1) (n := 42) rfl rfl dX11_lamp_41 rfl ?_
    refine go_iload_n (j := 2) (n := 43) rfl rfl dX11_lamp_42 rfl ?_
    refine go_iload_n (j := 3) (n := 44) rfl rfl dX11_lamp_43 rfl ?_
    replace E := Option.bind_eq_some_iff.mp E; obtain ⟨a12, ea12, E⟩ := E
    obtain ⟨fa12, ga12⟩ := xrc_some ea12
    replace E := xb_some E; obtain ⟨v10, h11, ev10, E⟩ := E
    refine go_callV (y := yX7_failLamp) (n := 47) (st := []) (as := [vi l1, vi l2, vi l3]) (stk9 := [vi v10]) (OX7_failLamp ev10) yw_X7_failLamp ci_7 ga12 wml_RX11_195 wim_X7_failLamp wse_X7_failLamp (Nat.le_of_ble_eq_true rfl) rfl ⟨Nat.le_of_ble_eq_true rfl, Nat.le_of_ble_eq_true rfl⟩ (Nat.le_of_ble_eq_true rfl) dX11_lamp_44 rfl (by cases fa12; rfl) rfl ?_
    unfold xzX at E
    split at E
    · next c13 =>
      cases E
      exact go_ret (go_zreturn rfl c13 dX11_lamp_47)
    · cases E
  · rw [if_pos c7] at E
    cases E
    exact go_throw (j := 24) xt_RX11_94_98 rfl rfl rfl (Nat.le_of_ble_eq_true rfl) dX11_lamp_24 dX11_lamp_27 dX11_lamp_28 dX11_lamp_30 dX11_lamp_33 (Nat.le_of_ble_eq_true rfl)
theorem OXX11_lamp {F : Nat} {l0 : Nat} {l1 : Int} {l2 : Int} {l3 : Int} {h hf : HP} {r : String ⊕ Int} (e : X11_lamp F l0 l1 l2 l3 h = some (r, hf)) : OkX MX11_lamp [vr (some l0), vi l1, vi l2, vi l3] (rI r) h hf := fun K _ _ _ => SX11_lamp l0 l1 l2 l3 h e
theorem wml_RX11_145 : Cond.methodLink RX11 145 yX3_leansOf ∈ BW := bw_of 1330 (by decide +kernel) rfl
abbrev MX11_leans : MI := (RX11, cX11_leans, 2, (some .int), 13, some [], "leans")
noncomputable def X11_leans (F : Nat)   (l0 : Nat) (l1 : Int)  (h : HP) : Option ((String ⊕ Int) × HP) :=
  (xgP h (some l0) 11 6 2).bind fun v1 =>
  (xgP h v1 4 12 2).bind fun v2 =>
  (xgI h v2 3 7 5).bind fun v3 =>
  xth (X11_needPlace F l1 v3 h) fun v4 h5 =>
  (xgP h5 (some l0) 11 6 2).bind fun v6 =>
  (xgP h5 v6 4 12 2).bind fun v7 =>
  (xrc h5 v7 3 7).bind fun a10 =>
  xb (X3_leansOf F a10 l1 h5) fun v8 h9 =>
  some (.inr v8, h9)
set_option maxRecDepth 100000 in
theorem SX11_leans {K : Ctx} {F : Nat} {r : String ⊕ Int} {hf : HP}     (l0 : Nat) (l1 : Int)  (h : HP) (E : X11_leans F   l0 l1 h = some (r, hf)) : Go K MX11_leans (QMX K (rI r) hf) hf 0 [(0, vr (some l0)), (1, vi l1)] [] h := by
  unfold X11_leans at E
  refine go_iload_n (j := 1) (n := 1) rfl rfl dX11_leans_0 rfl ?_
  refine go_aload_n (j := 0) (n := 2) rfl rfl dX11_leans_1 rfl ?_
  replace E := Option.bind_eq_some_iff.mp E; obtain ⟨v1, ev1, E⟩ := E
  refine go_getP (n := 5) ev1 fl_RX11_23 rfl dX11_leans_2 rfl ?_
  replace E := Option.bind_eq_some_iff.mp E; obtain ⟨v2, ev2, E⟩ := E
  refine go_getP (n := 8) ev2 fl_RX11_101 rfl dX11_leans_5 rfl ?_
  replace E := Option.bind_eq_some_iff.mp E; obtain ⟨v3, ev3, E⟩ := E
  refine go_getI (n := 11) ev3 fl_RX11_105 rfl dX11_leans_8 rfl ?_
  replace E := xth_some E; rcases E with ⟨x11, ev4, rfl⟩ | ⟨v4, h5, ev4, E⟩
  · exact go_callXSt (y := yX11_needPlace) (as := [vi l1, vi v3]) (st := []) (OXX11_needPlace ev4) yw_X11_needPlace wml_RX11_54 wst_X11_needPlace (Nat.le_of_ble_eq_true rfl) rfl ⟨Nat.le_of_ble_eq_true rfl, Nat.le_of_ble_eq_true rfl⟩ (Nat.le_of_ble_eq_true rfl) dX11_leans_11 rfl rfl
  refine go_callXSr (y := yX11_needPlace) (n := 14) (st := []) (as := [vi l1, vi v3]) (stk9 := []) (OXX11_needPlace ev4) yw_X11_needPlace wml_RX11_54 wst_X11_needPlace (Nat.le_of_ble_eq_true rfl) rfl ⟨Nat.le_of_ble_eq_true rfl, Nat.le_of_ble_eq_true rfl⟩ (Nat.le_of_ble_eq_true rfl) dX11_leans_11 rfl rfl rfl ?_
  refine go_aload_n (j := 0) (n := 15) rfl rfl dX11_leans_14 rfl ?_
  replace E := Option.bind_eq_some_iff.mp E; obtain ⟨v6, ev6, E⟩ := E
  refine go_getP (n := 18) ev6 fl_RX11_23 rfl dX11_leans_15 rfl ?_
  replace E := Option.bind_eq_some_iff.mp E; obtain ⟨v7, ev7, E⟩ := E
  refine go_getP (n := 21) ev7 fl_RX11_101 rfl dX11_leans_18 rfl ?_
  refine go_iload_n (j := 1) (n := 22) rfl rfl dX11_leans_21 rfl ?_
  replace E := Option.bind_eq_some_iff.mp E; obtain ⟨a10, ea10, E⟩ := E
  obtain ⟨fa10, ga10⟩ := xrc_some ea10
  replace E := xb_some E; obtain ⟨v8, h9, ev8, E⟩ := E
  refine go_callV (y := yX3_leansOf) (n := 25) (st := []) (as := [vi l1]) (stk9 := [vi v8]) (OX3_leansOf ev8) yw_X3_leansOf ci_3 ga10 wml_RX11_145 wim_X3_leansOf wse_X3_leansOf (Nat.le_of_ble_eq_true rfl) rfl ⟨Nat.le_of_ble_eq_true rfl, Nat.le_of_ble_eq_true rfl⟩ (Nat.le_of_ble_eq_true rfl) dX11_leans_22 rfl (by cases fa10; rfl) rfl ?_
  cases E
  exact go_ret (go_ireturn rfl dX11_leans_25)
theorem OXX11_leans {F : Nat} {l0 : Nat} {l1 : Int} {h hf : HP} {r : String ⊕ Int} (e : X11_leans F l0 l1 h = some (r, hf)) : OkX MX11_leans [vr (some l0), vi l1] (rI r) h hf := fun K _ _ _ => SX11_leans l0 l1 h e
