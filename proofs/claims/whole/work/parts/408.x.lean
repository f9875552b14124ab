/-! the methods, decompiled: written by dec.py -/
theorem yw_X2_hasWay : YW yX2_hasWay cX2_hasWay 2 (some .boolean) 1 := ⟨bw_of 1341 (by decide +kernel) rfl, bw_of 123 (by decide +kernel) rfl, ⟨by decide +kernel, by decide +kernel, by decide +kernel⟩, by decide +kernel⟩
theorem wml_RX6_82 : Cond.methodLink RX6 82 yX2_hasWay ∈ BW := bw_of 1697 (by decide +kernel) rfl
theorem wim_X2_hasWay : Cond.instanceMethod yX2_hasWay ∈ BW := bw_of 1339 (by decide +kernel) rfl
theorem wse_X2_hasWay : Cond.selects RX2 yX2_hasWay yX2_hasWay ∈ BW := bw_of 1340 (by decide +kernel) rfl
theorem fl_RX6_86 : FL RX6 86 2 18 1 false := ⟨RX2, TX2, ci_2, by decide, bw_of 309 (by decide +kernel) rfl, rfl, rfl⟩
theorem fl_RX6_89 : FL RX6 89 2 18 7 false := ⟨RX2, TX2, ci_2, by decide, bw_of 323 (by decide +kernel) rfl, rfl, rfl⟩
theorem wml_RX6_92 : Cond.methodLink RX6 92 Lib.Math.max.name ∈ BW := bw_of 1698 (by decide +kernel) rfl
abbrev MX6_mostOf : MI := (RX6, cX6_mostOf, 1, (some .int), 3, none, "mostOf")
noncomputable def X6_mostOf (F : Nat)   (l0 : Option Nat)  (h : HP) : Option (Int × HP) :=
  (xrc h l0 2 18).bind fun a3 =>
  xb (X2_hasWay F a3 1 h) fun v1 h2 =>
  if v1 = 0 then
    (xgI h2 l0 2 18 1).bind fun v5 =>
    some (v5, h2)
  else
    (xgI h2 l0 2 18 1).bind fun v6 =>
    (xgI h2 l0 2 18 7).bind fun v7 =>
    some (max v6 v7, h2)
set_option maxRecDepth 100000 in
theorem SX6_mostOf {K : Ctx} {F : Nat} {r : Int} {hf : HP}     (l0 : Option Nat)  (h : HP) (E : X6_mostOf F   l0 h = some (r, hf)) : Go K MX6_mostOf (QM K (some (vi r)) hf) hf 0 [(0, vr l0)] [] h := by
  unfold X6_mostOf at E
  refine go_aload_n (j := 0) (n := 1) rfl rfl dX6_mostOf_0 rfl ?_
  refine go_iconst (z := 1) (n := 2) ⟨by decide, by decide⟩ dX6_mostOf_1 rfl ?_
  replace E := Option.bind_eq_some_iff.mp E; obtain ⟨a3, ea3, E⟩ := E
  obtain ⟨fa3, ga3⟩ := xrc_some ea3
  replace E := xb_some E; obtain ⟨v1, h2, ev1, E⟩ := E
  refine go_callV (y := yX2_hasWay) (n := 5) (st := []) (as := [vi 1]) (stk9 := [vi v1]) (OX2_hasWay ev1) yw_X2_hasWay ci_2 ga3 wml_RX6_82 wim_X2_hasWay wse_X2_hasWay (Nat.le_of_ble_eq_true rfl) rfl ⟨Nat.le_of_ble_eq_true rfl, Nat.le_of_ble_eq_true rfl⟩ (Nat.le_of_ble_eq_true rfl) dX6_mostOf_2 rfl (by cases fa3; rfl) rfl ?_
  refine go_if_eq (tgt := 22) (n := 8) dX6_mostOf_5 rfl rfl (fun c4 => ?_) (fun c4 => ?_)
  · rw [if_pos c4] at E
    refine go_aload_n (j := 0) (n := 23) rfl rfl dX6_mostOf_22 rfl ?_
    replace E := Option.bind_eq_some_iff.mp E; obtain ⟨v5, ev5, E⟩ := E
    refine go_getI (n := 26) ev5 fl_RX6_86 rfl dX6_mostOf_23 rfl ?_
    cases E
    exact go_ireturn rfl dX6_mostOf_26
  · rw [if_neg c4] at E
    refine go_aload_n (j := 0) (n := 9) rfl rfl dX6_mostOf_8 rfl ?_
    replace E := Option.bind_eq_some_iff.mp E; obtain ⟨v6, ev6, E⟩ := E
    refine go_getI (n := 12) ev6 fl_RX6_86 rfl dX6_mostOf_9 rfl ?_
    refine go_aload_n (j := 0) (n := 13) rfl rfl dX6_mostOf_12 rfl ?_
    replace E := Option.bind_eq_some_iff.mp E; obtain ⟨v7, ev7, E⟩ := E
    refine go_getI (n := 16) ev7 fl_RX6_89 rfl dX6_mostOf_13 rfl ?_
    refine go_mmax (n := 19) wml_RX6_92 jm_max_i (Nat.le_of_ble_eq_true rfl) (Nat.le_of_ble_eq_true rfl) dX6_mostOf_16 rfl ?_
    refine go_goto (tgt := 26) dX6_mostOf_19 rfl ?_
    cases E
    exact go_ireturn rfl dX6_mostOf_26
theorem OX6_mostOf {F : Nat} {l0 : Option Nat} {h hf : HP} {r : Int} (e : X6_mostOf F l0 h = some (r, hf)) : Ok MX6_mostOf [vr l0] (some (vi r)) h hf := fun K _ _ _ => SX6_mostOf l0 h e
theorem fl_RX6_63 : FL RX6 63 6 15 9 false := ⟨RX6, TX6, ci_6, by decide, bw_of 579 (by decide +kernel) rfl, rfl, rfl⟩
theorem fl_RX6_66 : FL RX6 66 3 7 5 false := ⟨RX3, TX3, ci_3, by decide, bw_of 392 (by decide +kernel) rfl, rfl, rfl⟩
theorem fl_RX6_36 : FL RX6 36 6 15 8 true := ⟨RX6, TX6, ci_6, by decide, bw_of 578 (by decide +kernel) rfl, rfl, rfl⟩
theorem fl_RX6_9 : FL RX6 9 6 15 0 true := ⟨RX6, TX6, ci_6, by decide, bw_of 570 (by decide +kernel) rfl, rfl, rfl⟩
theorem wml_RX6_69 : Cond.methodLink RX6 69 yX3_at ∈ BW := bw_of 1693 (by decide +kernel) rfl
theorem yw_X6_mostOf : YW yX6_mostOf cX6_mostOf 1 (some .int) 1 := ⟨bw_of 1696 (by decide +kernel) rfl, bw_of 128 (by decide +kernel) rfl, ⟨by decide +kernel, by decide +kernel, by decide +kernel⟩, by decide +kernel⟩
theorem wml_RX6_78 : Cond.methodLink RX6 78 yX6_mostOf ∈ BW := bw_of 1694 (by decide +kernel) rfl
theorem wst_X6_mostOf : Cond.static yX6_mostOf ∈ BW := bw_of 1695 (by decide +kernel) rfl
theorem fl_RX6_73 : FL RX6 73 2 18 9 false := ⟨RX2, TX2, ci_2, by decide, bw_of 329 (by decide +kernel) rfl, rfl, rfl⟩
abbrev MX6_pick : MI := (RX6, cX6_pick, 3, none, 4, none, "pick")
noncomputable def X6_pick_L122 (F : Nat)  (rc79 : Nat → Option Nat → Int → HP → Option (Unit × HP)) (l0 : Nat) (l1 : Option Nat) (l2 : Int) (s0 : Int) (s1 : Int) (s2 : Option Nat) (h : HP) : Option (Unit × HP) :=
  (xsI h s2 s1 s0).bind fun h1 =>
  rc79 l0 l1 (w32 (l2 + (-1))) h1
set_option maxRecDepth 100000 in
theorem SX6_pick_L122 {K : Ctx} {F : Nat} {r : Unit} {hf : HP}   (rc79 : Nat → Option Nat → Int → HP → Option (Unit × HP)) (hrc79 : ∀ l0 l1 l2 h, rc79 l0 l1 l2 h = some (r, hf) → Go K MX6_pick (QM K none hf) hf 79 [(0, vr (some l0)), (1, vr l1), (2, vi l2)] [] h) (l0 : Nat) (l1 : Option Nat) (l2 : Int) (s0 : Int) (s1 : Int) (s2 : Option Nat) (h : HP) (E : X6_pick_L122 F  rc79 l0 l1 l2 s0 s1 s2 h = some (r, hf)) : Go K MX6_pick (QM K none hf) hf 122 [(0, vr (some l0)), (1, vr l1), (2, vi l2)] [vi s0, vi s1, vr s2] h := by
  unfold X6_pick_L122 at E
  replace E := Option.bind_eq_some_iff.mp E; obtain ⟨h1, eh1, E⟩ := E
  refine go_iastore (n := 123) eh1 dX6_pick_122 rfl ?_
  refine go_iinc (j := 2) (n := 126) (lv' := [(2, vi (w32 (l2 + (-1)))), (0, vr (some l0)), (1, vr l1)]) rfl dX6_pick_123 rfl (Nat.le_of_ble_eq_true rfl) rfl ?_
  refine go_goto (tgt := 79) dX6_pick_126 rfl ?_
  refine go_pick (lv' := [(0, vr (some l0)), (1, vr l1), (2, vi (w32 (l2 + (-1))))]) [1, 2, 0] rfl ?_
  exact hrc79 _ _ _ _ E
noncomputable def X6_pick_L79 (F : Nat)   (k : Nat) : Nat → Option Nat → Int → HP → Option (Unit × HP) :=
  Nat.rec (motive := fun _ => Nat → Option Nat → Int → HP → Option (Unit × HP)) (fun _ _ _ _ => none) (fun _ rc79 l0 l1 l2 h =>
    if l2 < 0 then
      some ((), h)
    else
      (xgP h (some l0) 6 15 8).bind fun v2 =>
      (xgI h (some l0) 6 15 9).bind fun v3 =>
      if v3 ≤ l2 then
        X6_pick_L122 F rc79 l0 l1 l2 0 l2 v2 h
      else
        (xgP h (some l0) 6 15 8).bind fun v5 =>
        (xaI h v5 100 (w32 (l2 + 1))).bind fun v6 =>
        (xgP h (some l0) 6 15 0).bind fun v7 =>
        (xaI h v7 100 l2).bind fun v8 =>
        (xrc h l1 3 7).bind fun a11 =>
        xb (X3_at F a11 v8 h) fun v9 h10 =>
        xb (X6_mostOf F v9 h10) fun v12 h13 =>
        X6_pick_L122 F rc79 l0 l1 l2 (w32 (v6 + v12)) l2 v2 h13) k
theorem X6_pick_L79_s (F : Nat)   (k : Nat) (l0 : Nat) (l1 : Option Nat) (l2 : Int)  (h : HP) : X6_pick_L79 F   (k + 1) l0 l1 l2 h =
    if l2 < 0 then
      some ((), h)
    else
      (xgP h (some l0) 6 15 8).bind fun v2 =>
      (xgI h (some l0) 6 15 9).bind fun v3 =>
      if v3 ≤ l2 then
        X6_pick_L122 F (X6_pick_L79 F k) l0 l1 l2 0 l2 v2 h
      else
        (xgP h (some l0) 6 15 8).bind fun v5 =>
        (xaI h v5 100 (w32 (l2 + 1))).bind fun v6 =>
        (xgP h (some l0) 6 15 0).bind fun v7 =>
        (xaI h v7 100 l2).bind fun v8 =>
        (xrc h l1 3 7).bind fun a11 =>
        xb (X3_at F a11 v8 h) fun v9 h10 =>
        xb (X6_mostOf F v9 h10) fun v12 h13 =>
        X6_pick_L122 F (X6_pick_L79 F k) l0 l1 l2 (w32 (v6 + v12)) l2 v2 h13 := rfl
set_option maxRecDepth 100000 in
theorem SX6_pick_L79 {K : Ctx} {F : Nat} {r : Unit} {hf : HP}     : ∀ (k : Nat) (l0 : Nat) (l1 : Option Nat) (l2 : Int)  (h : HP), X6_pick_L79 F   k l0 l1 l2 h = some (r, hf) → Go K MX6_pick (QM K none hf) hf 79 [(0, vr (some l0)), (1, vr l1), (2, vi l2)] [] h := by
  intro k
  induction k with
  | zero => intro l0 l1 l2 h E; exact nomatch E
  | succ k hrc79 =>
    intro l0 l1 l2 h E
    rw [X6_pick_L79_s] at E
    refine go_iload_n (j := 2) (n := 80) rfl rfl dX6_pick_79 rfl ?_
    refine go_if_lt (tgt := 129) (n := 83) dX6_pick_80 rfl rfl (fun c1 => ?_) (fun c1 => ?_)
    · rw [if_pos c1] at E
      cases E
      exact go_return rfl dX6_pick_129
    · rw [if_neg c1] at E
      refine go_aload_n (j := 0) (n := 84) rfl rfl dX6_pick_83 rfl ?_
      replace E := Option.bind_eq_some_iff.mp E; obtain ⟨v2, ev2, E⟩ := E
      refine go_getP (n := 87) ev2 fl_RX6_36 rfl dX6_pick_84 rfl ?_
      refine go_iload_n (j := 2) (n := 88) rfl rfl dX6_pick_87 rfl ?_
      refine go_iload_n (j := 2) (n := 89) rfl rfl dX6_pick_88 rfl ?_
      refine go_aload_n (j := 0) (n := 90) rfl rfl dX6_pick_89 rfl ?_
      replace E := Option.bind_eq_some_iff.mp E; obtain ⟨v3, ev3, E⟩ := E
      refine go_getI (n := 93) ev3 fl_RX6_63 rfl dX6_pick_90 rfl ?_
      refine go_icmp_ge (tgt := 121) (n := 96) dX6_pick_93 rfl rfl (fun c4 => ?_) (fun c4 => ?_)
      · rw [if_pos c4] at E
        refine go_iconst (z := 0) (n := 122) ⟨by decide, by decide⟩ dX6_pick_121 rfl ?_
        exact SX6_pick_L122   _ hrc79 _ _ _ _ _ _ _ E
      · rw [if_neg c4] at E
        refine go_aload_n (j := 0) (n := 97) rfl rfl dX6_pick_96 rfl ?_
        replace E := Option.bind_eq_some_iff.mp E; obtain ⟨v5, ev5, E⟩ := E
        refine go_getP (n := 100) ev5 fl_RX6_36 rfl dX6_pick_97 rfl ?_
        refine go_iload_n (j := 2) (n := 101) rfl rfl dX6_pick_100 rfl ?_
        refine go_iconst (z := 1) (n := 102) ⟨by decide, by decide⟩ dX6_pick_101 rfl ?_
        refine go_iadd (n := 103) dX6_pick_102 rfl ?_
        replace E := Option.bind_eq_some_iff.mp E; obtain ⟨v6, ev6, E⟩ := E
        refine go_iaload (n := 104) ev6 dX6_pick_103 rfl ?_
        refine go_aload_n (j := 1) (n := 105) rfl rfl dX6_pick_104 rfl ?_
        refine go_aload_n (j := 0) (n := 106) rfl rfl dX6_pick_105 rfl ?_
        replace E := Option.bind_eq_some_iff.mp E; obtain ⟨v7, ev7, E⟩ := E
        refine go_getP (n := 109) ev7 fl_RX6_9 rfl dX6_pick_106 rfl ?_
        refine go_iload_n (j := 2) (n := 110) rfl rfl dX6_pick_109 rfl ?_
        replace E := Option.bind_eq_some_iff.mp E; obtain ⟨v8, ev8, E⟩ := E
        refine go_iaload (n := 111) ev8 dX6_pick_110 rfl ?_
        replace E := Option.bind_eq_some_iff.mp E; obtain ⟨a11, ea11, E⟩ := E
        obtain ⟨fa11, ga11⟩ := xrc_some ea11
        replace E := xb_some E; obtain ⟨v9, h10, ev9, E⟩ := E
        refine go_callV (y := yX3_at) (n := 114) (st := [vi v6, vi l2, vr v2]) (as := [vi v8]) (stk9 := [vr v9, vi v6, vi l2, vr v2]) (OX3_at ev9) yw_X3_at ci_3 ga11 wml_RX6_69 wim_X3_at wse_X3_at (Nat.le_of_ble_eq_true rfl) rfl ⟨Nat.le_of_ble_eq_true rfl, Nat.le_of_ble_eq_true rfl⟩ (Nat.le_of_ble_eq_true rfl) dX6_pick_111 rfl (by cases fa11; rfl) rfl ?_
        replace E := xb_some E; obtain ⟨v12, h13, ev12, E⟩ := E
        refine go_callS (y := yX6_mostOf) (n := 117) (st := [vi v6, vi l2, vr v2]) (as := [vr v9]) (stk9 := [vi v12, vi v6, vi l2, vr v2]) (OX6_mostOf ev12) yw_X6_mostOf wml_RX6_78 wst_X6_mostOf (Nat.le_of_ble_eq_true rfl) rfl ⟨Nat.le_of_ble_eq_true rfl, Nat.le_of_ble_eq_true rfl⟩ (Nat.le_of_ble_eq_true rfl) dX6_pick_114 rfl rfl rfl ?_
        refine go_iadd (n := 118) dX6_pick_117 rfl ?_
        refine go_goto (tgt := 122) dX6_pick_118 rfl ?_
        exact SX6_pick_L122   _ hrc79 _ _ _ _ _ _ _ E
noncomputable def X6_pick_L68 (F : Nat)   (l0 : Nat) (l1 : Option Nat)  (h : HP) : Option (Unit × HP) :=
  (xgP h (some l0) 6 15 8).bind fun v1 =>
  (xsI h v1 7 0).bind fun h2 =>
  X6_pick_L79 F F l0 l1 6 h2
set_option maxRecDepth 100000 in
theorem SX6_pick_L68 {K : Ctx} {F : Nat} {r : Unit} {hf : HP}     (l0 : Nat) (l1 : Option Nat)  (h : HP) (E : X6_pick_L68 F   l0 l1 h = some (r, hf)) : Go K MX6_pick (QM K none hf) hf 68 [(0, vr (some l0)), (1, vr l1)] [] h := by
  unfold X6_pick_L68 at E
  refine go_aload_n (j := 0) (n := 69) rfl rfl dX6_pick_68 rfl ?_
  replace E := Option.bind_eq_some_iff.mp E; obtain ⟨v1, ev1, E⟩ := E
  refine go_getP (n := 72) ev1 fl_RX6_36 rfl dX6_pick_69 rfl ?_
  refine go_bipush (z := 7) (n := 74) ⟨by decide, by decide⟩ dX6_pick_72 rfl ?_
  refine go_iconst (z := 0) (n := 75) ⟨by decide, by decide⟩ dX6_pick_74 rfl ?_
  replace E := Option.bind_eq_some_iff.mp E; obtain ⟨h2, eh2, E⟩ := E
  refine go_iastore (n := 76) eh2 dX6_pick_75 rfl ?_
  refine go_bipush (z := 6) (n := 78) ⟨by decide, by decide⟩ dX6_pick_76 rfl ?_
  refine go_istore_n (n := 79) (lv' := [(2, vi 6), (0, vr (some l0)), (1, vr l1)]) rfl dX6_pick_78 rfl (Nat.le_of_ble_eq_true rfl) rfl ?_
  refine go_pick (lv' := [(0, vr (some l0)), (1, vr l1), (2, vi 6)]) [1, 2, 0] rfl ?_
  exact SX6_pick_L79     F _ _ _ _ E
noncomputable def X6_pick_L62 (F : Nat)  (rc7 : Nat → Option Nat → Int → HP → Option (Unit × HP)) (l0 : Nat) (l1 : Option Nat) (l2 : Int)  (h : HP) : Option (Unit × HP) :=
  rc7 l0 l1 (w32 (l2 + 1)) h
set_option maxRecDepth 100000 in
theorem SX6_pick_L62 {K : Ctx} {F : Nat} {r : Unit} {hf : HP}   (rc7 : Nat → Option Nat → Int → HP → Option (Unit × HP)) (hrc7 : ∀ l0 l1 l2 h, rc7 l0 l1 l2 h = some (r, hf) → Go K MX6_pick (QM K none hf) hf 7 [(0, vr (some l0)), (1, vr l1), (2, vi l2)] [] h) (l0 : Nat) (l1 : Option Nat) (l2 : Int)  (h : HP) (E : X6_pick_L62 F  rc7 l0 l1 l2 h = some (r, hf)) : Go K MX6_pick (QM K none hf) hf 62 [(0, vr (some l0)), (1, vr l1), (2, vi l2)] [] h := by
  unfold X6_pick_L62 at E
  refine go_iinc (j := 2) (n := 65) (lv' := [(2, vi (w32 (l2 + 1))), (0, vr (some l0)), (1, vr l1)]) rfl dX6_pick_62 rfl (Nat.le_of_ble_eq_true rfl) rfl ?_
  refine go_goto (tgt := 7) dX6_pick_65 rfl ?_
  refine go_pick (lv' := [(0, vr (some l0)), (1, vr l1), (2, vi (w32 (l2 + 1)))]) [1, 2, 0] rfl ?_
  exact hrc7 _ _ _ _ E
noncomputable def X6_pick_L7 (F : Nat)   (k : Nat) : Nat → Option Nat → Int → HP → Option (Unit × HP) :=
  Nat.rec (motive := fun _ => Nat → Option Nat → Int → HP → Option (Unit × HP)) (fun _ _ _ _ => none) (fun _ rc7 l0 l1 l2 h =>
    (xgI h l1 3 7 5).bind fun v1 =>
    if v1 ≤ l2 then
      X6_pick_L68 F l0 l1 h
    else
      (xgI h (some l0) 6 15 9).bind fun v3 =>
      if v3 < 0 then
        X6_pick_L68 F l0 l1 h
      else
        (xgI h (some l0) 6 15 9).bind fun v5 =>
        if 7 ≤ v5 then
          X6_pick_L68 F l0 l1 h
        else
          (xrc h l1 3 7).bind fun a9 =>
          xb (X3_at F a9 l2 h) fun v7 h8 =>
          (xgI h8 v7 2 18 9).bind fun v10 =>
          if v10 = 0 then
            (xgP h8 (some l0) 6 15 0).bind fun v12 =>
            (xgI h8 (some l0) 6 15 9).bind fun v13 =>
            (xsI h8 v12 v13 l2).bind fun h14 =>
            (xgI h14 (some l0) 6 15 9).bind fun v15 =>
            (xpI h14 (some l0) 6 15 9 (w32 (v15 + 1))).bind fun h16 =>
            X6_pick_L62 F rc7 l0 l1 l2 h16
          else
            X6_pick_L62 F rc7 l0 l1 l2 h8) k
theorem X6_pick_L7_s (F : Nat)   (k : Nat) (l0 : Nat) (l1 : Option Nat) (l2 : Int)  (h : HP) : X6_pick_L7 F   (k + 1) l0 l1 l2 h =
    (xgI h l1 3 7 5).bind fun v1 =>
    if v1 ≤ l2 then
      X6_pick_L68 F l0 l1 h
    else
      (xgI h (some l0) 6 15 9).bind fun v3 =>
      if v3 < 0 then
        X6_pick_L68 F l0 l1 h
      else
        (xgI h (some l0) 6 15 9).bind fun v5 =>
        if 7 ≤ v5 then
          X6_pick_L68 F l0 l1 h
        else
          (xrc h l1 3 7).bind fun a9 =>
          xb (X3_at F a9 l2 h) fun v7 h8 =>
          (xgI h8 v7 2 18 9).bind fun v10 =>
          if v10 = 0 then
            (xgP h8 (some l0) 6 15 0).bind fun v12 =>
            (xgI h8 (some l0) 6 15 9).bind fun v13 =>
            (xsI h8 v12 v13 l2).bind fun h14 =>
            (xgI h14 (some l0) 6 15 9).bind fun v15 =>
            (xpI h14 (some l0) 6 15 9 (w32 (v15 + 1))).bind fun h16 =>
            X6_pick_L62 F (X6_pick_L7 F k) l0 l1 l2 h16
          else
            X6_pick_L62 F (X6_pick_L7 F k) l0 l1 l2 h8 := rfl
set_option maxRecDepth 100000 in
theorem SX6_pick_L7 {K : Ctx} {F : Nat} {r : Unit} {hf : HP}     : ∀ (k : Nat) (l0 : Nat) (l1 : Option Nat) (l2 : Int)  (h : HP), X6_pick_L7 F   k l0 l1 l2 h = some (r, hf) → Go K MX6_pick (QM K none hf) hf 7 [(0, vr (some l0)), (1, vr l1), (2, vi l2)] [] h := by
  intro k
  induction k with
  | zero => intro l0 l1 l2 h E; exact nomatch E
  | succ k hrc7 =>
    intro l0 l1 l2 h E
    rw [X6_pick_L7_s] at E
    refine go_iload_n (j := 2) (n := 8) rfl rfl dX6_pick_7 rfl ?_
    refine go_aload_n (j := 1) (n := 9) rfl rfl dX6_pick_8 rfl ?_
    replace E := Option.bind_eq_some_iff.mp E; obtain ⟨v1, ev1, E⟩ := E
    refine go_getI (n := 12) ev1 fl_RX6_66 rfl dX6_pick_9 rfl ?_
    refine go_icmp_ge (tgt := 68) (n := 15) dX6_pick_12 rfl rfl (fun c2 => ?_) (fun c2 => ?_)
    · rw [if_pos c2] at E
      refine go_pick (lv' := [(0, vr (some l0)), (1, vr l1)]) [0, 1] rfl ?_
      exact SX6_pick_L68     _ _  _ E
    · rw [if_neg c2] at E
      refine go_aload_n (j := 0) (n := 16) rfl rfl dX6_pick_15 rfl ?_
      replace E := Option.bind_eq_some_iff.mp E; obtain ⟨v3, ev3, E⟩ := E
      refine go_getI (n := 19) ev3 fl_RX6_63 rfl dX6_pick_16 rfl ?_
      refine go_if_lt (tgt := 68) (n := 22) dX6_pick_19 rfl rfl (fun c4 => ?_) (fun c4 => ?_)
      · rw [if_pos c4] at E
        refine go_pick (lv' := [(0, vr (some l0)), (1, vr l1)]) [0, 1] rfl ?_
        exact SX6_pick_L68     _ _  _ E
      · rw [if_neg c4] at E
        refine go_aload_n (j := 0) (n := 23) rfl rfl dX6_pick_22 rfl ?_
        replace E := Option.bind_eq_some_iff.mp E; obtain ⟨v5, ev5, E⟩ := E
        refine go_getI (n := 26) ev5 fl_RX6_63 rfl dX6_pick_23 rfl ?_
        refine go_bipush (z := 7) (n := 28) ⟨by decide, by decide⟩ dX6_pick_26 rfl ?_
        refine go_icmp_ge (tgt := 68) (n := 31) dX6_pick_28 rfl rfl (fun c6 => ?_) (fun c6 => ?_)
        · rw [if_pos c6] at E
          refine go_pick (lv' := [(0, vr (some l0)), (1, vr l1)]) [0, 1] rfl ?_
          exact SX6_pick_L68     _ _  _ E
        · rw [if_neg c6] at E
          refine go_aload_n (j := 1) (n := 32) rfl rfl dX6_pick_31 rfl ?_
          refine go_iload_n (j := 2) (n := 33) rfl rfl dX6_pick_32 rfl ?_
          replace E := Option.bind_eq_some_iff.mp E; obtain ⟨a9, ea9, E⟩ := E
          obtain ⟨fa9, ga9⟩ := xrc_some ea9
          replace E := xb_some E; obtain ⟨v7, h8, ev7, E⟩ := E
          refine go_callV (y := yX3_at) (n := 36) (st := []) (as := [vi l2]) (stk9 := [vr v7]) (OX3_at ev7) yw_X3_at ci_3 ga9 wml_RX6_69 wim_X3_at wse_X3_at (Nat.le_of_ble_eq_true rfl) rfl ⟨Nat.le_of_ble_eq_true rfl, Nat.le_of_ble_eq_true rfl⟩ (Nat.le_of_ble_eq_true rfl) dX6_pick_33 rfl (by cases fa9; rfl) rfl ?_
          replace E := Option.bind_eq_some_iff.mp E; obtain ⟨v10, ev10, E⟩ := E
          refine go_getI (n := 39) ev10 fl_RX6_73 rfl dX6_pick_36 rfl ?_
          refine go_if_ne (tgt := 62) (n := 42) dX6_pick_39 rfl rfl (fun c11 => ?_) (fun c11 => ?_)
          · rw [if_neg c11] at E
            exact SX6_pick_L62   _ hrc7 _ _ _  _ E
          · rw [if_pos c11] at E
            refine go_aload_n (j := 0) (n := 43) rfl rfl dX6_pick_42 rfl ?_
            replace E := Option.bind_eq_some_iff.mp E; obtain ⟨v12, ev12, E⟩ := E
            refine go_getP (n := 46) ev12 fl_RX6_9 rfl dX6_pick_43 rfl ?_
            refine go_aload_n (j := 0) (n := 47) rfl rfl dX6_pick_46 rfl ?_
            replace E := Option.bind_eq_some_iff.mp E; obtain ⟨v13, ev13, E⟩ := E
            refine go_getI (n := 50) ev13 fl_RX6_63 rfl dX6_pick_47 rfl ?_
            refine go_iload_n (j := 2) (n := 51) rfl rfl dX6_pick_50 rfl ?_
            replace E := Option.bind_eq_some_iff.mp E; obtain ⟨h14, eh14, E⟩ := E
            refine go_iastore (n := 52) eh14 dX6_pick_51 rfl ?_
            refine go_aload_n (j := 0) (n := 53) rfl rfl dX6_pick_52 rfl ?_
            refine go_dup (n := 54) rfl dX6_pick_53 rfl ?_
            replace E := Option.bind_eq_some_iff.mp E; obtain ⟨v15, ev15, E⟩ := E
            refine go_getI (n := 57) ev15 fl_RX6_63 rfl dX6_pick_54 rfl ?_
            refine go_iconst (z := 1) (n := 58) ⟨by decide, by decide⟩ dX6_pick_57 rfl ?_
            refine go_iadd (n := 59) dX6_pick_58 rfl ?_
            replace E := Option.bind_eq_some_iff.mp E; obtain ⟨h16, eh16, E⟩ := E
            refine go_putI (n := 62) eh16 fl_RX6_63 rfl dX6_pick_59 rfl ?_
            exact SX6_pick_L62   _ hrc7 _ _ _  _ E
noncomputable def X6_pick (F : Nat)   (l0 : Nat) (l1 : Option Nat)  (h : HP) : Option (Unit × HP) :=
  (xpI h (some l0) 6 15 9 0).bind fun h1 =>
  X6_pick_L7 F F l0 l1 0 h1
set_option maxRecDepth 100000 in
theorem SX6_pick {K : Ctx} {F : Nat} {r : Unit} {hf : HP}     (l0 : Nat) (l1 : Option Nat)  (h : HP) (E : X6_pick F   l0 l1 h = some (r, hf)) : Go K MX6_pick (QM K none hf) hf 0 [(0, vr (some l0)), (1, vr l1)] [] h := by
  unfold X6_pick at E
  refine go_aload_n (j := 0) (n := 1) rfl rfl dX6_pick_0 rfl ?_
  refine go_iconst (z := 0) (n := 2) ⟨by decide, by decide⟩ dX6_pick_1 rfl ?_
  replace E := Option.bind_eq_some_iff.mp E; obtain ⟨h1, eh1, E⟩ := E
  refine go_putI (n := 5) eh1 fl_RX6_63 rfl dX6_pick_2 rfl ?_
  refine go_iconst (z := 0) (n := 6) ⟨by decide, by decide⟩ dX6_pick_5 rfl ?_
  refine go_istore_n (n := 7) (lv' := [(2, vi 0), (0, vr (some l0)), (1, vr l1)]) rfl dX6_pick_6 rfl (Nat.le_of_ble_eq_true rfl) rfl ?_
  refine go_pick (lv' := [(0, vr (some l0)), (1, vr l1), (2, vi 0)]) [1, 2, 0] rfl ?_
  exact SX6_pick_L7     F _ _ _ _ E
theorem OX6_pick {F : Nat} {l0 : Nat} {l1 : Option Nat} {h hf : HP} {r : Unit} (e : X6_pick F l0 l1 h = some (r, hf)) : Ok MX6_pick [vr (some l0), vr l1] none h hf := fun K _ _ _ => SX6_pick l0 l1 h e
theorem fl_RX6_46 : FL RX6 46 6 15 12 false := ⟨RX6, TX6, ci_6, by decide, bw_of 582 (by decide +kernel) rfl, rfl, rfl⟩
theorem fl_RX6_49 : FL RX6 49 6 15 13 false := ⟨RX6, TX6, ci_6, by decide, bw_of 583 (by decide +kernel) rfl, rfl, rfl⟩
theorem fl_RX6_52 : FL RX6 52 6 15 14 false := ⟨RX6, TX6, ci_6, by decide, bw_of 584 (by decide +kernel) rfl, rfl, rfl⟩
abbrev MX6_isBetter : MI := (RX6, cX6_isBetter, 4, (some .boolean), 2, none, "isBetter")
noncomputable def X6_isBetter (F : Nat)   (l0 : Nat) (l1 : Int) (l2 : Int) (l3 : Int)  (h : HP) : Option (Int × HP) :=
  (xgI h (some l0) 6 15 12).bind fun v1 =>
  if l1 = v1 then
    (xgI h (some l0) 6 15 13).bind fun v3 =>
    if l2 = v3 then
      (xgI h (some l0) 6 15 14).bind fun v5 =>
      some (if v5 ≤ l3 then 0 else 1, h)
    else
      (xgI h (some l0) 6 15 13).bind fun v7 =>
      some (if v7 ≤ l2 then 0 else 1, h)
  else
    (xgI h (some l0) 6 15 12).bind fun v9 =>
    some (if l1 ≤ v9 then 0 else 1, h)
set_option maxRecDepth 100000 in
theorem SX6_isBetter {K : Ctx} {F : Nat} {r : Int} {hf : HP}     (l0 : Nat) (l1 : Int) (l2 : Int) (l3 : Int)  (h : HP) (E : X6_isBetter F   l0 l1 l2 l3 h = some (r, hf)) : Go K MX6_isBetter (QM K (some (vi r)) hf) hf 0 [(0, vr (some l0)), (1, vi l1), (2, vi l2), (3, vi l3)] [] h := by
  unfold X6_isBetter at E
  refine go_iload_n (j := 1) (n := 1) rfl rfl dX6_isBetter_0 rfl ?_
  refine go_aload_n (j := 0) (n := 2) rfl rfl dX6_isBetter_1 rfl ?_
  replace E := Option.bind_eq_some_iff.mp E; obtain ⟨v1, ev1, E⟩ := E
  refine go_getI (n := 5) ev1 fl_RX6_46 rfl dX6_isBetter_2 rfl ?_
  refine go_icmp_eq (tgt := 22) (n := 8) dX6_isBetter_5 rfl rfl (fun c2 => ?_) (fun c2 => ?_)
  · rw [if_pos c2] at E
    refine go_iload_n (j := 2) (n := 23) rfl rfl dX6_isBetter_22 rfl ?_
    refine go_aload_n (j := 0) (n := 24) rfl rfl dX6_isBetter_23 rfl ?_
    replace E := Option.bind_eq_some_iff.mp E; obtain ⟨v3, ev3, E⟩ := E
    refine go_getI (n := 27) ev3 fl_RX6_49 rfl dX6_isBetter_24 rfl ?_
    refine go_icmp_eq (tgt := 44) (n := 30) dX6_isBetter_27 rfl rfl (fun c4 => ?_) (fun c4 => ?_)
    · rw [if_pos c4] at E
      refine go_iload_n (j := 3) (n := 45) rfl rfl dX6_isBetter_44 rfl ?_
      refine go_aload_n (j := 0) (n := 46) rfl rfl dX6_isBetter_45 rfl ?_
      replace E := Option.bind_eq_some_iff.mp E; obtain ⟨v5, ev5, E⟩ := E
      refine go_getI (n := 49) ev5 fl_RX6_52 rfl dX6_isBetter_46 rfl ?_
      refine go_icmp_ge (tgt := 56) (n := 52) dX6_isBetter_49 rfl rfl (fun c6 => ?_) (fun c6 => ?_)
      · simp only [if_pos c6] at E
        refine go_iconst (z := 0) (n := 57) ⟨by decide, by decide⟩ dX6_isBetter_56 rfl ?_
        cases E
        exact go_zreturn rfl (Or.inl rfl) dX6_isBetter_57
      · simp only [if_neg c6] at E
        refine go_iconst (z := 1) (n := 53) ⟨by decide, by decide⟩ dX6_isBetter_52 rfl ?_
        refine go_goto (tgt := 57) dX6_isBetter_53 rfl ?_
        cases E
        exact go_zreturn rfl (Or.inr rfl) dX6_isBetter_57
    · rw [if_neg c4] at E
      refine go_iload_n (j := 2) (n := 31) rfl rfl dX6_isBetter_30 rfl ?_
      refine go_aload_n (j := 0) (n := 32) rfl rfl dX6_isBetter_31 rfl ?_
      replace E := Option.bind_eq_some_iff.mp E; obtain ⟨v7, ev7, E⟩ := E
      refine go_getI (n := 35) ev7 fl_RX6_49 rfl dX6_isBetter_32 rfl ?_
      refine go_icmp_ge (tgt := 42) (n := 38) dX6_isBetter_35 rfl rfl (fun c8 => ?_) (fun c8 => ?_)
      · simp only [if_pos c8] at E
        refine go_iconst (z := 0) (n := 43) ⟨by decide, by decide⟩ dX6_isBetter_42 rfl ?_
        cases E
        exact go_zreturn rfl (Or.inl rfl) dX6_isBetter_43
      · simp only [if_neg c8] at E
        refine go_iconst (z := 1) (n := 39) ⟨by decide, by decide⟩ dX6_isBetter_38 rfl ?_
        refine go_goto (tgt := 43) dX6_isBetter_39 rfl ?_
        cases E
        exact go_zreturn rfl (Or.inr rfl) dX6_isBetter_43
  · rw [if_neg c2] at E
    refine go_iload_n (j := 1) (n := 9) rfl rfl dX6_isBetter_8 rfl ?_
    refine go_aload_n (j := 0) (n := 10) rfl rfl dX6_isBetter_9 rfl ?_
    replace E := Option.bind_eq_some_iff.mp E; obtain ⟨v9, ev9, E⟩ := E
    refine go_getI (n := 13) ev9 fl_RX6_46 rfl dX6_isBetter_10 rfl ?_
    refine go_icmp_le (tgt := 20) (n := 16) dX6_isBetter_13 rfl rfl (fun c10 => ?_) (fun c10 => ?_)
    · simp only [if_pos c10] at E
      refine go_iconst (z := 0) (n := 21) ⟨by decide, by decide⟩ dX6_isBetter_20 rfl ?_
      cases E
      exact go_zreturn rfl (Or.inl rfl) dX6_isBetter_21
    · simp only [if_neg c10] at E
      refine go_iconst (z := 1) (n := 17) ⟨by decide, by decide⟩ dX6_isBetter_16 rfl ?_
      refine go_goto (tgt := 21) dX6_isBetter_17 rfl ?_
      cases E
      exact go_zreturn rfl (Or.inr rfl) dX6_isBetter_21
theorem OX6_isBetter {F : Nat} {l0 : Nat} {l1 : Int} {l2 : Int} {l3 : Int} {h hf : HP} {r : Int} (e : X6_isBetter F l0 l1 l2 l3 h = some (r, hf)) : Ok MX6_isBetter [vr (some l0), vi l1, vi l2, vi l3] (some (vi r)) h hf := fun K _ _ _ => SX6_isBetter l0 l1 l2 l3 h e
theorem wml_RX6_125 : Cond.methodLink RX6 125 yX3_leansOf ∈ BW := bw_of 1716 (by decide +kernel) rfl
theorem fl_RX6_30 : FL RX6 30 6 15 6 true := ⟨RX6, TX6, ci_6, by decide, bw_of 576 (by decide +kernel) rfl, rfl, rfl⟩
theorem fl_RX6_33 : FL RX6 33 6 15 7 true := ⟨RX6, TX6, ci_6, by decide, bw_of 577 (by decide +kernel) rfl, rfl, rfl⟩
abbrev MX6_mayHave : MI := (RX6, cX6_mayHave, 5, (some .boolean), 3, none, "mayHave")
noncomputable def X6_mayHave (F : Nat)   (l0 : Nat) (l1 : Option Nat) (l2 : Int) (l3 : Int)  (h : HP) : Option (Int × HP) :=
  if l2 < 0 then
    some (0, h)
  else
    if l2 < 7 then
      (xgP h (some l0) 6 15 0).bind fun v3 =>
      (xaI h v3 100 l2).bind fun v4 =>
      if l3 = 3 then
        (xgP h (some l0) 6 15 7).bind fun v19 =>
        (xaI h v19 100 l2).bind fun v20 =>
        some (if (xand (xush v20 v4) 1) = 0 then 1 else 0, h)
      else
        (xrc h l1 3 7).bind fun a8 =>
        xb (X3_at F a8 v4 h) fun v6 h7 =>
        (xrc h7 v6 2 18).bind fun a11 =>
        xb (X2_hasWay F a11 l3 h7) fun v9 h10 =>
        if v9 = 0 then
          some (0, h10)
        else
          (xrc h10 l1 3 7).bind fun a15 =>
          xb (X3_leansOf F a15 v4 h10) fun v13 h14 =>
          (xgP h14 (some l0) 6 15 6).bind fun v16 =>
          (xaI h14 v16 100 l2).bind fun v17 =>
          some (if (xand v13 v17) = 0 then 1 else 0, h14)
    else
      some (0, h)
set_option maxRecDepth 100000 in
theorem SX6_mayHave {K : Ctx} {F : Nat} {r : Int} {hf : HP}     (l0 : Nat) (l1 : Option Nat) (l2 : Int) (l3 : Int)  (h : HP) (E : X6_mayHave F   l0 l1 l2 l3 h = some (r, hf)) : Go K MX6_mayHave (QM K (some (vi r)) hf) hf 0 [(0, vr (some l0)), (1, vr l1), (2, vi l2), (3, vi l3)] [] h := by
  unfold X6_mayHave at E
  refine go_iload_n (j := 2) (n := 1) rfl rfl dX6_mayHave_0 rfl ?_
  refine go_if_lt (tgt := 10) (n := 4) dX6_mayHave_1 rfl rfl (fun c1 => ?_) (fun c1 => ?_)
  · rw [if_pos c1] at E
    refine go_iconst (z := 0) (n := 11) ⟨by decide, by decide⟩ dX6_mayHave_10 rfl ?_
    cases E
    exact go_zreturn rfl (Or.inl rfl) dX6_mayHave_11
  · rw [if_neg c1] at E
    refine go_iload_n (j := 2) (n := 5) rfl rfl dX6_mayHave_4 rfl ?_
    refine go_bipush (z := 7) (n := 7) ⟨by decide, by decide⟩ dX6_mayHave_5 rfl ?_
    refine go_icmp_lt (tgt := 12) (n := 10) dX6_mayHave_7 rfl rfl (fun c2 => ?_) (fun c2 => ?_)
    · rw [if_pos c2] at E
      refine go_aload_n (j := 0) (n := 13) rfl rfl dX6_mayHave_12 rfl ?_
      replace E := Option.bind_eq_some_iff.mp E; obtain ⟨v3, ev3, E⟩ := E
      refine go_getP (n := 16) ev3 fl_RX6_9 rfl dX6_mayHave_13 rfl ?_
      refine go_iload_n (j := 2) (n := 17) rfl rfl dX6_mayHave_16 rfl ?_
      replace E := Option.bind_eq_some_iff.mp E; obtain ⟨v4, ev4, E⟩ := E
      refine go_iaload (n := 18) ev4 dX6_mayHave_17 rfl ?_
      refine go_istore (n := 20) (lv' := [(4, vi v4), (0, vr (some l0)), (1, vr l1), (2, vi l2), (3, vi l3)]) dX6_mayHave_18 rfl (Nat.le_of_ble_eq_true rfl) rfl ?_
      refine go_iload_n (j := 4) (n := 21) rfl rfl dX6_mayHave_20 rfl ?_
      refine go_iconst (z := 3) (n := 22) ⟨by decide, by decide⟩ dX6_mayHave_21 rfl ?_
      refine go_icmp_ne (tgt := 45) (n := 25) dX6_mayHave_22 rfl rfl (fun c5 => ?_) (fun c5 => ?_)
      · rw [if_neg c5] at E
        refine go_aload_n (j := 2) (n := 46) rfl rfl dX6_mayHave_45 rfl ?_
        refine go_iload (j := 0) (n := 48) rfl dX6_mayHave_46 rfl ?_
        replace E := Option.bind_eq_some_iff.mp E; obtain ⟨a8, ea8, E⟩ := E
        obtain ⟨fa8, ga8⟩ := xrc_some ea8
        replace E := xb_some E; obtain ⟨v6, h7, ev6, E⟩ := E
        refine go_callV (y := yX3_at) (n := 51) (st := []) (as := [vi v4]) (stk9 := [vr v6]) (OX3_at ev6) yw_X3_at ci_3 ga8 wml_RX6_69 wim_X3_at wse_X3_at (Nat.le_of_ble_eq_true rfl) rfl ⟨Nat.le_of_ble_eq_true rfl, Nat.le_of_ble_eq_true rfl⟩ (Nat.le_of_ble_eq_true rfl) dX6_mayHave_48 rfl (by cases fa8; rfl) rfl ?_
        refine go_iload_n (j := 4) (n := 52) rfl rfl dX6_mayHave_51 rfl ?_
        replace E := Option.bind_eq_some_iff.mp E; obtain ⟨a11, ea11, E⟩ := E
        obtain ⟨fa11, ga11⟩ := xrc_some ea11
        replace E := xb_some E; obtain ⟨v9, h10, ev9, E⟩ := E
        refine go_callV (y := yX2_hasWay) (n := 55) (st := []) (as := [vi l3]) (stk9 := [vi v9]) (OX2_hasWay ev9) yw_X2_hasWay ci_2 ga11 wml_RX6_82 wim_X2_hasWay wse_X2_hasWay (Nat.le_of_ble_eq_true rfl) rfl ⟨Nat.le_of_ble_eq_true rfl, Nat.le_of_ble_eq_true rfl⟩ (Nat.le_of_ble_eq_true rfl) dX6_mayHave_52 rfl (by cases fa11; rfl) rfl ?_
        refine go_if_eq (tgt := 78) (n := 58) dX6_mayHave_55 rfl rfl (fun c12 => ?_) (fun c12 => ?_)
        · rw [if_pos c12] at E
          refine go_iconst (z := 0) (n := 79) ⟨by decide, by decide⟩ dX6_mayHave_78 rfl ?_
          cases E
          exact go_zreturn rfl (Or.inl rfl) dX6_mayHave_79
        · rw [if_neg c12] at E
          refine go_aload_n (j := 2) (n := 59) rfl rfl dX6_mayHave_58 rfl ?_
          refine go_iload (j := 0) (n := 61) rfl dX6_mayHave_59 rfl ?_
          replace E := Option.bind_eq_some_iff.mp E; obtain ⟨a15, ea15, E⟩ := E
          obtain ⟨fa15, ga15⟩ := xrc_some ea15
          replace E := xb_some E; obtain ⟨v13, h14, ev13, E⟩ := E
          refine go_callV (y := yX3_leansOf) (n := 64) (st := []) (as := [vi v4]) (stk9 := [vi v13]) (OX3_leansOf ev13) yw_X3_leansOf ci_3 ga15 wml_RX6_125 wim_X3_leansOf wse_X3_leansOf (Nat.le_of_ble_eq_true rfl) rfl ⟨Nat.le_of_ble_eq_true rfl, Nat.le_of_ble_eq_true rfl⟩ (Nat.le_of_ble_eq_true rfl) dX6_mayHave_61 rfl (by cases fa15; rfl) rfl ?_
          refine go_aload_n (j := 1) (n := 65) rfl rfl dX6_mayHave_64 rfl ?_
          replace E := Option.bind_eq_some_iff.mp E; obtain ⟨v16, ev16, E⟩ := E
          refine go_getP (n := 68) ev16 fl_RX6_30 rfl dX6_mayHave_65 rfl ?_
          refine go_iload_n (j := 3) (n := 69) rfl rfl dX6_mayHave_68 rfl ?_
          replace E := Option.bind_eq_some_iff.mp E; obtain ⟨v17, ev17, E⟩ := E
          refine go_iaload (n := 70) ev17 dX6_mayHave_69 rfl ?_
          refine go_iand (n := 71) dX6_mayHave_70 rfl ?_
          refine go_if_ne (tgt := 78) (n := 74) dX6_mayHave_71 rfl rfl (fun c18 => ?_) (fun c18 => ?_)
          · simp only [if_neg c18] at E
            refine go_iconst (z := 0) (n := 79) ⟨by decide, by decide⟩ dX6_mayHave_78 rfl ?_
            cases E
            exact go_zreturn rfl (Or.inl rfl) dX6_mayHave_79
          · simp only [if_pos c18] at E
            refine go_iconst (z := 1) (n := 75) ⟨by decide, by decide⟩ dX6_mayHave_74 rfl ?_
            refine go_goto (tgt := 79) dX6_mayHave_75 rfl ?_
            cases E
            exact go_zreturn rfl (Or.inr rfl) dX6_mayHave_79
      · rw [if_pos c5] at E
        refine go_aload_n (j := 1) (n := 26) rfl rfl dX6_mayHave_25 rfl ?_
        replace E := Option.bind_eq_some_iff.mp E; obtain ⟨v19, ev19, E⟩ := E
        refine go_getP (n := 29) ev19 fl_RX6_33 rfl dX6_mayHave_26 rfl ?_
        refine go_iload_n (j := 3) (n := 30) rfl rfl dX6_mayHave_29 rfl ?_
        replace E := Option.bind_eq_some_iff.mp E; obtain ⟨v20, ev20, E⟩ := E
        refine go_iaload (n := 31) ev20 dX6_mayHave_30 rfl ?_
        refine go_iload (j := 0) (n := 33) rfl dX6_mayHave_31 rfl ?_
        refine go_iushr (n := 34) dX6_mayHave_33 rfl ?_
        refine go_iconst (z := 1) (n := 35) ⟨by decide, by decide⟩ dX6_mayHave_34 rfl ?_
        refine go_iand (n := 36) dX6_mayHave_35 rfl ?_
        refine go_if_ne (tgt := 43) (n := 39) dX6_mayHave_36 rfl rfl (fun c21 => ?_) (fun c21 => ?_)
        · simp only [if_neg c21] at E
          refine go_iconst (z := 0) (n := 44) ⟨by decide, by decide⟩ dX6_mayHave_43 rfl ?_
          cases E
          exact go_zreturn rfl (Or.inl rfl) dX6_mayHave_44
        · simp only [if_pos c21] at E
          refine go_iconst (z := 1) (n := 40) ⟨by decide, by decide⟩ dX6_mayHave_39 rfl ?_
          refine go_goto (tgt := 44) dX6_mayHave_40 rfl ?_
          cases E
          exact go_zreturn rfl (Or.inr rfl) dX6_mayHave_44
    · rw [if_neg c2] at E
      refine go_iconst (z := 0) (n := 11) ⟨by decide, by decide⟩ dX6_mayHave_10 rfl ?_
      cases E
      exact go_zreturn rfl (Or.inl rfl) dX6_mayHave_11
theorem OX6_mayHave {F : Nat} {l0 : Nat} {l1 : Option Nat} {l2 : Int} {l3 : Int} {h hf : HP} {r : Int} (e : X6_mayHave F l0 l1 l2 l3 h = some (r, hf)) : Ok MX6_mayHave [vr (some l0), vr l1, vi l2, vi l3] (some (vi r)) h hf := fun K _ _ _ => SX6_mayHave l0 l1 l2 l3 h e
abbrev MX6_attempt (dd : Nat) : MI := (RX6, cX6_attempt, 8, none, 4 + dd, none, "attempt")
abbrev MX6_search (dd : Nat) : MI := (RX6, cX6_search, 4, none, 4 + dd, none, "search")
theorem yw_X6_mayHave : YW yX6_mayHave cX6_mayHave 5 (some .boolean) 3 := ⟨bw_of 1715 (by decide +kernel) rfl, bw_of 128 (by decide +kernel) rfl, ⟨by decide +kernel, by decide +kernel, by decide +kernel⟩, by decide +kernel⟩
theorem wml_RX6_112 : Cond.methodLink RX6 112 yX6_mayHave ∈ BW := bw_of 1712 (by decide +kernel) rfl
theorem wim_X6_mayHave : Cond.instanceMethod yX6_mayHave ∈ BW := bw_of 1714 (by decide +kernel) rfl
theorem wse_X6_mayHave : Cond.selects RX6 yX6_mayHave yX6_mayHave ∈ BW := bw_of 56 (by decide +kernel) rfl
theorem fl_RX6_21 : FL RX6 21 6 15 3 true := ⟨RX6, TX6, ci_6, by decide, bw_of 573 (by decide +kernel) rfl, rfl, rfl⟩
theorem fl_RX6_24 : FL RX6 24 6 15 4 true := ⟨RX6, TX6, ci_6, by decide, bw_of 574 (by decide +kernel) rfl, rfl, rfl⟩
theorem fl_RX6_27 : FL RX6 27 6 15 5 true := ⟨RX6, TX6, ci_6, by decide, bw_of 575 (by decide +kernel) rfl, rfl, rfl⟩
theorem fl_RX6_39 : FL RX6 39 6 15 10 false := ⟨RX6, TX6, ci_6, by decide, bw_of 580 (by decide +kernel) rfl, rfl, rfl⟩
theorem fl_RX6_43 : FL RX6 43 6 15 11 false := ⟨RX6, TX6, ci_6, by decide, bw_of 581 (by decide +kernel) rfl, rfl, rfl⟩
theorem fl_RX6_15 : FL RX6 15 6 15 1 true := ⟨RX6, TX6, ci_6, by decide, bw_of 571 (by decide +kernel) rfl, rfl, rfl⟩
theorem yw_X6_search : YW yX6_search cX6_search 4 none 2 := ⟨bw_of 1702 (by decide +kernel) rfl, bw_of 128 (by decide +kernel) rfl, ⟨by decide +kernel, by decide +kernel, by decide +kernel⟩, by decide +kernel⟩
theorem wml_RX6_59 : Cond.methodLink RX6 59 yX6_search ∈ BW := bw_of 1699 (by decide +kernel) rfl
theorem wim_X6_search : Cond.instanceMethod yX6_search ∈ BW := bw_of 1701 (by decide +kernel) rfl
theorem wse_X6_search : Cond.selects RX6 yX6_search yX6_search ∈ BW := bw_of 53 (by decide +kernel) rfl
theorem fl_RX6_122 : FL RX6 122 2 18 2 false := ⟨RX2, TX2, ci_2, by decide, bw_of 312 (by decide +kernel) rfl, rfl, rfl⟩
theorem fl_RX6_119 : FL RX6 119 2 18 6 false := ⟨RX2, TX2, ci_2, by decide, bw_of 320 (by decide +kernel) rfl, rfl, rfl⟩
theorem fl_RX6_116 : FL RX6 116 2 18 0 false := ⟨RX2, TX2, ci_2, by decide, bw_of 306 (by decide +kernel) rfl, rfl, rfl⟩
noncomputable def X6_attempt_L217 (F : Nat) (cl_attempt : Nat → Option Nat → Int → Int → HP → Option (Unit × HP)) (cl_search : Nat → Option Nat → Int → HP → Option (Unit × HP))  (l0 : Nat) (l1 : Option Nat) (l2 : Int) (l3 : Int) (l6 : Int) (s0 : Int) (s1 : Int) (s2 : Int) (s3 : Option Nat) (h : HP) : Option (Unit × HP) :=
  (xsI h s3 s2 (xor_ s1 s0)).bind fun h1 =>
  (xgP h1 (some l0) 6 15 4).bind fun v2 =>
  (xaI h1 v2 100 l6).bind fun v3 =>
  (xgI h1 (some l0) 6 15 10).bind fun v4 =>
  if v4 < v3 then
    some ((), h1)
  else
    (xgP h1 (some l0) 6 15 5).bind fun v6 =>
    (xaI h1 v6 100 l6).bind fun v7 =>
    (xgI h1 (some l0) 6 15 11).bind fun v8 =>
    if v8 < v7 then
      some ((), h1)
    else
      (xgP h1 (some l0) 6 15 1).bind fun v10 =>
      (xsI h1 v10 l2 l3).bind fun h11 =>
      (xrc h11 (some l0) 6 15).bind fun a14 =>
      xb (cl_search a14 l1 l6 h11) fun v12 h13 =>
      some ((), h13)
set_option maxRecDepth 100000 in
theorem SX6_attempt_L217 {dd : Nat} {K : Ctx} {F : Nat} {r : Unit} {hf : HP} (cl_attempt : Nat → Option Nat → Int → Int → HP → Option (Unit × HP)) (cl_search : Nat → Option Nat → Int → HP → Option (Unit × HP)) (hcl_attempt : ∀ a0 a1 a2 a3 h9 r9 f9, cl_attempt a0 a1 a2 a3 h9 = some (r9, f9) → Ok (MX6_attempt dd) [vr (some a0), vr a1, vi a2, vi a3] none h9 f9) (hcl_search : ∀ a0 a1 a2 h9 r9 f9, cl_search a0 a1 a2 h9 = some (r9, f9) → Ok (MX6_search dd) [vr (some a0), vr a1, vi a2] none h9 f9)   (l0 : Nat) (l1 : Option Nat) (l2 : Int) (l3 : Int) (l6 : Int) (s0 : Int) (s1 : Int) (s2 : Int) (s3 : Option Nat) (h : HP) (E : X6_attempt_L217 F cl_attempt cl_search  l0 l1 l2 l3 l6 s0 s1 s2 s3 h = some (r, hf)) : Go K (MX6_attempt (dd + 1)) (QM K none hf) hf 217 [(0, vr (some l0)), (1, vr l1), (2, vi l2), (3, vi l3), (6, vi l6)] [vi s0, vi s1, vi s2, vr s3] h := by
  unfold X6_attempt_L217 at E
  refine go_ior (n := 218) dX6_attempt_217 rfl ?_
  replace E := Option.bind_eq_some_iff.mp E; obtain ⟨h1, eh1, E⟩ := E
  refine go_iastore (n := 219) eh1 dX6_attempt_218 rfl ?_
  refine go_aload_n (j := 0) (n := 220) rfl rfl dX6_attempt_219 rfl ?_
  replace E := Option.bind_eq_some_iff.mp E; obtain ⟨v2, ev2, E⟩ := E
  refine go_getP (n := 223) ev2 fl_RX6_24 rfl dX6_attempt_220 rfl ?_
  refine go_iload (j := 4) (n := 225) rfl dX6_attempt_223 rfl ?_
  replace E := Option.bind_eq_some_iff.mp E; obtain ⟨v3, ev3, E⟩ := E
  refine go_iaload (n := 226) ev3 dX6_attempt_225 rfl ?_
  refine go_aload_n (j := 0) (n := 227) rfl rfl dX6_attempt_226 rfl ?_
  replace E := Option.bind_eq_some_iff.mp E; obtain ⟨v4, ev4, E⟩ := E
  refine go_getI (n := 230) ev4 fl_RX6_39 rfl dX6_attempt_227 rfl ?_
  refine go_icmp_gt (tgt := 261) (n := 233) dX6_attempt_230 rfl rfl (fun c5 => ?_) (fun c5 => ?_)
  · rw [if_pos c5] at E
    cases E
    exact go_return rfl dX6_attempt_261
  · rw [if_neg c5] at E
    refine go_aload_n (j := 0) (n := 234) rfl rfl dX6_attempt_233 rfl ?_
    replace E := Option.bind_eq_some_iff.mp E; obtain ⟨v6, ev6, E⟩ := E
    refine go_getP (n := 237) ev6 fl_RX6_27 rfl dX6_attempt_234 rfl ?_
    refine go_iload (j := 4) (n := 239) rfl dX6_attempt_237 rfl ?_
    replace E := Option.bind_eq_some_iff.mp E; obtain ⟨v7, ev7, E⟩ := E
    refine go_iaload (n := 240) ev7 dX6_attempt_239 rfl ?_
    refine go_aload_n (j := 0) (n := 241) rfl rfl dX6_attempt_240 rfl ?_
    replace E := Option.bind_eq_some_iff.mp E; obtain ⟨v8, ev8, E⟩ := E
    refine go_getI (n := 244) ev8 fl_RX6_43 rfl dX6_attempt_241 rfl ?_
    refine go_icmp_gt (tgt := 261) (n := 247) dX6_attempt_244 rfl rfl (fun c9 => ?_) (fun c9 => ?_)
    · rw [if_pos c9] at E
      cases E
      exact go_return rfl dX6_attempt_261
    · rw [if_neg c9] at E
      refine go_aload_n (j := 0) (n := 248) rfl rfl dX6_attempt_247 rfl ?_
      replace E := Option.bind_eq_some_iff.mp E; obtain ⟨v10, ev10, E⟩ := E
      refine go_getP (n := 251) ev10 fl_RX6_15 rfl dX6_attempt_248 rfl ?_
      refine go_iload_n (j := 2) (n := 252) rfl rfl dX6_attempt_251 rfl ?_
      refine go_iload_n (j := 3) (n := 253) rfl rfl dX6_attempt_252 rfl ?_
      replace E := Option.bind_eq_some_iff.mp E; obtain ⟨h11, eh11, E⟩ := E
      refine go_iastore (n := 254) eh11 dX6_attempt_253 rfl ?_
      refine go_aload_n (j := 0) (n := 255) rfl rfl dX6_attempt_254 rfl ?_
      refine go_aload_n (j := 1) (n := 256) rfl rfl dX6_attempt_255 rfl ?_
      refine go_iload (j := 4) (n := 258) rfl dX6_attempt_256 rfl ?_
      replace E := Option.bind_eq_some_iff.mp E; obtain ⟨a14, ea14, E⟩ := E
      obtain ⟨fa14, ga14⟩ := xrc_some ea14
      replace E := xb_some E; obtain ⟨v12, h13, ev12, E⟩ := E
      refine go_callV (y := yX6_search) (n := 261) (st := []) (as := [vr l1, vi l6]) (stk9 := []) (hcl_search _ _ _ _ _ _ ev12) yw_X6_search ci_6 ga14 wml_RX6_59 wim_X6_search wse_X6_search (Nat.le_of_ble_eq_true rfl) rfl (by first | exact ⟨Nat.le_of_ble_eq_true rfl, Nat.le_of_ble_eq_true rfl⟩ | (refine ⟨?_, ?_⟩ <;> simp only [MX6_attempt, MX6_search] <;> omega)) (Nat.le_of_ble_eq_true rfl) dX6_attempt_258 rfl (by cases fa14; rfl) rfl ?_
      cases E
      exact go_return rfl dX6_attempt_261
noncomputable def X6_attempt_L188 (F : Nat) (cl_attempt : Nat → Option Nat → Int → Int → HP → Option (Unit × HP)) (cl_search : Nat → Option Nat → Int → HP → Option (Unit × HP))  (l0 : Nat) (l1 : Option Nat) (l2 : Int) (l3 : Int) (l4 : Int) (l6 : Int) (l7 : Int) (s0 : Int) (s1 : Int) (s2 : Int) (s3 : Option Nat) (h : HP) : Option (Unit × HP) :=
  (xsI h s3 s2 (xor_ s1 s0)).bind fun h1 =>
  (xgP h1 (some l0) 6 15 7).bind fun v2 =>
  (xgP h1 (some l0) 6 15 7).bind fun v3 =>
  (xaI h1 v3 100 l2).bind fun v4 =>
  if l7 = 0 then
    (xrc h1 l1 3 7).bind fun a8 =>
    xb (X3_leansOf F a8 l4 h1) fun v6 h7 =>
    X6_attempt_L217 F cl_attempt cl_search l0 l1 l2 l3 l6 v6 v4 l6 v2 h7
  else
    X6_attempt_L217 F cl_attempt cl_search l0 l1 l2 l3 l6 0 v4 l6 v2 h1
set_option maxRecDepth 100000 in
theorem SX6_attempt_L188 {dd : Nat} {K : Ctx} {F : Nat} {r : Unit} {hf : HP} (cl_attempt : Nat → Option Nat → Int → Int → HP → Option (Unit × HP)) (cl_search : Nat → Option Nat → Int → HP → Option (Unit × HP)) (hcl_attempt : ∀ a0 a1 a2 a3 h9 r9 f9, cl_attempt a0 a1 a2 a3 h9 = some (r9, f9) → Ok (MX6_attempt dd) [vr (some a0), vr a1, vi a2, vi a3] none h9 f9) (hcl_search : ∀ a0 a1 a2 h9 r9 f9, cl_search a0 a1 a2 h9 = some (r9, f9) → Ok (MX6_search dd) [vr (some a0), vr a1, vi a2] none h9 f9)   (l0 : Nat) (l1 : Option Nat) (l2 : Int) (l3 : Int) (l4 : Int) (l6 : Int) (l7 : Int) (s0 : Int) (s1 : Int) (s2 : Int) (s3 : Option Nat) (h : HP) (E : X6_attempt_L188 F cl_attempt cl_search  l0 l1 l2 l3 l4 l6 l7 s0 s1 s2 s3 h = some (r, hf)) : Go K (MX6_attempt (dd + 1)) (QM K none hf) hf 188 [(0, vr (some l0)), (1, vr l1), (2, vi l2), (3, vi l3), (4, vi l4), (6, vi l6), (7, vi l7)] [vi s0, vi s1, vi s2, vr s3] h := by
  unfold X6_attempt_L188 at E
  refine go_ior (n := 189) dX6_attempt_188 rfl ?_
  replace E := Option.bind_eq_some_iff.mp E; obtain ⟨h1, eh1, E⟩ := E
  refine go_iastore (n := 190) eh1 dX6_attempt_189 rfl ?_
  refine go_aload_n (j := 0) (n := 191) rfl rfl dX6_attempt_190 rfl ?_
  replace E := Option.bind_eq_some_iff.mp E; obtain ⟨v2, ev2, E⟩ := E
  refine go_getP (n := 194) ev2 fl_RX6_33 rfl dX6_attempt_191 rfl ?_
  refine go_iload (j := 5) (n := 196) rfl dX6_attempt_194 rfl ?_
  refine go_aload_n (j := 0) (n := 197) rfl rfl dX6_attempt_196 rfl ?_
  replace E := Option.bind_eq_some_iff.mp E; obtain ⟨v3, ev3, E⟩ := E
  refine go_getP (n := 200) ev3 fl_RX6_33 rfl dX6_attempt_197 rfl ?_
  refine go_iload_n (j := 2) (n := 201) rfl rfl dX6_attempt_200 rfl ?_
  replace E := Option.bind_eq_some_iff.mp E; obtain ⟨v4, ev4, E⟩ := E
  refine go_iaload (n := 202) ev4 dX6_attempt_201 rfl ?_
  refine go_iload (j := 6) (n := 204) rfl dX6_attempt_202 rfl ?_
  refine go_if_eq (tgt := 211) (n := 207) dX6_attempt_204 rfl rfl (fun c5 => ?_) (fun c5 => ?_)
  · rw [if_pos c5] at E
    refine go_aload_n (j := 1) (n := 212) rfl rfl dX6_attempt_211 rfl ?_
    refine go_iload (j := 4) (n := 214) rfl dX6_attempt_212 rfl ?_
    replace E := Option.bind_eq_some_iff.mp E; obtain ⟨a8, ea8, E⟩ := E
    obtain ⟨fa8, ga8⟩ := xrc_some ea8
    replace E := xb_some E; obtain ⟨v6, h7, ev6, E⟩ := E
    refine go_callV (y := yX3_leansOf) (n := 217) (st := [vi v4, vi l6, vr v2]) (as := [vi l4]) (stk9 := [vi v6, vi v4, vi l6, vr v2]) (OX3_leansOf ev6) yw_X3_leansOf ci_3 ga8 wml_RX6_125 wim_X3_leansOf wse_X3_leansOf (Nat.le_of_ble_eq_true rfl) rfl (by first | exact ⟨Nat.le_of_ble_eq_true rfl, Nat.le_of_ble_eq_true rfl⟩ | (refine ⟨?_, ?_⟩ <;> simp only [MX6_attempt, MX6_search] <;> omega)) (Nat.le_of_ble_eq_true rfl) dX6_attempt_214 rfl (by cases fa8; rfl) rfl ?_
    refine go_pick (lv' := [(0, vr (some l0)), (1, vr l1), (2, vi l2), (3, vi l3), (6, vi l6)]) [0, 1, 2, 3, 5] rfl ?_
    exact SX6_attempt_L217 cl_attempt cl_search hcl_attempt hcl_search   _ _ _ _ _ _ _ _ _ _ E
  · rw [if_neg c5] at E
    refine go_iconst (z := 0) (n := 208) ⟨by decide, by decide⟩ dX6_attempt_207 rfl ?_
    refine go_goto (tgt := 217) dX6_attempt_208 rfl ?_
    refine go_pick (lv' := [(0, vr (some l0)), (1, vr l1), (2, vi l2), (3, vi l3), (6, vi l6)]) [0, 1, 2, 3, 5] rfl ?_
    exact SX6_attempt_L217 cl_attempt cl_search hcl_attempt hcl_search   _ _ _ _ _ _ _ _ _ _ E
noncomputable def X6_attempt_L161 (F : Nat) (cl_attempt : Nat → Option Nat → Int → Int → HP → Option (Unit × HP)) (cl_search : Nat → Option Nat → Int → HP → Option (Unit × HP))  (l0 : Nat) (l1 : Option Nat) (l2 : Int) (l3 : Int) (l4 : Int) (l6 : Int) (l7 : Int) (s0 : Int) (s1 : Int) (s2 : Int) (s3 : Option Nat) (h : HP) : Option (Unit × HP) :=
  (xsI h s3 s2 (w32 (s1 + s0))).bind fun h1 =>
  (xgP h1 (some l0) 6 15 6).bind fun v2 =>
  (xgP h1 (some l0) 6 15 6).bind fun v3 =>
  (xaI h1 v3 100 l2).bind fun v4 =>
  X6_attempt_L188 F cl_attempt cl_search l0 l1 l2 l3 l4 l6 l7 (if l7 = 0 then 0 else xshl 1 l4) v4 l6 v2 h1
set_option maxRecDepth 100000 in
theorem SX6_attempt_L161 {dd : Nat} {K : Ctx} {F : Nat} {r : Unit} {hf : HP} (cl_attempt : Nat → Option Nat → Int → Int → HP → Option (Unit × HP)) (cl_search : Nat → Option Nat → Int → HP → Option (Unit × HP)) (hcl_attempt : ∀ a0 a1 a2 a3 h9 r9 f9, cl_attempt a0 a1 a2 a3 h9 = some (r9, f9) → Ok (MX6_attempt dd) [vr (some a0), vr a1, vi a2, vi a3] none h9 f9) (hcl_search : ∀ a0 a1 a2 h9 r9 f9, cl_search a0 a1 a2 h9 = some (r9, f9) → Ok (MX6_search dd) [vr (some a0), vr a1, vi a2] none h9 f9)   (l0 : Nat) (l1 : Option Nat) (l2 : Int) (l3 : Int) (l4 : Int) (l6 : Int) (l7 : Int) (s0 : Int) (s1 : Int) (s2 : Int) (s3 : Option Nat) (h : HP) (E : X6_attempt_L161 F cl_attempt cl_search  l0 l1 l2 l3 l4 l6 l7 s0 s1 s2 s3 h = some (r, hf)) : Go K (MX6_attempt (dd + 1)) (QM K none hf) hf 161 [(0, vr (some l0)), (1, vr l1), (2, vi l2), (3, vi l3), (4, vi l4), (6, vi l6), (7, vi l7)] [vi s0, vi s1, vi s2, vr s3] h := by
  unfold X6_attempt_L161 at E
  refine go_iadd (n := 162) dX6_attempt_161 rfl ?_
  replace E := Option.bind_eq_some_iff.mp E; obtain ⟨h1, eh1, E⟩ := E
  refine go_iastore (n := 163) eh1 dX6_attempt_162 rfl ?_
  refine go_aload_n (j := 0) (n := 164) rfl rfl dX6_attempt_163 rfl ?_
  replace E := Option.bind_eq_some_iff.mp E; obtain ⟨v2, ev2, E⟩ := E
  refine go_getP (n := 167) ev2 fl_RX6_30 rfl dX6_attempt_164 rfl ?_
  refine go_iload (j := 5) (n := 169) rfl dX6_attempt_167 rfl ?_
  refine go_aload_n (j := 0) (n := 170) rfl rfl dX6_attempt_169 rfl ?_
  replace E := Option.bind_eq_some_iff.mp E; obtain ⟨v3, ev3, E⟩ := E
  refine go_getP (n := 173) ev3 fl_RX6_30 rfl dX6_attempt_170 rfl ?_
  refine go_iload_n (j := 2) (n := 174) rfl rfl dX6_attempt_173 rfl ?_
  replace E := Option.bind_eq_some_iff.mp E; obtain ⟨v4, ev4, E⟩ := E
  refine go_iaload (n := 175) ev4 dX6_attempt_174 rfl ?_
  refine go_iload (j := 6) (n := 177) rfl dX6_attempt_175 rfl ?_
  refine go_if_eq (tgt := 187) (n := 180) dX6_attempt_177 rfl rfl (fun c5 => ?_) (fun c5 => ?_)
  · simp only [if_pos c5] at E
    refine go_iconst (z := 0) (n := 188) ⟨by decide, by decide⟩ dX6_attempt_187 rfl ?_
    exact SX6_attempt_L188 cl_attempt cl_search hcl_attempt hcl_search   _ _ _ _ _ _ _ _ _ _ _ _ E
  · simp only [if_neg c5] at E
    refine go_iconst (z := 1) (n := 181) ⟨by decide, by decide⟩ dX6_attempt_180 rfl ?_
    refine go_iload (j := 4) (n := 183) rfl dX6_attempt_181 rfl ?_
    refine go_ishl (n := 184) dX6_attempt_183 rfl ?_
    refine go_goto (tgt := 188) dX6_attempt_184 rfl ?_
    exact SX6_attempt_L188 cl_attempt cl_search hcl_attempt hcl_search   _ _ _ _ _ _ _ _ _ _ _ _ E
noncomputable def X6_attempt_L133 (F : Nat) (cl_attempt : Nat → Option Nat → Int → Int → HP → Option (Unit × HP)) (cl_search : Nat → Option Nat → Int → HP → Option (Unit × HP))  (l0 : Nat) (l1 : Option Nat) (l2 : Int) (l3 : Int) (l4 : Int) (l5 : Option Nat) (l6 : Int) (l7 : Int) (s0 : Int) (s1 : Int) (s2 : Int) (s3 : Option Nat) (h : HP) : Option (Unit × HP) :=
  (xsI h s3 s2 (w32 (s1 + s0))).bind fun h1 =>
  (xgP h1 (some l0) 6 15 5).bind fun v2 =>
  (xgP h1 (some l0) 6 15 5).bind fun v3 =>
  (xaI h1 v3 100 l2).bind fun v4 =>
  if l3 = 2 then
    (xgI h1 l5 2 18 2).bind fun v6 =>
    X6_attempt_L161 F cl_attempt cl_search l0 l1 l2 l3 l4 l6 l7 v6 v4 l6 v2 h1
  else
    X6_attempt_L161 F cl_attempt cl_search l0 l1 l2 l3 l4 l6 l7 0 v4 l6 v2 h1
set_option maxRecDepth 100000 in
theorem SX6_attempt_L133 {dd : Nat} {K : Ctx} {F : Nat} {r : Unit} {hf : HP} (cl_attempt : Nat → Option Nat → Int → Int → HP → Option (Unit × HP)) (cl_search : Nat → Option Nat → Int → HP → Option (Unit × HP)) (hcl_attempt : ∀ a0 a1 a2 a3 h9 r9 f9, cl_attempt a0 a1 a2 a3 h9 = some (r9, f9) → Ok (MX6_attempt dd) [vr (some a0), vr a1, vi a2, vi a3] none h9 f9) (hcl_search : ∀ a0 a1 a2 h9 r9 f9, cl_search a0 a1 a2 h9 = some (r9, f9) → Ok (MX6_search dd) [vr (some a0), vr a1, vi a2] none h9 f9)   (l0 : Nat) (l1 : Option Nat) (l2 : Int) (l3 : Int) (l4 : Int) (l5 : Option Nat) (l6 : Int) (l7 : Int) (s0 : Int) (s1 : Int) (s2 : Int) (s3 : Option Nat) (h : HP) (E : X6_attempt_L133 F cl_attempt cl_search  l0 l1 l2 l3 l4 l5 l6 l7 s0 s1 s2 s3 h = some (r, hf)) : Go K (MX6_attempt (dd + 1)) (QM K none hf) hf 133 [(0, vr (some l0)), (1, vr l1), (2, vi l2), (3, vi l3), (4, vi l4), (5, vr l5), (6, vi l6), (7, vi l7)] [vi s0, vi s1, vi s2, vr s3] h := by
  unfold X6_attempt_L133 at E
  refine go_iadd (n := 134) dX6_attempt_133 rfl ?_
  replace E := Option.bind_eq_some_iff.mp E; obtain ⟨h1, eh1, E⟩ := E
  refine go_iastore (n := 135) eh1 dX6_attempt_134 rfl ?_
  refine go_aload_n (j := 0) (n := 136) rfl rfl dX6_attempt_135 rfl ?_
  replace E := Option.bind_eq_some_iff.mp E; obtain ⟨v2, ev2, E⟩ := E
  refine go_getP (n := 139) ev2 fl_RX6_27 rfl dX6_attempt_136 rfl ?_
  refine go_iload (j := 6) (n := 141) rfl dX6_attempt_139 rfl ?_
  refine go_aload_n (j := 0) (n := 142) rfl rfl dX6_attempt_141 rfl ?_
  replace E := Option.bind_eq_some_iff.mp E; obtain ⟨v3, ev3, E⟩ := E
  refine go_getP (n := 145) ev3 fl_RX6_27 rfl dX6_attempt_142 rfl ?_
  refine go_iload_n (j := 2) (n := 146) rfl rfl dX6_attempt_145 rfl ?_
  replace E := Option.bind_eq_some_iff.mp E; obtain ⟨v4, ev4, E⟩ := E
  refine go_iaload (n := 147) ev4 dX6_attempt_146 rfl ?_
  refine go_iload_n (j := 3) (n := 148) rfl rfl dX6_attempt_147 rfl ?_
  refine go_iconst (z := 2) (n := 149) ⟨by decide, by decide⟩ dX6_attempt_148 rfl ?_
  refine go_icmp_ne (tgt := 160) (n := 152) dX6_attempt_149 rfl rfl (fun c5 => ?_) (fun c5 => ?_)
  · rw [if_neg c5] at E
    refine go_iconst (z := 0) (n := 161) ⟨by decide, by decide⟩ dX6_attempt_160 rfl ?_
    refine go_pick (lv' := [(0, vr (some l0)), (1, vr l1), (2, vi l2), (3, vi l3), (4, vi l4), (6, vi l6), (7, vi l7)]) [0, 1, 2, 3, 4, 6, 7] rfl ?_
    exact SX6_attempt_L161 cl_attempt cl_search hcl_attempt hcl_search   _ _ _ _ _ _ _ _ _ _ _ _ E
  · rw [if_pos c5] at E
    refine go_aload (j := 5) (n := 154) rfl dX6_attempt_152 rfl ?_
    replace E := Option.bind_eq_some_iff.mp E; obtain ⟨v6, ev6, E⟩ := E
    refine go_getI (n := 157) ev6 fl_RX6_122 rfl dX6_attempt_154 rfl ?_
    refine go_goto (tgt := 161) dX6_attempt_157 rfl ?_
    refine go_pick (lv' := [(0, vr (some l0)), (1, vr l1), (2, vi l2), (3, vi l3), (4, vi l4), (6, vi l6), (7, vi l7)]) [0, 1, 2, 3, 4, 6, 7] rfl ?_
    exact SX6_attempt_L161 cl_attempt cl_search hcl_attempt hcl_search   _ _ _ _ _ _ _ _ _ _ _ _ E
noncomputable def X6_attempt_L93 (F : Nat) (cl_attempt : Nat → Option Nat → Int → Int → HP → Option (Unit × HP)) (cl_search : Nat → Option Nat → Int → HP → Option (Unit × HP))  (l0 : Nat) (l1 : Option Nat) (l2 : Int) (l3 : Int) (l4 : Int) (l5 : Option Nat) (l6 : Int) (l7 : Int) (s0 : Int) (s1 : Int) (s2 : Int) (s3 : Option Nat) (h : HP) : Option (Unit × HP) :=
  (xsI h s3 s2 (w32 (s1 + s0))).bind fun h1 =>
  (xgP h1 (some l0) 6 15 4).bind fun v2 =>
  (xgP h1 (some l0) 6 15 4).bind fun v3 =>
  (xaI h1 v3 100 l2).bind fun v4 =>
  if l3 = 0 then
    (xgI h1 l5 2 18 0).bind fun v8 =>
    X6_attempt_L133 F cl_attempt cl_search l0 l1 l2 l3 l4 l5 l6 l7 v8 v4 l6 v2 h1
  else
    if l3 = 1 then
      (xgI h1 l5 2 18 6).bind fun v7 =>
      X6_attempt_L133 F cl_attempt cl_search l0 l1 l2 l3 l4 l5 l6 l7 v7 v4 l6 v2 h1
    else
      X6_attempt_L133 F cl_attempt cl_search l0 l1 l2 l3 l4 l5 l6 l7 0 v4 l6 v2 h1
set_option maxRecDepth 100000 in
theorem SX6_attempt_L93 {dd : Nat} {K : Ctx} {F : Nat} {r : Unit} {hf : HP} (cl_attempt : Nat → Option Nat → Int → Int → HP → Option (Unit × HP)) (cl_search : Nat → Option Nat → Int → HP → Option (Unit × HP)) (hcl_attempt : ∀ a0 a1 a2 a3 h9 r9 f9, cl_attempt a0 a1 a2 a3 h9 = some (r9, f9) → Ok (MX6_attempt dd) [vr (some a0), vr a1, vi a2, vi a3] none h9 f9) (hcl_search : ∀ a0 a1 a2 h9 r9 f9, cl_search a0 a1 a2 h9 = some (r9, f9) → Ok (MX6_search dd) [vr (some a0), vr a1, vi a2] none h9 f9)   (l0 : Nat) (l1 : Option Nat) (l2 : Int) (l3 : Int) (l4 : Int) (l5 : Option Nat) (l6 : Int) (l7 : Int) (s0 : Int) (s1 : Int) (s2 : Int) (s3 : Option Nat) (h : HP) (E : X6_attempt_L93 F cl_attempt cl_search  l0 l1 l2 l3 l4 l5 l6 l7 s0 s1 s2 s3 h = some (r, hf)) : Go K (MX6_attempt (dd + 1)) (QM K none hf) hf 93 [(0, vr (some l0)), (1, vr l1), (2, vi l2), (3, vi l3), (4, vi l4), (5, vr l5), (6, vi l6), (7, vi l7)] [vi s0, vi s1, vi s2, vr s3] h := by
  unfold X6_attempt_L93 at E
  refine go_iadd (n := 94) dX6_attempt_93 rfl ?_
  replace E := Option.bind_eq_some_iff.mp E; obtain ⟨h1, eh1, E⟩ := E
  refine go_iastore (n := 95) eh1 dX6_attempt_94 rfl ?_
  refine go_aload_n (j := 0) (n := 96) rfl rfl dX6_attempt_95 rfl ?_
  replace E := Option.bind_eq_some_iff.mp E; obtain ⟨v2, ev2, E⟩ := E
  refine go_getP (n := 99) ev2 fl_RX6_24 rfl dX6_attempt_96 rfl ?_
  refine go_iload (j := 6) (n := 101) rfl dX6_attempt_99 rfl ?_
  refine go_aload_n (j := 0) (n := 102) rfl rfl dX6_attempt_101 rfl ?_
  replace E := Option.bind_eq_some_iff.mp E; obtain ⟨v3, ev3, E⟩ := E
  refine go_getP (n := 105) ev3 fl_RX6_24 rfl dX6_attempt_102 rfl ?_
  refine go_iload_n (j := 2) (n := 106) rfl rfl dX6_attempt_105 rfl ?_
  replace E := Option.bind_eq_some_iff.mp E; obtain ⟨v4, ev4, E⟩ := E
  refine go_iaload (n := 107) ev4 dX6_attempt_106 rfl ?_
  refine go_iload_n (j := 3) (n := 108) rfl rfl dX6_attempt_107 rfl ?_
  refine go_if_ne (tgt := 119) (n := 111) dX6_attempt_108 rfl rfl (fun c5 => ?_) (fun c5 => ?_)
  · rw [if_neg c5] at E
    refine go_iload_n (j := 3) (n := 120) rfl rfl dX6_attempt_119 rfl ?_
    refine go_iconst (z := 1) (n := 121) ⟨by decide, by decide⟩ dX6_attempt_120 rfl ?_
    refine go_icmp_ne (tgt := 132) (n := 124) dX6_attempt_121 rfl rfl (fun c6 => ?_) (fun c6 => ?_)
    · rw [if_neg c6] at E
      refine go_iconst (z := 0) (n := 133) ⟨by decide, by decide⟩ dX6_attempt_132 rfl ?_
      exact SX6_attempt_L133 cl_attempt cl_search hcl_attempt hcl_search   _ _ _ _ _ _ _ _ _ _ _ _ _ E
    · rw [if_pos c6] at E
      refine go_aload (j := 5) (n := 126) rfl dX6_attempt_124 rfl ?_
      replace E := Option.bind_eq_some_iff.mp E; obtain ⟨v7, ev7, E⟩ := E
      refine go_getI (n := 129) ev7 fl_RX6_119 rfl dX6_attempt_126 rfl ?_
      refine go_goto (tgt := 133) dX6_attempt_129 rfl ?_
      exact SX6_attempt_L133 cl_attempt cl_search hcl_attempt hcl_search   _ _ _ _ _ _ _ _ _ _ _ _ _ E
  · rw [if_pos c5] at E
    refine go_aload (j := 5) (n := 113) rfl dX6_attempt_111 rfl ?_
    replace E := Option.bind_eq_some_iff.mp E; obtain ⟨v8, ev8, E⟩ := E
    refine go_getI (n := 116) ev8 fl_RX6_116 rfl dX6_attempt_113 rfl ?_
    refine go_goto (tgt := 133) dX6_attempt_116 rfl ?_
    exact SX6_attempt_L133 cl_attempt cl_search hcl_attempt hcl_search   _ _ _ _ _ _ _ _ _ _ _ _ _ E
noncomputable def X6_attempt_L52 (F : Nat) (cl_attempt : Nat → Option Nat → Int → Int → HP → Option (Unit × HP)) (cl_search : Nat → Option Nat → Int → HP → Option (Unit × HP))  (l0 : Nat) (l1 : Option Nat) (l2 : Int) (l3 : Int) (l4 : Int) (l5 : Option Nat) (l6 : Int) (s0 : Int) (h : HP) : Option (Unit × HP) :=
  (xgP h (some l0) 6 15 3).bind fun v1 =>
  (xgP h (some l0) 6 15 3).bind fun v2 =>
  (xaI h v2 100 l2).bind fun v3 =>
  if s0 = 0 then
    if l3 = 1 then
      (xgI h l5 2 18 7).bind fun v7 =>
      X6_attempt_L93 F cl_attempt cl_search l0 l1 l2 l3 l4 l5 l6 s0 v7 v3 l6 v1 h
    else
      (xgI h l5 2 18 1).bind fun v6 =>
      X6_attempt_L93 F cl_attempt cl_search l0 l1 l2 l3 l4 l5 l6 s0 v6 v3 l6 v1 h
  else
    X6_attempt_L93 F cl_attempt cl_search l0 l1 l2 l3 l4 l5 l6 s0 0 v3 l6 v1 h
set_option maxRecDepth 100000 in
theorem SX6_attempt_L52 {dd : Nat} {K : Ctx} {F : Nat} {r : Unit} {hf : HP} (cl_attempt : Nat → Option Nat → Int → Int → HP → Option (Unit × HP)) (cl_search : Nat → Option Nat → Int → HP → Option (Unit × HP)) (hcl_attempt : ∀ a0 a1 a2 a3 h9 r9 f9, cl_attempt a0 a1 a2 a3 h9 = some (r9, f9) → Ok (MX6_attempt dd) [vr (some a0), vr a1, vi a2, vi a3] none h9 f9) (hcl_search : ∀ a0 a1 a2 h9 r9 f9, cl_search a0 a1 a2 h9 = some (r9, f9) → Ok (MX6_search dd) [vr (some a0), vr a1, vi a2] none h9 f9)   (l0 : Nat) (l1 : Option Nat) (l2 : Int) (l3 : Int) (l4 : Int) (l5 : Option Nat) (l6 : Int) (s0 : Int) (h : HP) (E : X6_attempt_L52 F cl_attempt cl_search  l0 l1 l2 l3 l4 l5 l6 s0 h = some (r, hf)) : Go K (MX6_attempt (dd + 1)) (QM K none hf) hf 52 [(0, vr (some l0)), (1, vr l1), (2, vi l2), (3, vi l3), (4, vi l4), (5, vr l5), (6, vi l6)] [vi s0] h := by
  unfold X6_attempt_L52 at E
  refine go_istore (n := 54) (lv' := [(7, vi s0), (0, vr (some l0)), (1, vr l1), (2, vi l2), (3, vi l3), (4, vi l4), (5, vr l5), (6, vi l6)]) dX6_attempt_52 rfl (Nat.le_of_ble_eq_true rfl) rfl ?_
  refine go_aload_n (j := 1) (n := 55) rfl rfl dX6_attempt_54 rfl ?_
  replace E := Option.bind_eq_some_iff.mp E; obtain ⟨v1, ev1, E⟩ := E
  refine go_getP (n := 58) ev1 fl_RX6_21 rfl dX6_attempt_55 rfl ?_
  refine go_iload (j := 7) (n := 60) rfl dX6_attempt_58 rfl ?_
  refine go_aload_n (j := 1) (n := 61) rfl rfl dX6_attempt_60 rfl ?_
  replace E := Option.bind_eq_some_iff.mp E; obtain ⟨v2, ev2, E⟩ := E
  refine go_getP (n := 64) ev2 fl_RX6_21 rfl dX6_attempt_61 rfl ?_
  refine go_iload_n (j := 3) (n := 65) rfl rfl dX6_attempt_64 rfl ?_
  replace E := Option.bind_eq_some_iff.mp E; obtain ⟨v3, ev3, E⟩ := E
  refine go_iaload (n := 66) ev3 dX6_attempt_65 rfl ?_
  refine go_iload (j := 0) (n := 68) rfl dX6_attempt_66 rfl ?_
  refine go_if_eq (tgt := 75) (n := 71) dX6_attempt_68 rfl rfl (fun c4 => ?_) (fun c4 => ?_)
  · rw [if_pos c4] at E
    refine go_iload_n (j := 4) (n := 76) rfl rfl dX6_attempt_75 rfl ?_
    refine go_iconst (z := 1) (n := 77) ⟨by decide, by decide⟩ dX6_attempt_76 rfl ?_
    refine go_icmp_ne (tgt := 88) (n := 80) dX6_attempt_77 rfl rfl (fun c5 => ?_) (fun c5 => ?_)
    · rw [if_neg c5] at E
      refine go_aload (j := 6) (n := 90) rfl dX6_attempt_88 rfl ?_
      replace E := Option.bind_eq_some_iff.mp E; obtain ⟨v6, ev6, E⟩ := E
      refine go_getI (n := 93) ev6 fl_RX6_86 rfl dX6_attempt_90 rfl ?_
      refine go_pick (lv' := [(0, vr (some l0)), (1, vr l1), (2, vi l2), (3, vi l3), (4, vi l4), (5, vr l5), (6, vi l6), (7, vi s0)]) [1, 2, 3, 4, 5, 6, 7, 0] rfl ?_
      exact SX6_attempt_L93 cl_attempt cl_search hcl_attempt hcl_search   _ _ _ _ _ _ _ _ _ _ _ _ _ E
    · rw [if_pos c5] at E
      refine go_aload (j := 6) (n := 82) rfl dX6_attempt_80 rfl ?_
      replace E := Option.bind_eq_some_iff.mp E; obtain ⟨v7, ev7, E⟩ := E
      refine go_getI (n := 85) ev7 fl_RX6_89 rfl dX6_attempt_82 rfl ?_
      refine go_goto (tgt := 93) dX6_attempt_85 rfl ?_
      refine go_pick (lv' := [(0, vr (some l0)), (1, vr l1), (2, vi l2), (3, vi l3), (4, vi l4), (5, vr l5), (6, vi l6), (7, vi s0)]) [1, 2, 3, 4, 5, 6, 7, 0] rfl ?_
      exact SX6_attempt_L93 cl_attempt cl_search hcl_attempt hcl_search   _ _ _ _ _ _ _ _ _ _ _ _ _ E
  · rw [if_neg c4] at E
    refine go_iconst (z := 0) (n := 72) ⟨by decide, by decide⟩ dX6_attempt_71 rfl ?_
    refine go_goto (tgt := 93) dX6_attempt_72 rfl ?_
    refine go_pick (lv' := [(0, vr (some l0)), (1, vr l1), (2, vi l2), (3, vi l3), (4, vi l4), (5, vr l5), (6, vi l6), (7, vi s0)]) [1, 2, 3, 4, 5, 6, 7, 0] rfl ?_
    exact SX6_attempt_L93 cl_attempt cl_search hcl_attempt hcl_search   _ _ _ _ _ _ _ _ _ _ _ _ _ E
noncomputable def X6_attempt (F : Nat) (cl_attempt : Nat → Option Nat → Int → Int → HP → Option (Unit × HP)) (cl_search : Nat → Option Nat → Int → HP → Option (Unit × HP))  (l0 : Nat) (l1 : Option Nat) (l2 : Int) (l3 : Int)  (h : HP) : Option (Unit × HP) :=
  if l2 < 0 then
    some ((), h)
  else
    if 7 ≤ l2 then
      some ((), h)
    else
      (xrc h (some l0) 6 15).bind fun a5 =>
      xb (X6_mayHave F a5 l1 l2 l3 h) fun v3 h4 =>
      if v3 = 0 then
        some ((), h4)
      else
        (xgP h4 (some l0) 6 15 0).bind fun v7 =>
        (xaI h4 v7 100 l2).bind fun v8 =>
        (xrc h4 l1 3 7).bind fun a11 =>
        xb (X3_at F a11 v8 h4) fun v9 h10 =>
        X6_attempt_L52 F cl_attempt cl_search l0 l1 l2 l3 v8 v9 (w32 (l2 + 1)) (if l3 = 3 then 1 else 0) h10
set_option maxRecDepth 100000 in
theorem SX6_attempt {dd : Nat} {K : Ctx} {F : Nat} {r : Unit} {hf : HP} (cl_attempt : Nat → Option Nat → Int → Int → HP → Option (Unit × HP)) (cl_search : Nat → Option Nat → Int → HP → Option (Unit × HP)) (hcl_attempt : ∀ a0 a1 a2 a3 h9 r9 f9, cl_attempt a0 a1 a2 a3 h9 = some (r9, f9) → Ok (MX6_attempt dd) [vr (some a0), vr a1, vi a2, vi a3] none h9 f9) (hcl_search : ∀ a0 a1 a2 h9 r9 f9, cl_search a0 a1 a2 h9 = some (r9, f9) → Ok (MX6_search dd) [vr (some a0), vr a1, vi a2] none h9 f9)   (l0 : Nat) (l1 : Option Nat) (l2 : Int) (l3 : Int)  (h : HP) (E : X6_attempt F cl_attempt cl_search  l0 l1 l2 l3 h = some (r, hf)) : Go K (MX6_attempt (dd + 1)) (QM K none hf) hf 0 [(0, vr (some l0)), (1, vr l1), (2, vi l2), (3, vi l3)] [] h := by
  unfold X6_attempt at E
  refine go_iload_n (j := 2) (n := 1) rfl rfl dX6_attempt_0 rfl ?_
  refine go_if_lt (tgt := 20) (n := 4) dX6_attempt_1 rfl rfl (fun c1 => ?_) (fun c1 => ?_)
  · rw [if_pos c1] at E
    cases E
    exact go_return rfl dX6_attempt_20
  · rw [if_neg c1] at E
    refine go_iload_n (j := 2) (n := 5) rfl rfl dX6_attempt_4 rfl ?_
    refine go_bipush (z := 7) (n := 7) ⟨by decide, by decide⟩ dX6_attempt_5 rfl ?_
    refine go_icmp_ge (tgt := 20) (n := 10) dX6_attempt_7 rfl rfl (fun c2 => ?_) (fun c2 => ?_)
    · rw [if_pos c2] at E
      cases E
      exact go_return rfl dX6_attempt_20
    · rw [if_neg c2] at E
      refine go_aload_n (j := 0) (n := 11) rfl rfl dX6_attempt_10 rfl ?_
      refine go_aload_n (j := 1) (n := 12) rfl rfl dX6_attempt_11 rfl ?_
      refine go_iload_n (j := 2) (n := 13) rfl rfl dX6_attempt_12 rfl ?_
      refine go_iload_n (j := 3) (n := 14) rfl rfl dX6_attempt_13 rfl ?_
      replace E := Option.bind_eq_some_iff.mp E; obtain ⟨a5, ea5, E⟩ := E
      obtain ⟨fa5, ga5⟩ := xrc_some ea5
      replace E := xb_some E; obtain ⟨v3, h4, ev3, E⟩ := E
      refine go_callV (y := yX6_mayHave) (n := 17) (st := []) (as := [vr l1, vi l2, vi l3]) (stk9 := [vi v3]) (OX6_mayHave ev3) yw_X6_mayHave ci_6 ga5 wml_RX6_112 wim_X6_mayHave wse_X6_mayHave (Nat.le_of_ble_eq_true rfl) rfl (by first | exact ⟨Nat.le_of_ble_eq_true rfl, Nat.le_of_ble_eq_true rfl⟩ | (refine ⟨?_, ?_⟩ <;> simp only [MX6_attempt, MX6_search] <;> omega)) (Nat.le_of_ble_eq_true rfl) dX6_attempt_14 rfl (by cases fa5; rfl) rfl ?_
      refine go_if_ne (tgt := 21) (n := 20) dX6_attempt_17 rfl rfl (fun c6 => ?_) (fun c6 => ?_)
      · rw [if_neg c6] at E
        refine go_aload_n (j := 0) (n := 22) rfl rfl dX6_attempt_21 rfl ?_
        replace E := Option.bind_eq_some_iff.mp E; obtain ⟨v7, ev7, E⟩ := E
        refine go_getP (n := 25) ev7 fl_RX6_9 rfl dX6_attempt_22 rfl ?_
        refine go_iload_n (j := 2) (n := 26) rfl rfl dX6_attempt_25 rfl ?_
        replace E := Option.bind_eq_some_iff.mp E; obtain ⟨v8, ev8, E⟩ := E
        refine go_iaload (n := 27) ev8 dX6_attempt_26 rfl ?_
        refine go_istore (n := 29) (lv' := [(4, vi v8), (0, vr (some l0)), (1, vr l1), (2, vi l2), (3, vi l3)]) dX6_attempt_27 rfl (Nat.le_of_ble_eq_true rfl) rfl ?_
        refine go_aload_n (j := 2) (n := 30) rfl rfl dX6_attempt_29 rfl ?_
        refine go_iload (j := 0) (n := 32) rfl dX6_attempt_30 rfl ?_
        replace E := Option.bind_eq_some_iff.mp E; obtain ⟨a11, ea11, E⟩ := E
        obtain ⟨fa11, ga11⟩ := xrc_some ea11
        replace E := xb_some E; obtain ⟨v9, h10, ev9, E⟩ := E
        refine go_callV (y := yX3_at) (n := 35) (st := []) (as := [vi v8]) (stk9 := [vr v9]) (OX3_at ev9) yw_X3_at ci_3 ga11 wml_RX6_69 wim_X3_at wse_X3_at (Nat.le_of_ble_eq_true rfl) rfl (by first | exact ⟨Nat.le_of_ble_eq_true rfl, Nat.le_of_ble_eq_true rfl⟩ | (refine ⟨?_, ?_⟩ <;> simp only [MX6_attempt, MX6_search] <;> omega)) (Nat.le_of_ble_eq_true rfl) dX6_attempt_32 rfl (by cases fa11; rfl) rfl ?_
        refine go_astore (n := 37) (lv' := [(5, vr v9), (4, vi v8), (0, vr (some l0)), (1, vr l1), (2, vi l2), (3, vi l3)]) dX6_attempt_35 rfl (Nat.le_of_ble_eq_true rfl) rfl ?_
        refine go_iload_n (j := 4) (n := 38) rfl rfl dX6_attempt_37 rfl ?_
        refine go_iconst (z := 1) (n := 39) ⟨by decide, by decide⟩ dX6_attempt_38 rfl ?_
        refine go_iadd (n := 40) dX6_attempt_39 rfl ?_
        refine go_istore (n := 42) (lv' := [(6, vi (w32 (l2 + 1))), (5, vr v9), (4, vi v8), (0, vr (some l0)), (1, vr l1), (2, vi l2), (3, vi l3)]) dX6_attempt_40 rfl (Nat.le_of_ble_eq_true rfl) rfl ?_
        refine go_iload_n (j := 6) (n := 43) rfl rfl dX6_attempt_42 rfl ?_
        refine go_iconst (z := 3) (n := 44) ⟨by decide, by decide⟩ dX6_attempt_43 rfl ?_
        refine go_icmp_ne (tgt := 51) (n := 47) dX6_attempt_44 rfl rfl (fun c12 => ?_) (fun c12 => ?_)
        · simp only [if_neg c12] at E
          refine go_iconst (z := 0) (n := 52) ⟨by decide, by decide⟩ dX6_attempt_51 rfl ?_
          refine go_pick (lv' := [(0, vr (some l0)), (1, vr l1), (2, vi l2), (3, vi l3), (4, vi v8), (5, vr v9), (6, vi (w32 (l2 + 1)))]) [3, 4, 5, 6, 2, 1, 0] rfl ?_
          exact SX6_attempt_L52 cl_attempt cl_search hcl_attempt hcl_search   _ _ _ _ _ _ _ _ _ E
        · simp only [if_pos c12] at E
          refine go_iconst (z := 1) (n := 48) ⟨by decide, by decide⟩ dX6_attempt_47 rfl ?_
          refine go_goto (tgt := 52) dX6_attempt_48 rfl ?_
          refine go_pick (lv' := [(0, vr (some l0)), (1, vr l1), (2, vi l2), (3, vi l3), (4, vi v8), (5, vr v9), (6, vi (w32 (l2 + 1)))]) [3, 4, 5, 6, 2, 1, 0] rfl ?_
          exact SX6_attempt_L52 cl_attempt cl_search hcl_attempt hcl_search   _ _ _ _ _ _ _ _ _ E
      · rw [if_pos c6] at E
        cases E
        exact go_return rfl dX6_attempt_20
theorem yw_X6_isBetter : YW yX6_isBetter cX6_isBetter 4 (some .boolean) 3 := ⟨bw_of 1706 (by decide +kernel) rfl, bw_of 128 (by decide +kernel) rfl, ⟨by decide +kernel, by decide +kernel, by decide +kernel⟩, by decide +kernel⟩
theorem wml_RX6_98 : Cond.methodLink RX6 98 yX6_isBetter ∈ BW := bw_of 1703 (by decide +kernel) rfl
theorem wim_X6_isBetter : Cond.instanceMethod yX6_isBetter ∈ BW := bw_of 1705 (by decide +kernel) rfl
theorem wse_X6_isBetter : Cond.selects RX6 yX6_isBetter yX6_isBetter ∈ BW := bw_of 54 (by decide +kernel) rfl
theorem fl_RX6_18 : FL RX6 18 6 15 2 true := ⟨RX6, TX6, ci_6, by decide, bw_of 572 (by decide +kernel) rfl, rfl, rfl⟩
theorem wml_RX6_102 : Cond.methodLink RX6 102 arraycopyName ∈ BW := bw_of 1707 (by decide +kernel) rfl
theorem yw_X6_attempt : YW yX6_attempt cX6_attempt 8 none 3 := ⟨bw_of 1711 (by decide +kernel) rfl, bw_of 128 (by decide +kernel) rfl, ⟨by decide +kernel, by decide +kernel, by decide +kernel⟩, by decide +kernel⟩
theorem wml_RX6_108 : Cond.methodLink RX6 108 yX6_attempt ∈ BW := bw_of 1708 (by decide +kernel) rfl
theorem wim_X6_attempt : Cond.instanceMethod yX6_attempt ∈ BW := bw_of 1710 (by decide +kernel) rfl
theorem wse_X6_attempt : Cond.selects RX6 yX6_attempt yX6_attempt ∈ BW := bw_of 55 (by decide +kernel) rfl
noncomputable def X6_search_L57 (F : Nat) (cl_attempt : Nat → Option Nat → Int → Int → HP → Option (Unit × HP)) (cl_search : Nat → Option Nat → Int → HP → Option (Unit × HP))  (l0 : Nat) (l2 : Int)  (h : HP) : Option (Unit × HP) :=
  (xgP h (some l0) 6 15 3).bind fun v1 =>
  (xaI h v1 100 l2).bind fun v2 =>
  (xpI h (some l0) 6 15 12 v2).bind fun h3 =>
  (xgP h3 (some l0) 6 15 4).bind fun v4 =>
  (xaI h3 v4 100 l2).bind fun v5 =>
  (xpI h3 (some l0) 6 15 13 v5).bind fun h6 =>
  (xgP h6 (some l0) 6 15 5).bind fun v7 =>
  (xaI h6 v7 100 l2).bind fun v8 =>
  (xpI h6 (some l0) 6 15 14 v8).bind fun h9 =>
  (xgP h9 (some l0) 6 15 1).bind fun v10 =>
  (xgP h9 (some l0) 6 15 2).bind fun v11 =>
  (xcp h9 v10 0 v11 0 7).bind fun h12 =>
  some ((), h12)
set_option maxRecDepth 100000 in
theorem SX6_search_L57 {dd : Nat} {K : Ctx} {F : Nat} {r : Unit} {hf : HP} (cl_attempt : Nat → Option Nat → Int → Int → HP → Option (Unit × HP)) (cl_search : Nat → Option Nat → Int → HP → Option (Unit × HP)) (hcl_attempt : ∀ a0 a1 a2 a3 h9 r9 f9, cl_attempt a0 a1 a2 a3 h9 = some (r9, f9) → Ok (MX6_attempt dd) [vr (some a0), vr a1, vi a2, vi a3] none h9 f9) (hcl_search : ∀ a0 a1 a2 h9 r9 f9, cl_search a0 a1 a2 h9 = some (r9, f9) → Ok (MX6_search dd) [vr (some a0), vr a1, vi a2] none h9 f9)   (l0 : Nat) (l2 : Int)  (h : HP) (E : X6_search_L57 F cl_attempt cl_search  l0 l2 h = some (r, hf)) : Go K (MX6_search (dd + 1)) (QM K none hf) hf 57 [(0, vr (some l0)), (2, vi l2)] [] h := by
  unfold X6_search_L57 at E
  refine go_aload_n (j := 0) (n := 58) rfl rfl dX6_search_57 rfl ?_
  refine go_aload_n (j := 0) (n := 59) rfl rfl dX6_search_58 rfl ?_
  replace E := Option.bind_eq_some_iff.mp E; obtain ⟨v1, ev1, E⟩ := E
  refine go_getP (n := 62) ev1 fl_RX6_21 rfl dX6_search_59 rfl ?_
  refine go_iload_n (j := 1) (n := 63) rfl rfl dX6_search_62 rfl ?_
  replace E := Option.bind_eq_some_iff.mp E; obtain ⟨v2, ev2, E⟩ := E
  refine go_iaload (n := 64) ev2 dX6_search_63 rfl ?_
  replace E := Option.bind_eq_some_iff.mp E; obtain ⟨h3, eh3, E⟩ := E
  refine go_putI (n := 67) eh3 fl_RX6_46 rfl dX6_search_64 rfl ?_
  refine go_aload_n (j := 0) (n := 68) rfl rfl dX6_search_67 rfl ?_
  refine go_aload_n (j := 0) (n := 69) rfl rfl dX6_search_68 rfl ?_
  replace E := Option.bind_eq_some_iff.mp E; obtain ⟨v4, ev4, E⟩ := E
  refine go_getP (n := 72) ev4 fl_RX6_24 rfl dX6_search_69 rfl ?_
  refine go_iload_n (j := 1) (n := 73) rfl rfl dX6_search_72 rfl ?_
  replace E := Option.bind_eq_some_iff.mp E; obtain ⟨v5, ev5, E⟩ := E
  refine go_iaload (n := 74) ev5 dX6_search_73 rfl ?_
  replace E := Option.bind_eq_some_iff.mp E; obtain ⟨h6, eh6, E⟩ := E
  refine go_putI (n := 77) eh6 fl_RX6_49 rfl dX6_search_74 rfl ?_
  refine go_aload_n (j := 0) (n := 78) rfl rfl dX6_search_77 rfl ?_
  refine go_aload_n (j := 0) (n := 79) rfl rfl dX6_search_78 rfl ?_
  replace E := Option.bind_eq_some_iff.mp E; obtain ⟨v7, ev7, E⟩ := E
  refine go_getP (n := 82) ev7 fl_RX6_27 rfl dX6_search_79 rfl ?_
  refine go_iload_n (j := 1) (n := 83) rfl rfl dX6_search_82 rfl ?_
  replace E := Option.bind_eq_some_iff.mp E; obtain ⟨v8, ev8, E⟩ := E
  refine go_iaload (n := 84) ev8 dX6_search_83 rfl ?_
  replace E := Option.bind_eq_some_iff.mp E; obtain ⟨h9, eh9, E⟩ := E
  refine go_putI (n := 87) eh9 fl_RX6_52 rfl dX6_search_84 rfl ?_
  refine go_aload_n (j := 0) (n := 88) rfl rfl dX6_search_87 rfl ?_
  replace E := Option.bind_eq_some_iff.mp E; obtain ⟨v10, ev10, E⟩ := E
  refine go_getP (n := 91) ev10 fl_RX6_15 rfl dX6_search_88 rfl ?_
  refine go_iconst (z := 0) (n := 92) ⟨by decide, by decide⟩ dX6_search_91 rfl ?_
  refine go_aload_n (j := 0) (n := 93) rfl rfl dX6_search_92 rfl ?_
  replace E := Option.bind_eq_some_iff.mp E; obtain ⟨v11, ev11, E⟩ := E
  refine go_getP (n := 96) ev11 fl_RX6_18 rfl dX6_search_93 rfl ?_
  refine go_iconst (z := 0) (n := 97) ⟨by decide, by decide⟩ dX6_search_96 rfl ?_
  refine go_bipush (z := 7) (n := 99) ⟨by decide, by decide⟩ dX6_search_97 rfl ?_
  replace E := Option.bind_eq_some_iff.mp E; obtain ⟨h12, eh12, E⟩ := E
  refine go_copy (n := 102) eh12 wml_RX6_102 w_copy (Nat.le_of_ble_eq_true rfl) (Nat.le_of_ble_eq_true rfl) dX6_search_99 rfl ?_
  cases E
  exact go_return rfl dX6_search_102
noncomputable def X6_search_L105 (F : Nat) (cl_attempt : Nat → Option Nat → Int → Int → HP → Option (Unit × HP)) (cl_search : Nat → Option Nat → Int → HP → Option (Unit × HP))  (k : Nat) : Nat → Option Nat → Int → Int → HP → Option (Unit × HP) :=
  Nat.rec (motive := fun _ => Nat → Option Nat → Int → Int → HP → Option (Unit × HP)) (fun _ _ _ _ _ => none) (fun _ rc105 l0 l1 l2 l3 h =>
    if 3 < l3 then
      some ((), h)
    else
      (xrc h (some l0) 6 15).bind fun a4 =>
      xb (cl_attempt a4 l1 l2 l3 h) fun v2 h3 =>
      rc105 l0 l1 l2 (w32 (l3 + 1)) h3) k
theorem X6_search_L105_s (F : Nat) (cl_attempt : Nat → Option Nat → Int → Int → HP → Option (Unit × HP)) (cl_search : Nat → Option Nat → Int → HP → Option (Unit × HP))  (k : Nat) (l0 : Nat) (l1 : Option Nat) (l2 : Int) (l3 : Int)  (h : HP) : X6_search_L105 F cl_attempt cl_search  (k + 1) l0 l1 l2 l3 h =
    if 3 < l3 then
      some ((), h)
    else
      (xrc h (some l0) 6 15).bind fun a4 =>
      xb (cl_attempt a4 l1 l2 l3 h) fun v2 h3 =>
      (X6_search_L105 F cl_attempt cl_search k) l0 l1 l2 (w32 (l3 + 1)) h3 := rfl
set_option maxRecDepth 100000 in
theorem SX6_search_L105 {dd : Nat} {K : Ctx} {F : Nat} {r : Unit} {hf : HP} (cl_attempt : Nat → Option Nat → Int → Int → HP → Option (Unit × HP)) (cl_search : Nat → Option Nat → Int → HP → Option (Unit × HP)) (hcl_attempt : ∀ a0 a1 a2 a3 h9 r9 f9, cl_attempt a0 a1 a2 a3 h9 = some (r9, f9) → Ok (MX6_attempt dd) [vr (some a0), vr a1, vi a2, vi a3] none h9 f9) (hcl_search : ∀ a0 a1 a2 h9 r9 f9, cl_search a0 a1 a2 h9 = some (r9, f9) → Ok (MX6_search dd) [vr (some a0), vr a1, vi a2] none h9 f9)   : ∀ (k : Nat) (l0 : Nat) (l1 : Option Nat) (l2 : Int) (l3 : Int)  (h : HP), X6_search_L105 F cl_attempt cl_search  k l0 l1 l2 l3 h = some (r, hf) → Go K (MX6_search (dd + 1)) (QM K none hf) hf 105 [(0, vr (some l0)), (1, vr l1), (2, vi l2), (3, vi l3)] [] h := by
  intro k
  induction k with
  | zero => intro l0 l1 l2 l3 h E; exact nomatch E
  | succ k hrc105 =>
    intro l0 l1 l2 l3 h E
    rw [X6_search_L105_s] at E
    refine go_iload_n (j := 3) (n := 106) rfl rfl dX6_search_105 rfl ?_
    refine go_iconst (z := 3) (n := 107) ⟨by decide, by decide⟩ dX6_search_106 rfl ?_
    refine go_icmp_gt (tgt := 123) (n := 110) dX6_search_107 rfl rfl (fun c1 => ?_) (fun c1 => ?_)
    · rw [if_pos c1] at E
      cases E
      exact go_return rfl dX6_search_123
    · rw [if_neg c1] at E
      refine go_aload_n (j := 0) (n := 111) rfl rfl dX6_search_110 rfl ?_
      refine go_aload_n (j := 1) (n := 112) rfl rfl dX6_search_111 rfl ?_
      refine go_iload_n (j := 2) (n := 113) rfl rfl dX6_search_112 rfl ?_
      refine go_iload_n (j := 3) (n := 114) rfl rfl dX6_search_113 rfl ?_
      replace E := Option.bind_eq_some_iff.mp E; obtain ⟨a4, ea4, E⟩ := E
      obtain ⟨fa4, ga4⟩ := xrc_some ea4
      replace E := xb_some E; obtain ⟨v2, h3, ev2, E⟩ := E
      refine go_callV (y := yX6_attempt) (n := 117) (st := []) (as := [vr l1, vi l2, vi l3]) (stk9 := []) (hcl_attempt _ _ _ _ _ _ _ ev2) yw_X6_attempt ci_6 ga4 wml_RX6_108 wim_X6_attempt wse_X6_attempt (Nat.le_of_ble_eq_true rfl) rfl (by first | exact ⟨Nat.le_of_ble_eq_true rfl, Nat.le_of_ble_eq_true rfl⟩ | (refine ⟨?_, ?_⟩ <;> simp only [MX6_attempt, MX6_search] <;> omega)) (Nat.le_of_ble_eq_true rfl) dX6_search_114 rfl (by cases fa4; rfl) rfl ?_
      refine go_iinc (j := 3) (n := 120) (lv' := [(3, vi (w32 (l3 + 1))), (0, vr (some l0)), (1, vr l1), (2, vi l2)]) rfl dX6_search_117 rfl (Nat.le_of_ble_eq_true rfl) rfl ?_
      refine go_goto (tgt := 105) dX6_search_120 rfl ?_
      refine go_pick (lv' := [(0, vr (some l0)), (1, vr l1), (2, vi l2), (3, vi (w32 (l3 + 1)))]) [1, 2, 3, 0] rfl ?_
      exact hrc105 _ _ _ _ _ E
noncomputable def X6_search (F : Nat) (cl_attempt : Nat → Option Nat → Int → Int → HP → Option (Unit × HP)) (cl_search : Nat → Option Nat → Int → HP → Option (Unit × HP))  (l0 : Nat) (l1 : Option Nat) (l2 : Int)  (h : HP) : Option (Unit × HP) :=
  if l2 < 0 then
    some ((), h)
  else
    if 7 < l2 then
      some ((), h)
    else
      (xgP h (some l0) 6 15 3).bind fun v3 =>
      (xaI h v3 100 l2).bind fun v4 =>
      (xgP h (some l0) 6 15 8).bind fun v5 =>
      (xaI h v5 100 l2).bind fun v6 =>
      (xgP h (some l0) 6 15 4).bind fun v7 =>
      (xaI h v7 100 l2).bind fun v8 =>
      (xgP h (some l0) 6 15 5).bind fun v9 =>
      (xaI h v9 100 l2).bind fun v10 =>
      (xrc h (some l0) 6 15).bind fun a13 =>
      xb (X6_isBetter F a13 (w32 (v4 + v6)) v8 v10 h) fun v11 h12 =>
      if v11 = 0 then
        some ((), h12)
      else
        (xgI h12 (some l0) 6 15 9).bind fun v15 =>
        if v15 ≤ l2 then
          X6_search_L57 F cl_attempt cl_search l0 l2 h12
        else
          if l2 < 7 then
            X6_search_L105 F cl_attempt cl_search F l0 l1 l2 0 h12
          else
            X6_search_L57 F cl_attempt cl_search l0 l2 h12
set_option maxRecDepth 100000 in
theorem SX6_search {dd : Nat} {K : Ctx} {F : Nat} {r : Unit} {hf : HP} (cl_attempt : Nat → Option Nat → Int → Int → HP → Option (Unit × HP)) (cl_search : Nat → Option Nat → Int → HP → Option (Unit × HP)) (hcl_attempt : ∀ a0 a1 a2 a3 h9 r9 f9, cl_attempt a0 a1 a2 a3 h9 = some (r9, f9) → Ok (MX6_attempt dd) [vr (some a0), vr a1, vi a2, vi a3] none h9 f9) (hcl_search : ∀ a0 a1 a2 h9 r9 f9, cl_search a0 a1 a2 h9 = some (r9, f9) → Ok (MX6_search dd) [vr (some a0), vr a1, vi a2] none h9 f9)   (l0 : Nat) (l1 : Option Nat) (l2 : Int)  (h : HP) (E : X6_search F cl_attempt cl_search  l0 l1 l2 h = some (r, hf)) : Go K (MX6_search (dd + 1)) (QM K none hf) hf 0 [(0, vr (some l0)), (1, vr l1), (2, vi l2)] [] h := by
  unfold X6_search at E
  refine go_iload_n (j := 2) (n := 1) rfl rfl dX6_search_0 rfl ?_
  refine go_if_lt (tgt := 42) (n := 4) dX6_search_1 rfl rfl (fun c1 => ?_) (fun c1 => ?_)
  · rw [if_pos c1] at E
    cases E
    exact go_return rfl dX6_search_42
  · rw [if_neg c1] at E
    refine go_iload_n (j := 2) (n := 5) rfl rfl dX6_search_4 rfl ?_
    refine go_bipush (z := 7) (n := 7) ⟨by decide, by decide⟩ dX6_search_5 rfl ?_
    refine go_icmp_gt (tgt := 42) (n := 10) dX6_search_7 rfl rfl (fun c2 => ?_) (fun c2 => ?_)
    · rw [if_pos c2] at E
      cases E
      exact go_return rfl dX6_search_42
    · rw [if_neg c2] at E
      refine go_aload_n (j := 0) (n := 11) rfl rfl dX6_search_10 rfl ?_
      refine go_aload_n (j := 0) (n := 12) rfl rfl dX6_search_11 rfl ?_
      replace E := Option.bind_eq_some_iff.mp E; obtain ⟨v3, ev3, E⟩ := E
      refine go_getP (n := 15) ev3 fl_RX6_21 rfl dX6_search_12 rfl ?_
      refine go_iload_n (j := 2) (n := 16) rfl rfl dX6_search_15 rfl ?_
      replace E := Option.bind_eq_some_iff.mp E; obtain ⟨v4, ev4, E⟩ := E
      refine go_iaload (n := 17) ev4 dX6_search_16 rfl ?_
      refine go_aload_n (j := 0) (n := 18) rfl rfl dX6_search_17 rfl ?_
      replace E := Option.bind_eq_some_iff.mp E; obtain ⟨v5, ev5, E⟩ := E
      refine go_getP (n := 21) ev5 fl_RX6_36 rfl dX6_search_18 rfl ?_
      refine go_iload_n (j := 2) (n := 22) rfl rfl dX6_search_21 rfl ?_
      replace E := Option.bind_eq_some_iff.mp E; obtain ⟨v6, ev6, E⟩ := E
      refine go_iaload (n := 23) ev6 dX6_search_22 rfl ?_
      refine go_iadd (n := 24) dX6_search_23 rfl ?_
      refine go_aload_n (j := 0) (n := 25) rfl rfl dX6_search_24 rfl ?_
      replace E := Option.bind_eq_some_iff.mp E; obtain ⟨v7, ev7, E⟩ := E
      refine go_getP (n := 28) ev7 fl_RX6_24 rfl dX6_search_25 rfl ?_
      refine go_iload_n (j := 2) (n := 29) rfl rfl dX6_search_28 rfl ?_
      replace E := Option.bind_eq_some_iff.mp E; obtain ⟨v8, ev8, E⟩ := E
      refine go_iaload (n := 30) ev8 dX6_search_29 rfl ?_
      refine go_aload_n (j := 0) (n := 31) rfl rfl dX6_search_30 rfl ?_
      replace E := Option.bind_eq_some_iff.mp E; obtain ⟨v9, ev9, E⟩ := E
      refine go_getP (n := 34) ev9 fl_RX6_27 rfl dX6_search_31 rfl ?_
      refine go_iload_n (j := 2) (n := 35) rfl rfl dX6_search_34 rfl ?_
      replace E := Option.bind_eq_some_iff.mp E; obtain ⟨v10, ev10, E⟩ := E
      refine go_iaload (n := 36) ev10 dX6_search_35 rfl ?_
      replace E := Option.bind_eq_some_iff.mp E; obtain ⟨a13, ea13, E⟩ := E
      obtain ⟨fa13, ga13⟩ := xrc_some ea13
      replace E := xb_some E; obtain ⟨v11, h12, ev11, E⟩ := E
      refine go_callV (y := yX6_isBetter) (n := 39) (st := []) (as := [vi (w32 (v4 + v6)), vi v8, vi v10]) (stk9 := [vi v11]) (OX6_isBetter ev11) yw_X6_isBetter ci_6 ga13 wml_RX6_98 wim_X6_isBetter wse_X6_isBetter (Nat.le_of_ble_eq_true rfl) rfl (by first | exact ⟨Nat.le_of_ble_eq_true rfl, Nat.le_of_ble_eq_true rfl⟩ | (refine ⟨?_, ?_⟩ <;> simp only [MX6_attempt, MX6_search] <;> omega)) (Nat.le_of_ble_eq_true rfl) dX6_search_36 rfl (by cases fa13; rfl) rfl ?_
      refine go_if_ne (tgt := 43) (n := 42) dX6_search_39 rfl rfl (fun c14 => ?_) (fun c14 => ?_)
      · rw [if_neg c14] at E
        refine go_iload_n (j := 2) (n := 44) rfl rfl dX6_search_43 rfl ?_
        refine go_aload_n (j := 0) (n := 45) rfl rfl dX6_search_44 rfl ?_
        replace E := Option.bind_eq_some_iff.mp E; obtain ⟨v15, ev15, E⟩ := E
        refine go_getI (n := 48) ev15 fl_RX6_63 rfl dX6_search_45 rfl ?_
        refine go_icmp_ge (tgt := 57) (n := 51) dX6_search_48 rfl rfl (fun c16 => ?_) (fun c16 => ?_)
        · rw [if_pos c16] at E
          refine go_pick (lv' := [(0, vr (some l0)), (2, vi l2)]) [0, 2] rfl ?_
          exact SX6_search_L57 cl_attempt cl_search hcl_attempt hcl_search   _ _  _ E
        · rw [if_neg c16] at E
          refine go_iload_n (j := 2) (n := 52) rfl rfl dX6_search_51 rfl ?_
          refine go_bipush (z := 7) (n := 54) ⟨by decide, by decide⟩ dX6_search_52 rfl ?_
          refine go_icmp_lt (tgt := 103) (n := 57) dX6_search_54 rfl rfl (fun c17 => ?_) (fun c17 => ?_)
          · rw [if_pos c17] at E
            refine go_iconst (z := 0) (n := 104) ⟨by decide, by decide⟩ dX6_search_103 rfl ?_
            refine go_istore_n (n := 105) (lv' := [(3, vi 0), (0, vr (some l0)), (1, vr l1), (2, vi l2)]) rfl dX6_search_104 rfl (Nat.le_of_ble_eq_true rfl) rfl ?_
            refine go_pick (lv' := [(0, vr (some l0)), (1, vr l1), (2, vi l2), (3, vi 0)]) [1, 2, 3, 0] rfl ?_
            exact SX6_search_L105 cl_attempt cl_search hcl_attempt hcl_search   F _ _ _ _ _ E
          · rw [if_neg c17] at E
            refine go_pick (lv' := [(0, vr (some l0)), (2, vi l2)]) [0, 2] rfl ?_
            exact SX6_search_L57 cl_attempt cl_search hcl_attempt hcl_search   _ _  _ E
      · rw [if_pos c14] at E
        cases E
        exact go_return rfl dX6_search_42
noncomputable def G_attempt_search (F n : Nat) : (Nat → Option Nat → Int → Int → HP → Option (Unit × HP)) × (Nat → Option Nat → Int → HP → Option (Unit × HP)) :=
  Nat.rec (motive := fun _ => (Nat → Option Nat → Int → Int → HP → Option (Unit × HP)) × (Nat → Option Nat → Int → HP → Option (Unit × HP))) (fun _ _ _ _ _ => none, fun _ _ _ _ => none) (fun _ g => (X6_attempt F g.1 g.2, X6_search F g.1 g.2)) n
theorem OG_attempt_search (F : Nat) : ∀ n : Nat, (∀ a0 a1 a2 a3 h9 r9 f9, (G_attempt_search F n).1 a0 a1 a2 a3 h9 = some (r9, f9) → Ok (MX6_attempt n) [vr (some a0), vr a1, vi a2, vi a3] none h9 f9) ∧ (∀ a0 a1 a2 h9 r9 f9, (G_attempt_search F n).2 a0 a1 a2 h9 = some (r9, f9) → Ok (MX6_search n) [vr (some a0), vr a1, vi a2] none h9 f9) := by
  intro n
  induction n with
  | zero => exact ⟨fun _ _ _ _ _ _ _ e => (nomatch e), fun _ _ _ _ _ _ e => (nomatch e)⟩
  | succ n ih =>
    obtain ⟨ih0, ih1⟩ := ih
    exact ⟨fun a0 a1 a2 a3 h9 r9 f9 e K _ _ _ => SX6_attempt (dd := n) _ _ ih0 ih1 a0 a1 a2 a3 h9 e, fun a0 a1 a2 h9 r9 f9 e K _ _ _ => SX6_search (dd := n) _ _ ih0 ih1 a0 a1 a2 h9 e⟩
noncomputable def X6_attempt_t (F : Nat) : (Nat → Option Nat → Int → Int → HP → Option (Unit × HP)) := (G_attempt_search F 100).1
theorem OX6_attempt {F : Nat} {l0 : Nat} {l1 : Option Nat} {l2 : Int} {l3 : Int} {h hf : HP} {r : Unit} (e : X6_attempt_t F l0 l1 l2 l3 h = some (r, hf)) : Ok (MX6_attempt 100) [vr (some l0), vr l1, vi l2, vi l3] none h hf := (OG_attempt_search F 100).1 l0 l1 l2 l3 h r hf e
noncomputable def X6_search_t (F : Nat) : (Nat → Option Nat → Int → HP → Option (Unit × HP)) := (G_attempt_search F 100).2
theorem OX6_search {F : Nat} {l0 : Nat} {l1 : Option Nat} {l2 : Int} {h hf : HP} {r : Unit} (e : X6_search_t F l0 l1 l2 h = some (r, hf)) : Ok (MX6_search 100) [vr (some l0), vr l1, vi l2] none h hf := (OG_attempt_search F 100).2 l0 l1 l2 h r hf e
theorem yw_X6_pick : YW yX6_pick cX6_pick 3 none 1 := ⟨bw_of 1692 (by decide +kernel) rfl, bw_of 128 (by decide +kernel) rfl, ⟨by decide +kernel, by decide +kernel, by decide +kernel⟩, by decide +kernel⟩
theorem wml_RX6_55 : Cond.methodLink RX6 55 yX6_pick ∈ BW := bw_of 1689 (by decide +kernel) rfl
theorem wim_X6_pick : Cond.instanceMethod yX6_pick ∈ BW := bw_of 1691 (by decide +kernel) rfl
theorem wse_X6_pick : Cond.selects RX6 yX6_pick yX6_pick ∈ BW := bw_of 52 (by decide +kernel) rfl
abbrev MX6_bestWorth : MI := (RX6, cX6_bestWorth, 4, (some .int), 105, none, "bestWorth")
noncomputable def X6_bestWorth (F : Nat)   (l0 : Nat) (l1 : Option Nat) (l2 : Int) (l3 : Int)  (h : HP) : Option (Int × HP) :=
  (xpI h (some l0) 6 15 10 l2).bind fun h1 =>
  (xpI h1 (some l0) 6 15 11 l3).bind fun h2 =>
  (xpI h2 (some l0) 6 15 12 (-1)).bind fun h3 =>
  (xpI h3 (some l0) 6 15 13 0).bind fun h4 =>
  (xpI h4 (some l0) 6 15 14 0).bind fun h5 =>
  (xrc h5 (some l0) 6 15).bind fun a8 =>
  xb (X6_pick F a8 l1 h5) fun v6 h7 =>
  (xrc h7 (some l0) 6 15).bind fun a11 =>
  xb (X6_search_t F a11 l1 0 h7) fun v9 h10 =>
  (xgI h10 (some l0) 6 15 12).bind fun v12 =>
  some (v12, h10)
set_option maxRecDepth 100000 in
theorem SX6_bestWorth {K : Ctx} {F : Nat} {r : Int} {hf : HP}     (l0 : Nat) (l1 : Option Nat) (l2 : Int) (l3 : Int)  (h : HP) (E : X6_bestWorth F   l0 l1 l2 l3 h = some (r, hf)) : Go K MX6_bestWorth (QM K (some (vi r)) hf) hf 0 [(0, vr (some l0)), (1, vr l1), (2, vi l2), (3, vi l3)] [] h := by
  unfold X6_bestWorth at E
  refine go_aload_n (j := 0) (n := 1) rfl rfl dX6_bestWorth_0 rfl ?_
  refine go_iload_n (j := 2) (n := 2) rfl rfl dX6_bestWorth_1 rfl ?_
  replace E := Option.bind_eq_some_iff.mp E; obtain ⟨h1, eh1, E⟩ := E
  refine go_putI (n := 5) eh1 fl_RX6_39 rfl dX6_bestWorth_2 rfl ?_
  refine go_aload_n (j := 0) (n := 6) rfl rfl dX6_bestWorth_5 rfl ?_
  refine go_iload_n (j := 3) (n := 7) rfl rfl dX6_bestWorth_6 rfl ?_
  replace E := Option.bind_eq_some_iff.mp E; obtain ⟨h2, eh2, E⟩ := E
  refine go_putI (n := 10) eh2 fl_RX6_43 rfl dX6_bestWorth_7 rfl ?_
  refine go_aload_n (j := 0) (n := 11) rfl rfl dX6_bestWorth_10 rfl ?_
  refine go_iconst (z := (-1)) (n := 12) ⟨by decide, by decide⟩ dX6_bestWorth_11 rfl ?_
  replace E := Option.bind_eq_some_iff.mp E; obtain ⟨h3, eh3, E⟩ := E
  refine go_putI (n := 15) eh3 fl_RX6_46 rfl dX6_bestWorth_12 rfl ?_
  refine go_aload_n (j := 0) (n := 16) rfl rfl dX6_bestWorth_15 rfl ?_
  refine go_iconst (z := 0) (n := 17) ⟨by decide, by decide⟩ dX6_bestWorth_16 rfl ?_
  replace E := Option.bind_eq_some_iff.mp E; obtain ⟨h4, eh4, E⟩ := E
  refine go_putI (n := 20) eh4 fl_RX6_49 rfl dX6_bestWorth_17 rfl ?_
  refine go_aload_n (j := 0) (n := 21) rfl rfl dX6_bestWorth_20 rfl ?_
  refine go_iconst (z := 0) (n := 22) ⟨by decide, by decide⟩ dX6_bestWorth_21 rfl ?_
  replace E := Option.bind_eq_some_iff.mp E; obtain ⟨h5, eh5, E⟩ := E
  refine go_putI (n := 25) eh5 fl_RX6_52 rfl dX6_bestWorth_22 rfl ?_
  refine go_aload_n (j := 0) (n := 26) rfl rfl dX6_bestWorth_25 rfl ?_
  refine go_aload_n (j := 1) (n := 27) rfl rfl dX6_bestWorth_26 rfl ?_
  replace E := Option.bind_eq_some_iff.mp E; obtain ⟨a8, ea8, E⟩ := E
  obtain ⟨fa8, ga8⟩ := xrc_some ea8
  replace E := xb_some E; obtain ⟨v6, h7, ev6, E⟩ := E
  refine go_callV (y := yX6_pick) (n := 30) (st := []) (as := [vr l1]) (stk9 := []) (OX6_pick ev6) yw_X6_pick ci_6 ga8 wml_RX6_55 wim_X6_pick wse_X6_pick (Nat.le_of_ble_eq_true rfl) rfl ⟨Nat.le_of_ble_eq_true rfl, Nat.le_of_ble_eq_true rfl⟩ (Nat.le_of_ble_eq_true rfl) dX6_bestWorth_27 rfl (by cases fa8; rfl) rfl ?_
  refine go_aload_n (j := 0) (n := 31) rfl rfl dX6_bestWorth_30 rfl ?_
  refine go_aload_n (j := 1) (n := 32) rfl rfl dX6_bestWorth_31 rfl ?_
  refine go_iconst (z := 0) (n := 33) ⟨by decide, by decide⟩ dX6_bestWorth_32 rfl ?_
  replace E := Option.bind_eq_some_iff.mp E; obtain ⟨a11, ea11, E⟩ := E
  obtain ⟨fa11, ga11⟩ := xrc_some ea11
  replace E := xb_some E; obtain ⟨v9, h10, ev9, E⟩ := E
  refine go_callV (y := yX6_search) (n := 36) (st := []) (as := [vr l1, vi 0]) (stk9 := []) (OX6_search ev9) yw_X6_search ci_6 ga11 wml_RX6_59 wim_X6_search wse_X6_search (Nat.le_of_ble_eq_true rfl) rfl ⟨Nat.le_of_ble_eq_true rfl, Nat.le_of_ble_eq_true rfl⟩ (Nat.le_of_ble_eq_true rfl) dX6_bestWorth_33 rfl (by cases fa11; rfl) rfl ?_
  refine go_aload_n (j := 0) (n := 37) rfl rfl dX6_bestWorth_36 rfl ?_
  replace E := Option.bind_eq_some_iff.mp E; obtain ⟨v12, ev12, E⟩ := E
  refine go_getI (n := 40) ev12 fl_RX6_46 rfl dX6_bestWorth_37 rfl ?_
  cases E
  exact go_ireturn rfl dX6_bestWorth_40
theorem OX6_bestWorth {F : Nat} {l0 : Nat} {l1 : Option Nat} {l2 : Int} {l3 : Int} {h hf : HP} {r : Int} (e : X6_bestWorth F l0 l1 l2 l3 h = some (r, hf)) : Ok MX6_bestWorth [vr (some l0), vr l1, vi l2, vi l3] (some (vi r)) h hf := fun K _ _ _ => SX6_bestWorth l0 l1 l2 l3 h e
theorem fl_RX11_33 : FL RX11 33 11 6 5 true := ⟨RX11, TX11, ci_11, by decide, bw_of 621 (by decide +kernel) rfl, rfl, rfl⟩
theorem yw_X6_bestWorth : YW yX6_bestWorth cX6_bestWorth 4 (some .int) 3 := ⟨bw_of 1688 (by decide +kernel) rfl, bw_of 128 (by decide +kernel) rfl, ⟨by decide +kernel, by decide +kernel, by decide +kernel⟩, by decide +kernel⟩
theorem wml_RX11_286 : Cond.methodLink RX11 286 yX6_bestWorth ∈ BW := bw_of 1685 (by decide +kernel) rfl
theorem wim_X6_bestWorth : Cond.instanceMethod yX6_bestWorth ∈ BW := bw_of 1686 (by decide +kernel) rfl
theorem wse_X6_bestWorth : Cond.selects RX6 yX6_bestWorth yX6_bestWorth ∈ BW := bw_of 1687 (by decide +kernel) rfl
abbrev MX11_plan : MI := (RX11, cX11_plan, 3, (some .int), 106, some [], "plan")
noncomputable def X11_plan (F : Nat)   (l0 : Nat) (l1 : Int) (l2 : Int)  (h : HP) : Option ((String ⊕ Int) × HP) :=
  xth (X11_needNumber F l1 0 1000 h) fun v1 h2 =>
  xth (X11_needNumber F l2 0 1000 h2) fun v3 h4 =>
  (xgP h4 (some l0) 11 6 5).bind fun v5 =>
  (xgP h4 (some l0) 11 6 2).bind fun v6 =>
  (xgP h4 v6 4 12 2).bind fun v7 =>
  (xrc h4 v5 6 15).bind fun a10 =>
  xb (X6_bestWorth F a10 v7 l1 l2 h4) fun v8 h9 =>
  some (.inr v8, h9)
set_option maxRecDepth 100000 in
theorem SX11_plan {K : Ctx} {F : Nat} {r : String ⊕ Int} {hf : HP}     (l0 : Nat) (l1 : Int) (l2 : Int)  (h : HP) (E : X11_plan F   l0 l1 l2 h = some (r, hf)) : Go K MX11_plan (QMX K (rI r) hf) hf 0 [(0, vr (some l0)), (1, vi l1), (2, vi l2)] [] h := by
  unfold X11_plan at E
  refine go_iload_n (j := 1) (n := 1) rfl rfl dX11_plan_0 rfl ?_
  refine go_iconst (z := 0) (n := 2) ⟨by decide, by decide⟩ dX11_plan_1 rfl ?_
  refine go_sipush (z := 1000) (n := 5) ⟨by decide, by decide⟩ dX11_plan_2 rfl ?_
  replace E := xth_some E; rcases E with ⟨x12, ev1, rfl⟩ | ⟨v1, h2, ev1, E⟩
  · exact go_callXSt (y := yX11_needNumber) (as := [vi l1, vi 0, vi 1000]) (st := []) (OXX11_needNumber ev1) yw_X11_needNumber wml_RX11_44 wst_X11_needNumber (Nat.le_of_ble_eq_true rfl) rfl ⟨Nat.le_of_ble_eq_true rfl, Nat.le_of_ble_eq_true rfl⟩ (Nat.le_of_ble_eq_true rfl) dX11_plan_5 rfl rfl
  refine go_callXSr (y := yX11_needNumber) (n := 8) (st := []) (as := [vi l1, vi 0, vi 1000]) (stk9 := []) (OXX11_needNumber ev1) yw_X11_needNumber wml_RX11_44 wst_X11_needNumber (Nat.le_of_ble_eq_true rfl) rfl ⟨Nat.le_of_ble_eq_true rfl, Nat.le_of_ble_eq_true rfl⟩ (Nat.le_of_ble_eq_true rfl) dX11_plan_5 rfl rfl rfl ?_
  refine go_iload_n (j := 2) (n := 9) rfl rfl dX11_plan_8 rfl ?_
  refine go_iconst (z := 0) (n := 10) ⟨by decide, by decide⟩ dX11_plan_9 rfl ?_
  refine go_sipush (z := 1000) (n := 13) ⟨by decide, by decide⟩ dX11_plan_10 rfl ?_
  replace E := xth_some E; rcases E with ⟨x11, ev3, rfl⟩ | ⟨v3, h4, ev3, E⟩
  · exact go_callXSt (y := yX11_needNumber) (as := [vi l2, vi 0, vi 1000]) (st := []) (OXX11_needNumber ev3) yw_X11_needNumber wml_RX11_44 wst_X11_needNumber (Nat.le_of_ble_eq_true rfl) rfl ⟨Nat.le_of_ble_eq_true rfl, Nat.le_of_ble_eq_true rfl⟩ (Nat.le_of_ble_eq_true rfl) dX11_plan_13 rfl rfl
  refine go_callXSr (y := yX11_needNumber) (n := 16) (st := []) (as := [vi l2, vi 0, vi 1000]) (stk9 := []) (OXX11_needNumber ev3) yw_X11_needNumber wml_RX11_44 wst_X11_needNumber (Nat.le_of_ble_eq_true rfl) rfl ⟨Nat.le_of_ble_eq_true rfl, Nat.le_of_ble_eq_true rfl⟩ (Nat.le_of_ble_eq_true rfl) dX11_plan_13 rfl rfl rfl ?_
  refine go_aload_n (j := 0) (n := 17) rfl rfl dX11_plan_16 rfl ?_
  replace E := Option.bind_eq_some_iff.mp E; obtain ⟨v5, ev5, E⟩ := E
  refine go_getP (n := 20) ev5 fl_RX11_33 rfl dX11_plan_17 rfl ?_
  refine go_aload_n (j := 0) (n := 21) rfl rfl dX11_plan_20 rfl ?_
  replace E := Option.bind_eq_some_iff.mp E; obtain ⟨v6, ev6, E⟩ := E
  refine go_getP (n := 24) ev6 fl_RX11_23 rfl dX11_plan_21 rfl ?_
  replace E := Option.bind_eq_some_iff.mp E; obtain ⟨v7, ev7, E⟩ := E
  refine go_getP (n := 27) ev7 fl_RX11_101 rfl dX11_plan_24 rfl ?_
  refine go_iload_n (j := 1) (n := 28) rfl rfl dX11_plan_27 rfl ?_
  refine go_iload_n (j := 2) (n := 29) rfl rfl dX11_plan_28 rfl ?_
  replace E := Option.bind_eq_some_iff.mp E; obtain ⟨a10, ea10, E⟩ := E
  obtain ⟨fa10, ga10⟩ := xrc_some ea10
  replace E := xb_some E; obtain ⟨v8, h9, ev8, E⟩ := E
  refine go_callV (y := yX6_bestWorth) (n := 32) (st := []) (as := [vr v7, vi l1, vi l2]) (stk9 := [vi v8]) (OX6_bestWorth ev8) yw_X6_bestWorth ci_6 ga10 wml_RX11_286 wim_X6_bestWorth wse_X6_bestWorth (Nat.le_of_ble_eq_true rfl) rfl ⟨Nat.le_of_ble_eq_true rfl, Nat.le_of_ble_eq_true rfl⟩ (Nat.le_of_ble_eq_true rfl) dX11_plan_29 rfl (by cases fa10; rfl) rfl ?_
  cases E
  exact go_ret (go_ireturn rfl dX11_plan_32)
theorem OXX11_plan {F : Nat} {l0 : Nat} {l1 : Int} {l2 : Int} {h hf : HP} {r : String ⊕ Int} (e : X11_plan F l0 l1 l2 h = some (r, hf)) : OkX MX11_plan [vr (some l0), vi l1, vi l2] (rI r) h hf := fun K _ _ _ => SX11_plan l0 l1 l2 h e
abbrev MX3_quarrelAt : MI := (RX3, cX3_quarrelAt, 5, (some .int), 3, none, "quarrelAt")
noncomputable def X3_quarrelAt_L65 (F : Nat)  (rc4 : Nat → Int → Int → Int → HP → Option (Int × HP)) (rc17 : Nat → Int → Int → Int → Int → HP → Option (Int × HP)) (l0 : Nat) (l1 : Int) (l2 : Int) (l3 : Int) (l4 : Int)  (h : HP) : Option (Int × HP) :=
  rc17 l0 l1 l2 l3 (w32 (l4 + 1)) h
set_option maxRecDepth 100000 in
theorem SX3_quarrelAt_L65 {K : Ctx} {F : Nat} {r : Int} {hf : HP}   (rc4 : Nat → Int → Int → Int → HP → Option (Int × HP)) (rc17 : Nat → Int → Int → Int → Int → HP → Option (Int × HP)) (hrc4 : ∀ l0 l1 l2 l3 h, rc4 l0 l1 l2 l3 h = some (r, hf) → Go K MX3_quarrelAt (QM K (some (vi r)) hf) hf 4 [(0, vr (some l0)), (1, vi l1), (2, vi l2), (3, vi l3)] [] h) (hrc17 : ∀ l0 l1 l2 l3 l4 h, rc17 l0 l1 l2 l3 l4 h = some (r, hf) → Go K MX3_quarrelAt (QM K (some (vi r)) hf) hf 17 [(0, vr (some l0)), (1, vi l1), (2, vi l2), (3, vi l3), (4, vi l4)] [] h) (l0 : Nat) (l1 : Int) (l2 : Int) (l3 : Int) (l4 : Int)  (h : HP) (E : X3_quarrelAt_L65 F  rc4 rc17 l0 l1 l2 l3 l4 h = some (r, hf)) : Go K MX3_quarrelAt (QM K (some (vi r)) hf) hf 65 [(0, vr (some l0)), (1, vi l1), (2, vi l2), (3, vi l3), (4, vi l4)] [] h := by
  unfold X3_quarrelAt_L65 at E
  refine go_iinc (j := 4) (n := 68) (lv' := [(4, vi (w32 (l4 + 1))), (0, vr (some l0)), (1, vi l1), (2, vi l2), (3, vi l3)]) rfl dX3_quarrelAt_65 rfl (Nat.le_of_ble_eq_true rfl) rfl ?_
  refine go_goto (tgt := 17) dX3_quarrelAt_68 rfl ?_
  refine go_pick (lv' := [(0, vr (some l0)), (1, vi l1), (2, vi l2), (3, vi l3), (4, vi (w32 (l4 + 1)))]) [1, 2, 3, 4, 0] rfl ?_
  exact hrc17 _ _ _ _ _ _ E
noncomputable def X3_quarrelAt_L17 (F : Nat)  (rc4 : Nat → Int → Int → Int → HP → Option (Int × HP)) (k : Nat) : Nat → Int → Int → Int → Int → HP → Option (Int × HP) :=
  Nat.rec (motive := fun _ => Nat → Int → Int → Int → Int → HP → Option (Int × HP)) (fun _ _ _ _ _ _ => none) (fun _ rc17 l0 l1 l2 l3 l4 h =>
    (xgI h (some l0) 3 7 5).bind fun v1 =>
    if v1 ≤ l4 then
      rc4 l0 l1 l2 (w32 (l3 + 1)) h
    else
      (xrc h (some l0) 3 7).bind fun a5 =>
      xb (X3_at F a5 l3 h) fun v3 h4 =>
      (xrc h4 v3 2 18).bind fun a8 =>
      xb (X2_writes F a8 h4) fun v6 h7 =>
      (xrc h7 (some l0) 3 7).bind fun a11 =>
      xb (X3_at F a11 l4 h7) fun v9 h10 =>
      (xrc h10 v9 2 18).bind fun a14 =>
      xb (X2_writes F a14 h10) fun v12 h13 =>
      if (xcmp (yand v6 v12) 0) = 0 then
        X3_quarrelAt_L65 F rc4 rc17 l0 l1 l2 l3 l4 h13
      else
        if l2 = l1 then
          some (w32 ((w32 (12 * l3)) + l4), h13)
        else
          X3_quarrelAt_L65 F rc4 rc17 l0 l1 (w32 (l2 + 1)) l3 l4 h13) k
theorem X3_quarrelAt_L17_s (F : Nat)  (rc4 : Nat → Int → Int → Int → HP → Option (Int × HP)) (k : Nat) (l0 : Nat) (l1 : Int) (l2 : Int) (l3 : Int) (l4 : Int)  (h : HP) : X3_quarrelAt_L17 F  rc4 (k + 1) l0 l1 l2 l3 l4 h =
    (xgI h (some l0) 3 7 5).bind fun v1 =>
    if v1 ≤ l4 then
      rc4 l0 l1 l2 (w32 (l3 + 1)) h
    else
      (xrc h (some l0) 3 7).bind fun a5 =>
      xb (X3_at F a5 l3 h) fun v3 h4 =>
      (xrc h4 v3 2 18).bind fun a8 =>
      xb (X2_writes F a8 h4) fun v6 h7 =>
      (xrc h7 (some l0) 3 7).bind fun a11 =>
      xb (X3_at F a11 l4 h7) fun v9 h10 =>
      (xrc h10 v9 2 18).bind fun a14 =>
      xb (X2_writes F a14 h10) fun v12 h13 =>
      if (xcmp (yand v6 v12) 0) = 0 then
        X3_quarrelAt_L65 F rc4 (X3_quarrelAt_L17 F rc4 k) l0 l1 l2 l3 l4 h13
      else
        if l2 = l1 then
          some (w32 ((w32 (12 * l3)) + l4), h13)
        else
          X3_quarrelAt_L65 F rc4 (X3_quarrelAt_L17 F rc4 k) l0 l1 (w32 (l2 + 1)) l3 l4 h13 := rfl
set_option maxRecDepth 100000 in
theorem SX3_quarrelAt_L17 {K : Ctx} {F : Nat} {r : Int} {hf : HP}   (rc4 : Nat → Int → Int → Int → HP → Option (Int × HP)) (hrc4 : ∀ l0 l1 l2 l3 h, rc4 l0 l1 l2 l3 h = some (r, hf) → Go K MX3_quarrelAt (QM K (some (vi r)) hf) hf 4 [(0, vr (some l0)), (1, vi l1), (2, vi l2), (3, vi l3)] [] h) : ∀ (k : Nat) (l0 : Nat) (l1 : Int) (l2 : Int) (l3 : Int) (l4 : Int)  (h : HP), X3_quarrelAt_L17 F  rc4 k l0 l1 l2 l3 l4 h = some (r, hf) → Go K MX3_quarrelAt (QM K (some (vi r)) hf) hf 17 [(0, vr (some l0)), (1, vi l1), (2, vi l2), (3, vi l3), (4, vi l4)] [] h := by
  intro k
  induction k with
  | zero => intro l0 l1 l2 l3 l4 h E; exact nomatch E
  | succ k hrc17 =>
    intro l0 l1 l2 l3 l4 h E
    rw [X3_quarrelAt_L17_s] at E
    refine go_iload (j := 4) (n := 19) rfl dX3_quarrelAt_17 rfl ?_
    refine go_aload_n (j := 0) (n := 20) rfl rfl dX3_quarrelAt_19 rfl ?_
    replace E := Option.bind_eq_some_iff.mp E; obtain ⟨v1, ev1, E⟩ := E
    refine go_getI (n := 23) ev1 fl_RX3_36 rfl dX3_quarrelAt_20 rfl ?_
    refine go_icmp_ge (tgt := 71) (n := 26) dX3_quarrelAt_23 rfl rfl (fun c2 => ?_) (fun c2 => ?_)
    · rw [if_pos c2] at E
      refine go_iinc (j := 3) (n := 74) (lv' := [(3, vi (w32 (l3 + 1))), (0, vr (some l0)), (1, vi l1), (2, vi l2), (4, vi l4)]) rfl dX3_quarrelAt_71 rfl (Nat.le_of_ble_eq_true rfl) rfl ?_
      refine go_goto (tgt := 4) dX3_quarrelAt_74 rfl ?_
      refine go_pick (lv' := [(0, vr (some l0)), (1, vi l1), (2, vi l2), (3, vi (w32 (l3 + 1)))]) [1, 2, 3, 0] rfl ?_
      exact hrc4 _ _ _ _ _ E
    · rw [if_neg c2] at E
      refine go_aload_n (j := 0) (n := 27) rfl rfl dX3_quarrelAt_26 rfl ?_
      refine go_iload_n (j := 3) (n := 28) rfl rfl dX3_quarrelAt_27 rfl ?_
      replace E := Option.bind_eq_some_iff.mp E; obtain ⟨a5, ea5, E⟩ := E
      obtain ⟨fa5, ga5⟩ := xrc_some ea5
      replace E := xb_some E; obtain ⟨v3, h4, ev3, E⟩ := E
      refine go_callV (y := yX3_at) (n := 31) (st := []) (as := [vi l3]) (stk9 := [vr v3]) (OX3_at ev3) yw_X3_at ci_3 ga5 wml_RX3_52 wim_X3_at wse_X3_at (Nat.le_of_ble_eq_true rfl) rfl ⟨Nat.le_of_ble_eq_true rfl, Nat.le_of_ble_eq_true rfl⟩ (Nat.le_of_ble_eq_true rfl) dX3_quarrelAt_28 rfl (by cases fa5; rfl) rfl ?_
      replace E := Option.bind_eq_some_iff.mp E; obtain ⟨a8, ea8, E⟩ := E
      obtain ⟨fa8, ga8⟩ := xrc_some ea8
      replace E := xb_some E; obtain ⟨v6, h7, ev6, E⟩ := E
      refine go_callV (y := yX2_writes) (n := 34) (st := []) (as := []) (stk9 := [vl v6]) (OX2_writes ev6) yw_X2_writes ci_2 ga8 wml_RX3_60 wim_X2_writes wse_X2_writes (Nat.le_of_ble_eq_true rfl) rfl ⟨Nat.le_of_ble_eq_true rfl, Nat.le_of_ble_eq_true rfl⟩ (Nat.le_of_ble_eq_true rfl) dX3_quarrelAt_31 rfl (by cases fa8; rfl) rfl ?_
      refine go_aload_n (j := 0) (n := 35) rfl rfl dX3_quarrelAt_34 rfl ?_
      refine go_iload (j := 4) (n := 37) rfl dX3_quarrelAt_35 rfl ?_
      replace E := Option.bind_eq_some_iff.mp E; obtain ⟨a11, ea11, E⟩ := E
      obtain ⟨fa11, ga11⟩ := xrc_some ea11
      replace E := xb_some E; obtain ⟨v9, h10, ev9, E⟩ := E
      refine go_callV (y := yX3_at) (n := 40) (st := [vl v6]) (as := [vi l4]) (stk9 := [vr v9, vl v6]) (OX3_at ev9) yw_X3_at ci_3 ga11 wml_RX3_52 wim_X3_at wse_X3_at (Nat.le_of_ble_eq_true rfl) rfl ⟨Nat.le_of_ble_eq_true rfl, Nat.le_of_ble_eq_true rfl⟩ (Nat.le_of_ble_eq_true rfl) dX3_quarrelAt_37 rfl (by cases fa11; rfl) rfl ?_
      replace E := Option.bind_eq_some_iff.mp E; obtain ⟨a14, ea14, E⟩ := E
      obtain ⟨fa14, ga14⟩ := xrc_some ea14
      replace E := xb_some E; obtain ⟨v12, h13, ev12, E⟩ := E
      refine go_callV (y := yX2_writes) (n := 43) (st := [vl v6]) (as := []) (stk9 := [vl v12, vl v6]) (OX2_writes ev12) yw_X2_writes ci_2 ga14 wml_RX3_60 wim_X2_writes wse_X2_writes (Nat.le_of_ble_eq_true rfl) rfl ⟨Nat.le_of_ble_eq_true rfl, Nat.le_of_ble_eq_true rfl⟩ (Nat.le_of_ble_eq_true rfl) dX3_quarrelAt_40 rfl (by cases fa14; rfl) rfl ?_
      refine go_land (n := 44) dX3_quarrelAt_43 rfl ?_
      refine go_lconst (w := 0) (n := 45) rfl dX3_quarrelAt_44 rfl ?_
      refine go_lcmp (n := 46) dX3_quarrelAt_45 rfl ?_
      refine go_if_eq (tgt := 65) (n := 49) dX3_quarrelAt_46 rfl rfl (fun c15 => ?_) (fun c15 => ?_)
      · rw [if_pos c15] at E
        exact SX3_quarrelAt_L65   _ _ hrc4 hrc17 _ _ _ _ _  _ E
      · rw [if_neg c15] at E
        refine go_iload_n (j := 2) (n := 50) rfl rfl dX3_quarrelAt_49 rfl ?_
        refine go_iload_n (j := 1) (n := 51) rfl rfl dX3_quarrelAt_50 rfl ?_
        refine go_icmp_ne (tgt := 62) (n := 54) dX3_quarrelAt_51 rfl rfl (fun c16 => ?_) (fun c16 => ?_)
        · rw [if_neg c16] at E
          refine go_iinc (j := 2) (n := 65) (lv' := [(2, vi (w32 (l2 + 1))), (0, vr (some l0)), (1, vi l1), (3, vi l3), (4, vi l4)]) rfl dX3_quarrelAt_62 rfl (Nat.le_of_ble_eq_true rfl) rfl ?_
          refine go_pick (lv' := [(0, vr (some l0)), (1, vi l1), (2, vi (w32 (l2 + 1))), (3, vi l3), (4, vi l4)]) [1, 2, 0, 3, 4] rfl ?_
          exact SX3_quarrelAt_L65   _ _ hrc4 hrc17 _ _ _ _ _  _ E
        · rw [if_pos c16] at E
          refine go_bipush (z := 12) (n := 56) ⟨by decide, by decide⟩ dX3_quarrelAt_54 rfl ?_
          refine go_iload_n (j := 3) (n := 57) rfl rfl dX3_quarrelAt_56 rfl ?_
          refine go_imul (n := 58) dX3_quarrelAt_57 rfl ?_
          refine go_iload (j := 4) (n := 60) rfl dX3_quarrelAt_58 rfl ?_
          refine go_iadd (n := 61) dX3_quarrelAt_60 rfl ?_
          cases E
          exact go_ireturn rfl dX3_quarrelAt_61
noncomputable def X3_quarrelAt_L4 (F : Nat)   (k : Nat) : Nat → Int → Int → Int → HP → Option (Int × HP) :=
  Nat.rec (motive := fun _ => Nat → Int → Int → Int → HP → Option (Int × HP)) (fun _ _ _ _ _ => none) (fun _ rc4 l0 l1 l2 l3 h =>
    (xgI h (some l0) 3 7 5).bind fun v1 =>
    if v1 ≤ l3 then
      some ((-1), h)
    else
      X3_quarrelAt_L17 F rc4 F l0 l1 l2 l3 (w32 (l3 + 1)) h) k
theorem X3_quarrelAt_L4_s (F : Nat)   (k : Nat) (l0 : Nat) (l1 : Int) (l2 : Int) (l3 : Int)  (h : HP) : X3_quarrelAt_L4 F   (k + 1) l0 l1 l2 l3 h =
    (xgI h (some l0) 3 7 5).bind fun v1 =>
    if v1 ≤ l3 then
      some ((-1), h)
    else
      X3_quarrelAt_L17 F (X3_quarrelAt_L4 F k) F l0 l1 l2 l3 (w32 (l3 + 1)) h := rfl
set_option maxRecDepth 100000 in
theorem SX3_quarrelAt_L4 {K : Ctx} {F : Nat} {r : Int} {hf : HP}     : ∀ (k : Nat) (l0 : Nat) (l1 : Int) (l2 : Int) (l3 : Int)  (h : HP), X3_quarrelAt_L4 F   k l0 l1 l2 l3 h = some (r, hf) → Go K MX3_quarrelAt (QM K (some (vi r)) hf) hf 4 [(0, vr (some l0)), (1, vi l1), (2, vi l2), (3, vi l3)] [] h := by
  intro k
  induction k with
  | zero => intro l0 l1 l2 l3 h E; exact nomatch E
  | succ k hrc4 =>
    intro l0 l1 l2 l3 h E
    rw [X3_quarrelAt_L4_s] at E
    refine go_iload_n (j := 3) (n := 5) rfl rfl dX3_quarrelAt_4 rfl ?_
    refine go_aload_n (j := 0) (n := 6) rfl rfl dX3_quarrelAt_5 rfl ?_
    replace E := Option.bind_eq_some_iff.mp E; obtain ⟨v1, ev1, E⟩ := E
    refine go_getI (n := 9) ev1 fl_RX3_36 rfl dX3_quarrelAt_6 rfl ?_
    refine go_icmp_ge (tgt := 77) (n := 12) dX3_quarrelAt_9 rfl rfl (fun c2 => ?_) (fun c2 => ?_)
    · rw [if_pos c2] at E
      refine go_iconst (z := (-1)) (n := 78) ⟨by decide, by decide⟩ dX3_quarrelAt_77 rfl ?_
      cases E
      exact go_ireturn rfl dX3_quarrelAt_78
    · rw [if_neg c2] at E
      refine go_iload_n (j := 3) (n := 13) rfl rfl dX3_quarrelAt_12 rfl ?_
      refine go_iconst (z := 1) (n := 14) ⟨by decide, by decide⟩ dX3_quarrelAt_13 rfl ?_
      refine go_iadd (n := 15) dX3_quarrelAt_14 rfl ?_
      refine go_istore (n := 17) (lv' := [(4, vi (w32 (l3 + 1))), (0, vr (some l0)), (1, vi l1), (2, vi l2), (3, vi l3)]) dX3_quarrelAt_15 rfl (Nat.le_of_ble_eq_true rfl) rfl ?_
      refine go_pick (lv' := [(0, vr (some l0)), (1, vi l1), (2, vi l2), (3, vi l3), (4, vi (w32 (l3 + 1)))]) [1, 2, 3, 4, 0] rfl ?_
      exact SX3_quarrelAt_L17   _ hrc4 F _ _ _ _ _ _ E
noncomputable def X3_quarrelAt (F : Nat)   (l0 : Nat) (l1 : Int)  (h : HP) : Option (Int × HP) :=
  X3_quarrelAt_L4 F F l0 l1 0 0 h
set_option maxRecDepth 100000 in
theorem SX3_quarrelAt {K : Ctx} {F : Nat} {r : Int} {hf : HP}     (l0 : Nat) (l1 : Int)  (h : HP) (E : X3_quarrelAt F   l0 l1 h = some (r, hf)) : Go K MX3_quarrelAt (QM K (some (vi r)) hf) hf 0 [(0, vr (some l0)), (1, vi l1)] [] h := by
  unfold X3_quarrelAt at E
  refine go_iconst (z := 0) (n := 1) ⟨by decide, by decide⟩ dX3_quarrelAt_0 rfl ?_
  refine go_istore_n (n := 2) (lv' := [(2, vi 0), (0, vr (some l0)), (1, vi l1)]) rfl dX3_quarrelAt_1 rfl (Nat.le_of_ble_eq_true rfl) rfl ?_
  refine go_iconst (z := 0) (n := 3) ⟨by decide, by decide⟩ dX3_quarrelAt_2 rfl ?_
  refine go_istore_n (n := 4) (lv' := [(3, vi 0), (2, vi 0), (0, vr (some l0)), (1, vi l1)]) rfl dX3_quarrelAt_3 rfl (Nat.le_of_ble_eq_true rfl) rfl ?_
  refine go_pick (lv' := [(0, vr (some l0)), (1, vi l1), (2, vi 0), (3, vi 0)]) [2, 3, 1, 0] rfl ?_
  exact SX3_quarrelAt_L4     F _ _ _ _ _ E
theorem OX3_quarrelAt {F : Nat} {l0 : Nat} {l1 : Int} {h hf : HP} {r : Int} (e : X3_quarrelAt F l0 l1 h = some (r, hf)) : Ok MX3_quarrelAt [vr (some l0), vi l1] (some (vi r)) h hf := fun K _ _ _ => SX3_quarrelAt l0 l1 h e
theorem yw_X3_quarrelAt : YW yX3_quarrelAt cX3_quarrelAt 5 (some .int) 1 := ⟨bw_of 658 (by decide +kernel) rfl, bw_of 122 (by decide +kernel) rfl, ⟨by decide +kernel, by decide +kernel, by decide +kernel⟩, by decide +kernel⟩
theorem wml_RX11_148 : Cond.methodLink RX11 148 yX3_quarrelAt ∈ BW := bw_of 655 (by decide +kernel) rfl
theorem wim_X3_quarrelAt : Cond.instanceMethod yX3_quarrelAt ∈ BW := bw_of 656 (by decide +kernel) rfl
theorem wse_X3_quarrelAt : Cond.selects RX3 yX3_quarrelAt yX3_quarrelAt ∈ BW := bw_of 657 (by decide +kernel) rfl
abbrev MX11_quarrel : MI := (RX11, cX11_quarrel, 2, (some .int), 4, none, "quarrel")
noncomputable def X11_quarrel (F : Nat)   (l0 : Nat) (l1 : Int)  (h : HP) : Option (Int × HP) :=
  (xgP h (some l0) 11 6 2).bind fun v1 =>
  (xgP h v1 4 12 2).bind fun v2 =>
  (xrc h v2 3 7).bind fun a5 =>
  xb (X3_quarrelAt F a5 l1 h) fun v3 h4 =>
  some (v3, h4)
set_option maxRecDepth 100000 in
theorem SX11_quarrel {K : Ctx} {F : Nat} {r : Int} {hf : HP}     (l0 : Nat) (l1 : Int)  (h : HP) (E : X11_quarrel F   l0 l1 h = some (r, hf)) : Go K MX11_quarrel (QM K (some (vi r)) hf) hf 0 [(0, vr (some l0)), (1, vi l1)] [] h := by
  unfold X11_quarrel at E
  refine go_aload_n (j := 0) (n := 1) rfl rfl dX11_quarrel_0 rfl ?_
  replace E := Option.bind_eq_some_iff.mp E; obtain ⟨v1, ev1, E⟩ := E
  refine go_getP (n := 4) ev1 fl_RX11_23 rfl dX11_quarrel_1 rfl ?_
  replace E := Option.bind_eq_some_iff.mp E; obtain ⟨v2, ev2, E⟩ := E
  refine go_getP (n := 7) ev2 fl_RX11_101 rfl dX11_quarrel_4 rfl ?_
  refine go_iload_n (j := 1) (n := 8) rfl rfl dX11_quarrel_7 rfl ?_
  replace E := Option.bind_eq_some_iff.mp E; obtain ⟨a5, ea5, E⟩ := E
  obtain ⟨fa5, ga5⟩ := xrc_some ea5
  replace E := xb_some E; obtain ⟨v3, h4, ev3, E⟩ := E
  refine go_callV (y := yX3_quarrelAt) (n := 11) (st := []) (as := [vi l1]) (stk9 := [vi v3]) (OX3_quarrelAt ev3) yw_X3_quarrelAt ci_3 ga5 wml_RX11_148 wim_X3_quarrelAt wse_X3_quarrelAt (Nat.le_of_ble_eq_true rfl) rfl ⟨Nat.le_of_ble_eq_true rfl, Nat.le_of_ble_eq_true rfl⟩ (Nat.le_of_ble_eq_true rfl) dX11_quarrel_8 rfl (by cases fa5; rfl) rfl ?_
  cases E
  exact go_ireturn rfl dX11_quarrel_11
theorem OX11_quarrel {F : Nat} {l0 : Nat} {l1 : Int} {h hf : HP} {r : Int} (e : X11_quarrel F l0 l1 h = some (r, hf)) : Ok MX11_quarrel [vr (some l0), vi l1] (some (vi r)) h hf := fun K _ _ _ => SX11_quarrel l0 l1 h e
theorem wml_RX4_67 : Cond.methodLink RX4 67 yX7_write ∈ BW := bw_of 1005 (by decide +kernel) rfl
abbrev MX4_tellWord : MI := (RX4, cX4_tellWord, 3, (some .int), 4, none, "tellWord")
noncomputable def X4_tellWord (F : Nat)   (l0 : Nat) (l1 : Int) (l2 : Int)  (h : HP) : Option (Int × HP) :=
  (xgI h (some l0) 4 12 11).bind fun v1 =>
  if v1 < 400 then
    (xgP h (some l0) 4 12 1).bind fun v3 =>
    (xgI h (some l0) 4 12 6).bind fun v4 =>
    (xrc h v3 7 10).bind fun a7 =>
    xb (X7_takePen F a7 (-1) v4 0 0 h) fun v5 h6 =>
    (xgP h6 (some l0) 4 12 1).bind fun v8 =>
    (xrc h6 v8 7 10).bind fun a11 =>
    xb (X7_write F a11 l1 l2 h6) fun v9 h10 =>
    (xgI h10 (some l0) 4 12 11).bind fun v12 =>
    (xpI h10 (some l0) 4 12 11 (w32 (v12 + 1))).bind fun h13 =>
    (xgI h13 (some l0) 4 12 11).bind fun v14 =>
    some (v14, h13)
  else
    some ((-1), h)
set_option maxRecDepth 100000 in
theorem SX4_tellWord {K : Ctx} {F : Nat} {r : Int} {hf : HP}     (l0 : Nat) (l1 : Int) (l2 : Int)  (h : HP) (E : X4_tellWord F   l0 l1 l2 h = some (r, hf)) : Go K MX4_tellWord (QM K (some (vi r)) hf) hf 0 [(0, vr (some l0)), (1, vi l1), (2, vi l2)] [] h := by
  unfold X4_tellWord at E
  refine go_aload_n (j := 0) (n := 1) rfl rfl dX4_tellWord_0 rfl ?_
  replace E := Option.bind_eq_some_iff.mp E; obtain ⟨v1, ev1, E⟩ := E
  refine go_getI (n := 4) ev1 fl_RX4_55 rfl dX4_tellWord_1 rfl ?_
  refine go_sipush (z := 400) (n := 7) ⟨by decide, by decide⟩ dX4_tellWord_4 rfl ?_
  refine go_icmp_lt (tgt := 12) (n := 10) dX4_tellWord_7 rfl rfl (fun c2 => ?_) (fun c2 => ?_)
  · rw [if_pos c2] at E
    refine go_aload_n (j := 0) (n := 13) rfl rfl dX4_tellWord_12 rfl ?_
    replace E := Option.bind_eq_some_iff.mp E; obtain ⟨v3, ev3, E⟩ := E
    refine go_getP (n := 16) ev3 fl_RX4_22 rfl dX4_tellWord_13 rfl ?_
    refine go_iconst (z := (-1)) (n := 17) ⟨by decide, by decide⟩ dX4_tellWord_16 rfl ?_
    refine go_aload_n (j := 0) (n := 18) rfl rfl dX4_tellWord_17 rfl ?_
    replace E := Option.bind_eq_some_iff.mp E; obtain ⟨v4, ev4, E⟩ := E
    refine go_getI (n := 21) ev4 fl_RX4_58 rfl dX4_tellWord_18 rfl ?_
    refine go_iconst (z := 0) (n := 22) ⟨by decide, by decide⟩ dX4_tellWord_21 rfl ?_
    refine go_iconst (z := 0) (n := 23) ⟨by decide, by decide⟩ dX4_tellWord_22 rfl ?_
    replace E := Option.bind_eq_some_iff.mp E; obtain ⟨a7, ea7, E⟩ := E
    obtain ⟨fa7, ga7⟩ := xrc_some ea7
    replace E := xb_some E; obtain ⟨v5, h6, ev5, E⟩ := E
    refine go_callV (y := yX7_takePen) (n := 26) (st := []) (as := [vi (-1), vi v4, vi 0, vi 0]) (stk9 := []) (OX7_takePen ev5) yw_X7_takePen ci_7 ga7 wml_RX4_61 wim_X7_takePen wse_X7_takePen (Nat.le_of_ble_eq_true rfl) rfl ⟨Nat.le_of_ble_eq_true rfl, Nat.le_of_ble_eq_true rfl⟩ (Nat.le_of_ble_eq_true rfl) dX4_tellWord_23 rfl (by cases fa7; rfl) rfl ?_
    refine go_aload_n (j := 0) (n := 27) rfl rfl dX4_tellWord_26 rfl ?_
    replace E := Option.bind_eq_some_iff.mp E; obtain ⟨v8, ev8, E⟩ := E
    refine go_getP (n := 30) ev8 fl_RX4_22 rfl dX4_tellWord_27 rfl ?_
    refine go_iload_n (j := 1) (n := 31) rfl rfl dX4_tellWord_30 rfl ?_
    refine go_iload_n (j := 2) (n := 32) rfl rfl dX4_tellWord_31 rfl ?_
    replace E := Option.bind_eq_some_iff.mp E; obtain ⟨a11, ea11, E⟩ := E
    obtain ⟨fa11, ga11⟩ := xrc_some ea11
    replace E := xb_some E; obtain ⟨v9, h10, ev9, E⟩ := E
    refine go_callV (y := yX7_write) (n := 35) (st := []) (as := [vi l1, vi l2]) (stk9 := []) (OX7_write ev9) yw_X7_write ci_7 ga11 wml_RX4_67 wim_X7_write wse_X7_write (Nat.le_of_ble_eq_true rfl) rfl ⟨Nat.le_of_ble_eq_true rfl, Nat.le_of_ble_eq_true rfl⟩ (Nat.le_of_ble_eq_true rfl) dX4_tellWord_32 rfl (by cases fa11; rfl) rfl ?_
    refine go_aload_n (j := 0) (n := 36) rfl rfl dX4_tellWord_35 rfl ?_
    refine go_dup (n := 37) rfl dX4_tellWord_36 rfl ?_
    replace E := Option.bind_eq_some_iff.mp E; obtain ⟨v12, ev12, E⟩ := E
    refine go_getI (n := 40) ev12 fl_RX4_55 rfl dX4_tellWord_37 rfl ?_
    refine go_iconst (z := 1) (n := 41) ⟨by decide, by decide⟩ dX4_tellWord_40 rfl ?_
    refine go_iadd (n := 42) dX4_tellWord_41 rfl ?_
    replace E := Option.bind_eq_some_iff.mp E; obtain ⟨h13, eh13, E⟩ := E
    refine go_putI (n := 45) eh13 fl_RX4_55 rfl dX4_tellWord_42 rfl ?_
    refine go_aload_n (j := 0) (n := 46) rfl rfl dX4_tellWord_45 rfl ?_
    replace E := Option.bind_eq_some_iff.mp E; obtain ⟨v14, ev14, E⟩ := E
    refine go_getI (n := 49) ev14 fl_RX4_55 rfl dX4_tellWord_46 rfl ?_
    cases E
    exact go_ireturn rfl dX4_tellWord_49
  · rw [if_neg c2] at E
    refine go_iconst (z := (-1)) (n := 11) ⟨by decide, by decide⟩ dX4_tellWord_10 rfl ?_
    cases E
    exact go_ireturn rfl dX4_tellWord_11
theorem OX4_tellWord {F : Nat} {l0 : Nat} {l1 : Int} {l2 : Int} {h hf : HP} {r : Int} (e : X4_tellWord F l0 l1 l2 h = some (r, hf)) : Ok MX4_tellWord [vr (some l0), vi l1, vi l2] (some (vi r)) h hf := fun K _ _ _ => SX4_tellWord l0 l1 l2 h e
theorem wk_RX11_69 : Cond.constant RX11 69 (Int32.ofInt 99999) ∈ BW := bw_of 995 (by decide +kernel) rfl
theorem yw_X4_tellWord : YW yX4_tellWord cX4_tellWord 3 (some .int) 2 := ⟨bw_of 999 (by decide +kernel) rfl, bw_of 119 (by decide +kernel) rfl, ⟨by decide +kernel, by decide +kernel, by decide +kernel⟩, by decide +kernel⟩
theorem wml_RX11_70 : Cond.methodLink RX11 70 yX4_tellWord ∈ BW := bw_of 996 (by decide +kernel) rfl
theorem wim_X4_tellWord : Cond.instanceMethod yX4_tellWord ∈ BW := bw_of 997 (by decide +kernel) rfl
theorem wse_X4_tellWord : Cond.selects RX4 yX4_tellWord yX4_tellWord ∈ BW := bw_of 998 (by decide +kernel) rfl
abbrev MX11_ring : MI := (RX11, cX11_ring, 4, (some .int), 13, some [], "ring")
noncomputable def X11_ring (F : Nat)   (l0 : Nat) (l1 : Int) (l2 : Int) (l3 : Int)  (h : HP) : Option ((String ⊕ Int) × HP) :=
  xth (X11_needPlace F l1 4 h) fun v1 h2 =>
  xth (X11_needPlace F l2 4 h2) fun v3 h4 =>
  xth (X11_needNumber F l3 0 99999 h4) fun v5 h6 =>
  (xgP h6 (some l0) 11 6 2).bind fun v7 =>
  (xrc h6 v7 4 12).bind fun a10 =>
  xb (X4_tellWord F a10 (w32 ((w32 (4 * l1)) + l2)) l3 h6) fun v8 h9 =>
  some (.inr v8, h9)
set_option maxRecDepth 100000 in
theorem SX11_ring {K : Ctx} {F : Nat} {r : String ⊕ Int} {hf : HP}     (l0 : Nat) (l1 : Int) (l2 : Int) (l3 : Int)  (h : HP) (E : X11_ring F   l0 l1 l2 l3 h = some (r, hf)) : Go K MX11_ring (QMX K (rI r) hf) hf 0 [(0, vr (some l0)), (1, vi l1), (2, vi l2), (3, vi l3)] [] h := by
  unfold X11_ring at E
  refine go_iload_n (j := 1) (n := 1) rfl rfl dX11_ring_0 rfl ?_
  refine go_iconst (z := 4) (n := 2) ⟨by decide, by decide⟩ dX11_ring_1 rfl ?_
  replace E := xth_some E; rcases E with ⟨x13, ev1, rfl⟩ | ⟨v1, h2, ev1, E⟩
  · exact go_callXSt (y := yX11_needPlace) (as := [vi l1, vi 4]) (st := []) (OXX11_needPlace ev1) yw_X11_needPlace wml_RX11_54 wst_X11_needPlace (Nat.le_of_ble_eq_true rfl) rfl ⟨Nat.le_of_ble_eq_true rfl, Nat.le_of_ble_eq_true rfl⟩ (Nat.le_of_ble_eq_true rfl) dX11_ring_2 rfl rfl
  refine go_callXSr (y := yX11_needPlace) (n := 5) (st := []) (as := [vi l1, vi 4]) (stk9 := []) (OXX11_needPlace ev1) yw_X11_needPlace wml_RX11_54 wst_X11_needPlace (Nat.le_of_ble_eq_true rfl) rfl ⟨Nat.le_of_ble_eq_true rfl, Nat.le_of_ble_eq_true rfl⟩ (Nat.le_of_ble_eq_true rfl) dX11_ring_2 rfl rfl rfl ?_
  refine go_iload_n (j := 2) (n := 6) rfl rfl dX11_ring_5 rfl ?_
  refine go_iconst (z := 4) (n := 7) ⟨by decide, by decide⟩ dX11_ring_6 rfl ?_
  replace E := xth_some E; rcases E with ⟨x12, ev3, rfl⟩ | ⟨v3, h4, ev3, E⟩
  · exact go_callXSt (y := yX11_needPlace) (as := [vi l2, vi 4]) (st := []) (OXX11_needPlace ev3) yw_X11_needPlace wml_RX11_54 wst_X11_needPlace (Nat.le_of_ble_eq_true rfl) rfl ⟨Nat.le_of_ble_eq_true rfl, Nat.le_of_ble_eq_true rfl⟩ (Nat.le_of_ble_eq_true rfl) dX11_ring_7 rfl rfl
  refine go_callXSr (y := yX11_needPlace) (n := 10) (st := []) (as := [vi l2, vi 4]) (stk9 := []) (OXX11_needPlace ev3) yw_X11_needPlace wml_RX11_54 wst_X11_needPlace (Nat.le_of_ble_eq_true rfl) rfl ⟨Nat.le_of_ble_eq_true rfl, Nat.le_of_ble_eq_true rfl⟩ (Nat.le_of_ble_eq_true rfl) dX11_ring_7 rfl rfl rfl ?_
  refine go_iload_n (j := 3) (n := 11) rfl rfl dX11_ring_10 rfl ?_
  refine go_iconst (z := 0) (n := 12) ⟨by decide, by decide⟩ dX11_ring_11 rfl ?_
  refine go_ldc (z := 99999) (n := 14) ⟨by decide, by decide⟩ wk_RX11_69 dX11_ring_12 rfl ?_
  replace E := xth_some E; rcases E with ⟨x11, ev5, rfl⟩ | ⟨v5, h6, ev5, E⟩
  · exact go_callXSt (y := yX11_needNumber) (as := [vi l3, vi 0, vi 99999]) (st := []) (OXX11_needNumber ev5) yw_X11_needNumber wml_RX11_44 wst_X11_needNumber (Nat.le_of_ble_eq_true rfl) rfl ⟨Nat.le_of_ble_eq_true rfl, Nat.le_of_ble_eq_true rfl⟩ (Nat.le_of_ble_eq_true rfl) dX11_ring_14 rfl rfl
  refine go_callXSr (y := yX11_needNumber) (n := 17) (st := []) (as := [vi l3, vi 0, vi 99999]) (stk9 := []) (OXX11_needNumber ev5) yw_X11_needNumber wml_RX11_44 wst_X11_needNumber (Nat.le_of_ble_eq_true rfl) rfl ⟨Nat.le_of_ble_eq_true rfl, Nat.le_of_ble_eq_true rfl⟩ (Nat.le_of_ble_eq_true rfl) dX11_ring_14 rfl rfl rfl ?_
  refine go_aload_n (j := 0) (n := 18) rfl rfl dX11_ring_17 rfl ?_
  replace E := Option.bind_eq_some_iff.mp E; obtain ⟨v7, ev7, E⟩ := E
  refine go_getP (n := 21) ev7 fl_RX11_23 rfl dX11_ring_18 rfl ?_
  refine go_iconst (z := 4) (n := 22) ⟨by decide, by decide⟩ dX11_ring_21 rfl ?_
  refine go_iload_n (j := 1) (n := 23) rfl rfl dX11_ring_22 rfl ?_
  refine go_imul (n := 24) dX11_ring_23 rfl ?_
  refine go_iload_n (j := 2) (n := 25) rfl rfl dX11_ring_24 rfl ?_
  refine go_iadd (n := 26) dX11_ring_25 rfl ?_
  refine go_iload_n (j := 3) (n := 27) rfl rfl dX11_ring_26 rfl ?_
  replace E := Option.bind_eq_some_iff.mp E; obtain ⟨a10, ea10, E⟩ := E
  obtain ⟨fa10, ga10⟩ := xrc_some ea10
  replace E := xb_some E; obtain ⟨v8, h9, ev8, E⟩ := E
  refine go_callV (y := yX4_tellWord) (n := 30) (st := []) (as := [vi (w32 ((w32 (4 * l1)) + l2)), vi l3]) (stk9 := [vi v8]) (OX4_tellWord ev8) yw_X4_tellWord ci_4 ga10 wml_RX11_70 wim_X4_tellWord wse_X4_tellWord (Nat.le_of_ble_eq_true rfl) rfl ⟨Nat.le_of_ble_eq_true rfl, Nat.le_of_ble_eq_true rfl⟩ (Nat.le_of_ble_eq_true rfl) dX11_ring_27 rfl (by cases fa10; rfl) rfl ?_
  cases E
  exact go_ret (go_ireturn rfl dX11_ring_30)
theorem OXX11_ring {F : Nat} {l0 : Nat} {l1 : Int} {l2 : Int} {l3 : Int} {h hf : HP} {r : String ⊕ Int} (e : X11_ring F l0 l1 l2 l3 h = some (r, hf)) : OkX MX11_ring [vr (some l0), vi l1, vi l2, vi l3] (rI r) h hf := fun K _ _ _ => SX11_ring l0 l1 l2 l3 h e
theorem fl_RX11_129 : FL RX11 129 2 18 6 false := ⟨RX2, TX2, ci_2, by decide, bw_of 321 (by decide +kernel) rfl, rfl, rfl⟩
theorem fl_RX11_132 : FL RX11 132 2 18 7 false := ⟨RX2, TX2, ci_2, by decide, bw_of 324 (by decide +kernel) rfl, rfl, rfl⟩
theorem fl_RX11_135 : FL RX11 135 2 18 8 false := ⟨RX2, TX2, ci_2, by decide, bw_of 327 (by decide +kernel) rfl, rfl, rfl⟩
abbrev MX11_shorter : MI := (RX11, cX11_shorter, 6, none, 13, some [], "shorter")
noncomputable def X11_shorter (F : Nat)   (l0 : Nat) (l1 : Int) (l2 : Int) (l3 : Int) (l4 : Int)  (h : HP) : Option ((String ⊕ Unit) × HP) :=
  (xgP h (some l0) 11 6 2).bind fun v1 =>
  (xgP h v1 4 12 2).bind fun v2 =>
  (xgI h v2 3 7 5).bind fun v3 =>
  xth (X11_needPlace F l1 v3 h) fun v4 h5 =>
  xth (X11_needNumber F l2 0 60 h5) fun v6 h7 =>
  xth (X11_needNumber F l3 0 1000 h7) fun v8 h9 =>
  xth (X11_needNumber F l4 (-9999) 9999 h9) fun v10 h11 =>
  (xgP h11 (some l0) 11 6 2).bind fun v12 =>
  (xgP h11 v12 4 12 2).bind fun v13 =>
  (xrc h11 v13 3 7).bind fun a16 =>
  xb (X3_at F a16 l1 h11) fun v14 h15 =>
  (xpI h15 v14 2 18 6 l2).bind fun h17 =>
  (xpI h17 v14 2 18 7 l3).bind fun h18 =>
  (xpI h18 v14 2 18 8 l4).bind fun h19 =>
  some (.inr (), h19)
set_option maxRecDepth 100000 in
theorem SX11_shorter {K : Ctx} {F : Nat} {r : String ⊕ Unit} {hf : HP}     (l0 : Nat) (l1 : Int) (l2 : Int) (l3 : Int) (l4 : Int)  (h : HP) (E : X11_shorter F   l0 l1 l2 l3 l4 h = some (r, hf)) : Go K MX11_shorter (QMX K (rU r) hf) hf 0 [(0, vr (some l0)), (1, vi l1), (2, vi l2), (3, vi l3), (4, vi l4)] [] h := by
  unfold X11_shorter at E
  refine go_iload_n (j := 1) (n := 1) rfl rfl dX11_shorter_0 rfl ?_
  refine go_aload_n (j := 0) (n := 2) rfl rfl dX11_shorter_1 rfl ?_
  replace E := Option.bind_eq_some_iff.mp E; obtain ⟨v1, ev1, E⟩ := E
  refine go_getP (n := 5) ev1 fl_RX11_23 rfl dX11_shorter_2 rfl ?_
  replace E := Option.bind_eq_some_iff.mp E; obtain ⟨v2, ev2, E⟩ := E
  refine go_getP (n := 8) ev2 fl_RX11_101 rfl dX11_shorter_5 rfl ?_
  replace E := Option.bind_eq_some_iff.mp E; obtain ⟨v3, ev3, E⟩ := E
  refine go_getI (n := 11) ev3 fl_RX11_105 rfl dX11_shorter_8 rfl ?_
  replace E := xth_some E; rcases E with ⟨x23, ev4, rfl⟩ | ⟨v4, h5, ev4, E⟩
  · exact go_callXSt (y := yX11_needPlace) (as := [vi l1, vi v3]) (st := []) (OXX11_needPlace ev4) yw_X11_needPlace wml_RX11_54 wst_X11_needPlace (Nat.le_of_ble_eq_true rfl) rfl ⟨Nat.le_of_ble_eq_true rfl, Nat.le_of_ble_eq_true rfl⟩ (Nat.le_of_ble_eq_true rfl) dX11_shorter_11 rfl rfl
  refine go_callXSr (y := yX11_needPlace) (n := 14) (st := []) (as := [vi l1, vi v3]) (stk9 := []) (OXX11_needPlace ev4) yw_X11_needPlace wml_RX11_54 wst_X11_needPlace (Nat.le_of_ble_eq_true rfl) rfl ⟨Nat.le_of_ble_eq_true rfl, Nat.le_of_ble_eq_true rfl⟩ (Nat.le_of_ble_eq_true rfl) dX11_shorter_11 rfl rfl rfl ?_
  refine go_iload_n (j := 2) (n := 15) rfl rfl dX11_shorter_14 rfl ?_
  refine go_iconst (z := 0) (n := 16) ⟨by decide, by decide⟩ dX11_shorter_15 rfl ?_
  refine go_bipush (z := 60) (n := 18) ⟨by decide, by decide⟩ dX11_shorter_16 rfl ?_
  replace E := xth_some E; rcases E with ⟨x22, ev6, rfl⟩ | ⟨v6, h7, ev6, E⟩
  · exact go_callXSt (y := yX11_needNumber) (as := [vi l2, vi 0, vi 60]) (st := []) (OXX11_needNumber ev6) yw_X11_needNumber wml_RX11_44 wst_X11_needNumber (Nat.le_of_ble_eq_true rfl) rfl ⟨Nat.le_of_ble_eq_true rfl, Nat.le_of_ble_eq_true rfl⟩ (Nat.le_of_ble_eq_true rfl) dX11_shorter_18 rfl rfl
  refine go_callXSr (y := yX11_needNumber) (n := 21) (st := []) (as := [vi l2, vi 0, vi 60]) (stk9 := []) (OXX11_needNumber ev6) yw_X11_needNumber wml_RX11_44 wst_X11_needNumber (Nat.le_of_ble_eq_true rfl) rfl ⟨Nat.le_of_ble_eq_true rfl, Nat.le_of_ble_eq_true rfl⟩ (Nat.le_of_ble_eq_true rfl) dX11_shorter_18 rfl rfl rfl ?_
  refine go_iload_n (j := 3) (n := 22) rfl rfl dX11_shorter_21 rfl ?_
  refine go_iconst (z := 0) (n := 23) ⟨by decide, by decide⟩ dX11_shorter_22 rfl ?_
  refine go_sipush (z := 1000) (n := 26) ⟨by decide, by decide⟩ dX11_shorter_23 rfl ?_
  replace E := xth_some E; rcases E with ⟨x21, ev8, rfl⟩ | ⟨v8, h9, ev8, E⟩
  · exact go_callXSt (y := yX11_needNumber) (as := [vi l3, vi 0, vi 1000]) (st := []) (OXX11_needNumber ev8) yw_X11_needNumber wml_RX11_44 wst_X11_needNumber (Nat.le_of_ble_eq_true rfl) rfl ⟨Nat.le_of_ble_eq_true rfl, Nat.le_of_ble_eq_true rfl⟩ (Nat.le_of_ble_eq_true rfl) dX11_shorter_26 rfl rfl
  refine go_callXSr (y := yX11_needNumber) (n := 29) (st := []) (as := [vi l3, vi 0, vi 1000]) (stk9 := []) (OXX11_needNumber ev8) yw_X11_needNumber wml_RX11_44 wst_X11_needNumber (Nat.le_of_ble_eq_true rfl) rfl ⟨Nat.le_of_ble_eq_true rfl, Nat.le_of_ble_eq_true rfl⟩ (Nat.le_of_ble_eq_true rfl) dX11_shorter_26 rfl rfl rfl ?_
  refine go_iload (j := 4) (n := 31) rfl dX11_shorter_29 rfl ?_
  refine go_sipush (z := (-9999)) (n := 34) ⟨by decide, by decide⟩ dX11_shorter_31 rfl ?_
  refine go_sipush (z := 9999) (n := 37) ⟨by decide, by decide⟩ dX11_shorter_34 rfl ?_
  replace E := xth_some E; rcases E with ⟨x20, ev10, rfl⟩ | ⟨v10, h11, ev10, E⟩
  · exact go_callXSt (y := yX11_needNumber) (as := [vi l4, vi (-9999), vi 9999]) (st := []) (OXX11_needNumber ev10) yw_X11_needNumber wml_RX11_44 wst_X11_needNumber (Nat.le_of_ble_eq_true rfl) rfl ⟨Nat.le_of_ble_eq_true rfl, Nat.le_of_ble_eq_true rfl⟩ (Nat.le_of_ble_eq_true rfl) dX11_shorter_37 rfl rfl
  refine go_callXSr (y := yX11_needNumber) (n := 40) (st := []) (as := [vi l4, vi (-9999), vi 9999]) (stk9 := []) (OXX11_needNumber ev10) yw_X11_needNumber wml_RX11_44 wst_X11_needNumber (Nat.le_of_ble_eq_true rfl) rfl ⟨Nat.le_of_ble_eq_true rfl, Nat.le_of_ble_eq_true rfl⟩ (Nat.le_of_ble_eq_true rfl) dX11_shorter_37 rfl rfl rfl ?_
  refine go_aload_n (j := 0) (n := 41) rfl rfl dX11_shorter_40 rfl ?_
  replace E := Option.bind_eq_some_iff.mp E; obtain ⟨v12, ev12, E⟩ := E
  refine go_getP (n := 44) ev12 fl_RX11_23 rfl dX11_shorter_41 rfl ?_
  replace E := Option.bind_eq_some_iff.mp E; obtain ⟨v13, ev13, E⟩ := E
  refine go_getP (n := 47) ev13 fl_RX11_101 rfl dX11_shorter_44 rfl ?_
  refine go_iload_n (j := 1) (n := 48) rfl rfl dX11_shorter_47 rfl ?_
  replace E := Option.bind_eq_some_iff.mp E; obtain ⟨a16, ea16, E⟩ := E
  obtain ⟨fa16, ga16⟩ := xrc_some ea16
  replace E := xb_some E; obtain ⟨v14, h15, ev14, E⟩ := E
  refine go_callV (y := yX3_at) (n := 51) (st := []) (as := [vi l1]) (stk9 := [vr v14]) (OX3_at ev14) yw_X3_at ci_3 ga16 wml_RX11_115 wim_X3_at wse_X3_at (Nat.le_of_ble_eq_true rfl) rfl ⟨Nat.le_of_ble_eq_true rfl, Nat.le_of_ble_eq_true rfl⟩ (Nat.le_of_ble_eq_true rfl) dX11_shorter_48 rfl (by cases fa16; rfl) rfl ?_
  refine go_astore (n := 53) (lv' := [(5, vr v14), (0, vr (some l0)), (1, vi l1), (2, vi l2), (3, vi l3), (4, vi l4)]) dX11_shorter_51 rfl (Nat.le_of_ble_eq_true rfl) rfl ?_
  refine go_aload (j := 0) (n := 55) rfl dX11_shorter_53 rfl ?_
  refine go_iload_n (j := 3) (n := 56) rfl rfl dX11_shorter_55 rfl ?_
  replace E := Option.bind_eq_some_iff.mp E; obtain ⟨h17, eh17, E⟩ := E
  refine go_putI (n := 59) eh17 fl_RX11_129 rfl dX11_shorter_56 rfl ?_
  refine go_aload (j := 0) (n := 61) rfl dX11_shorter_59 rfl ?_
  refine go_iload_n (j := 4) (n := 62) rfl rfl dX11_shorter_61 rfl ?_
  replace E := Option.bind_eq_some_iff.mp E; obtain ⟨h18, eh18, E⟩ := E
  refine go_putI (n := 65) eh18 fl_RX11_132 rfl dX11_shorter_62 rfl ?_
  refine go_aload (j := 0) (n := 67) rfl dX11_shorter_65 rfl ?_
  refine go_iload (j := 5) (n := 69) rfl dX11_shorter_67 rfl ?_
  replace E := Option.bind_eq_some_iff.mp E; obtain ⟨h19, eh19, E⟩ := E
  refine go_putI (n := 72) eh19 fl_RX11_135 rfl dX11_shorter_69 rfl ?_
  cases E
  exact go_ret (go_return rfl dX11_shorter_72)
theorem OXX11_shorter {F : Nat} {l0 : Nat} {l1 : Int} {l2 : Int} {l3 : Int} {l4 : Int} {h hf : HP} {r : String ⊕ Unit} (e : X11_shorter F l0 l1 l2 l3 l4 h = some (r, hf)) : OkX MX11_shorter [vr (some l0), vi l1, vi l2, vi l3, vi l4] (rU r) h hf := fun K _ _ _ => SX11_shorter l0 l1 l2 l3 l4 h e
theorem wml_RX7_84 : Cond.methodLink RX7 84 yX7_valueOf ∈ BW := bw_of 1741 (by decide +kernel) rfl
abbrev MX7_tearRow : MI := (RX7, cX7_tearRow, 3, (some .int), 3, none, "tearRow")
noncomputable def X7_tearRow_L21 (F : Nat)   (l0 : Nat) (l1 : Int)  (h : HP) : Option (Int × HP) :=
  (xrc h (some l0) 7 10).bind fun a3 =>
  xb (X7_valueOf F a3 l1 h) fun v1 h2 =>
  some (v1, h2)
set_option maxRecDepth 100000 in
theorem SX7_tearRow_L21 {K : Ctx} {F : Nat} {r : Int} {hf : HP}     (l0 : Nat) (l1 : Int)  (h : HP) (E : X7_tearRow_L21 F   l0 l1 h = some (r, hf)) : Go K MX7_tearRow (QM K (some (vi r)) hf) hf 21 [(0, vr (some l0)), (1, vi l1)] [] h := by
  unfold X7_tearRow_L21 at E
  refine go_aload_n (j := 0) (n := 22) rfl rfl dX7_tearRow_21 rfl ?_
  refine go_iload_n (j := 1) (n := 23) rfl rfl dX7_tearRow_22 rfl ?_
  replace E := Option.bind_eq_some_iff.mp E; obtain ⟨a3, ea3, E⟩ := E
  obtain ⟨fa3, ga3⟩ := xrc_some ea3
  replace E := xb_some E; obtain ⟨v1, h2, ev1, E⟩ := E
  refine go_callV (y := yX7_valueOf) (n := 26) (st := []) (as := [vi l1]) (stk9 := [vi v1]) (OX7_valueOf ev1) yw_X7_valueOf ci_7 ga3 wml_RX7_84 wim_X7_valueOf wse_X7_valueOf (Nat.le_of_ble_eq_true rfl) rfl ⟨Nat.le_of_ble_eq_true rfl, Nat.le_of_ble_eq_true rfl⟩ (Nat.le_of_ble_eq_true rfl) dX7_tearRow_23 rfl (by cases fa3; rfl) rfl ?_
  cases E
  exact go_ireturn rfl dX7_tearRow_26
noncomputable def X7_tearRow (F : Nat)   (l0 : Nat) (l1 : Int) (l2 : Int)  (h : HP) : Option (Int × HP) :=
  if l1 < 0 then
    X7_tearRow_L21 F l0 l1 h
  else
    if 5120 ≤ l1 then
      X7_tearRow_L21 F l0 l1 h
    else
      (xgP h (some l0) 7 10 5).bind fun v3 =>
      (xaI h v3 100 l1).bind fun v4 =>
      (xsI h v3 l1 (xxor v4 l2)).bind fun h5 =>
      X7_tearRow_L21 F l0 l1 h5
set_option maxRecDepth 100000 in
theorem SX7_tearRow {K : Ctx} {F : Nat} {r : Int} {hf : HP}     (l0 : Nat) (l1 : Int) (l2 : Int)  (h : HP) (E : X7_tearRow F   l0 l1 l2 h = some (r, hf)) : Go K MX7_tearRow (QM K (some (vi r)) hf) hf 0 [(0, vr (some l0)), (1, vi l1), (2, vi l2)] [] h := by
  unfold X7_tearRow at E
  refine go_iload_n (j := 1) (n := 1) rfl rfl dX7_tearRow_0 rfl ?_
  refine go_if_lt (tgt := 21) (n := 4) dX7_tearRow_1 rfl rfl (fun c1 => ?_) (fun c1 => ?_)
  · rw [if_pos c1] at E
    refine go_pick (lv' := [(0, vr (some l0)), (1, vi l1)]) [0, 1] rfl ?_
    exact SX7_tearRow_L21     _ _  _ E
  · rw [if_neg c1] at E
    refine go_iload_n (j := 1) (n := 5) rfl rfl dX7_tearRow_4 rfl ?_
    refine go_sipush (z := 5120) (n := 8) ⟨by decide, by decide⟩ dX7_tearRow_5 rfl ?_
    refine go_icmp_ge (tgt := 21) (n := 11) dX7_tearRow_8 rfl rfl (fun c2 => ?_) (fun c2 => ?_)
    · rw [if_pos c2] at E
      refine go_pick (lv' := [(0, vr (some l0)), (1, vi l1)]) [0, 1] rfl ?_
      exact SX7_tearRow_L21     _ _  _ E
    · rw [if_neg c2] at E
      refine go_aload_n (j := 0) (n := 12) rfl rfl dX7_tearRow_11 rfl ?_
      replace E := Option.bind_eq_some_iff.mp E; obtain ⟨v3, ev3, E⟩ := E
      refine go_getP (n := 15) ev3 fl_RX7_27 rfl dX7_tearRow_12 rfl ?_
      refine go_iload_n (j := 1) (n := 16) rfl rfl dX7_tearRow_15 rfl ?_
      refine go_dup2 (n := 17) rfl rfl dX7_tearRow_16 rfl ?_
      replace E := Option.bind_eq_some_iff.mp E; obtain ⟨v4, ev4, E⟩ := E
      refine go_iaload (n := 18) ev4 dX7_tearRow_17 rfl ?_
      refine go_iload_n (j := 2) (n := 19) rfl rfl dX7_tearRow_18 rfl ?_
      refine go_ixor (n := 20) dX7_tearRow_19 rfl ?_
      replace E := Option.bind_eq_some_iff.mp E; obtain ⟨h5, eh5, E⟩ := E
      refine go_iastore (n := 21) eh5 dX7_tearRow_20 rfl ?_
      refine go_pick (lv' := [(0, vr (some l0)), (1, vi l1)]) [0, 1] rfl ?_
      exact SX7_tearRow_L21     _ _  _ E
theorem OX7_tearRow {F : Nat} {l0 : Nat} {l1 : Int} {l2 : Int} {h hf : HP} {r : Int} (e : X7_tearRow F l0 l1 l2 h = some (r, hf)) : Ok MX7_tearRow [vr (some l0), vi l1, vi l2] (some (vi r)) h hf := fun K _ _ _ => SX7_tearRow l0 l1 l2 h e
theorem wml_RX11_299 : Cond.methodLink RX11 299 yX7_shownRows ∈ BW := bw_of 1735 (by decide +kernel) rfl
theorem yw_X7_tearRow : YW yX7_tearRow cX7_tearRow 3 (some .int) 2 := ⟨bw_of 1740 (by decide +kernel) rfl, bw_of 121 (by decide +kernel) rfl, ⟨by decide +kernel, by decide +kernel, by decide +kernel⟩, by decide +kernel⟩
theorem wml_RX11_310 : Cond.methodLink RX11 310 yX7_tearRow ∈ BW := bw_of 1737 (by decide +kernel) rfl
theorem wim_X7_tearRow : Cond.instanceMethod yX7_tearRow ∈ BW := bw_of 1738 (by decide +kernel) rfl
theorem wse_X7_tearRow : Cond.selects RX7 yX7_tearRow yX7_tearRow ∈ BW := bw_of 1739 (by decide +kernel) rfl
abbrev MX11_tear : MI := (RX11, cX11_tear, 4, (some .int), 12, some [], "tear")
noncomputable def X11_tear_L20 (F : Nat)     (h : HP) : Option ((String ⊕ Int) × HP) :=
  some (.inl "java/util/NoSuchElementException", exc h)
set_option maxRecDepth 100000 in
theorem SX11_tear_L20 {K : Ctx} {F : Nat} {r : String ⊕ Int} {hf : HP}       (h : HP) (E : X11_tear_L20 F    h = some (r, hf)) : Go K MX11_tear (QMX K (rI r) hf) hf 20 [] [] h := by
  unfold X11_tear_L20 at E
  cases E
  exact go_throwN (j := 27) xt_RX11_302_306 rfl rfl rfl (Nat.le_of_ble_eq_true rfl) dX11_tear_20 dX11_tear_23 dX11_tear_24 dX11_tear_27 dX11_tear_30 (Nat.le_of_ble_eq_true rfl)
noncomputable def X11_tear (F : Nat)   (l0 : Nat) (l1 : Int) (l2 : Int)  (h : HP) : Option ((String ⊕ Int) × HP) :=
  (xgP h (some l0) 11 6 2).bind fun v1 =>
  (xgP h v1 4 12 1).bind fun v2 =>
  (xrc h v2 7 10).bind fun a5 =>
  xb (X7_shownRows F a5 h) fun v3 h4 =>
  if l1 < 0 then
    X11_tear_L20 F h4
  else
    if l1 < v3 then
      (xgP h4 (some l0) 11 6 2).bind fun v8 =>
      (xgP h4 v8 4 12 1).bind fun v9 =>
      (xgP h4 (some l0) 11 6 2).bind fun v10 =>
      (xgP h4 v10 4 12 1).bind fun v11 =>
      (xgI h4 v11 7 10 7).bind fun v12 =>
      (xrc h4 v9 7 10).bind fun a15 =>
      xb (X7_tearRow F a15 (w32 ((w32 (v12 - v3)) + l1)) l2 h4) fun v13 h14 =>
      some (.inr v13, h14)
    else
      X11_tear_L20 F h4
set_option maxRecDepth 100000 in
theorem SX11_tear {K : Ctx} {F : Nat} {r : String ⊕ Int} {hf : HP}     (l0 : Nat) (l1 : Int) (l2 : Int)  (h : HP) (E : X11_tear F   l0 l1 l2 h = some (r, hf)) : Go K MX11_tear (QMX K (rI r) hf) hf 0 [(0, vr (some l0)), (1, vi l1), (2, vi l2)] [] h := by
  unfold X11_tear at E
  refine go_aload_n (j := 0) (n := 1) rfl rfl dX11_tear_0 rfl ?_
  replace E := Option.bind_eq_some_iff.mp E; obtain ⟨v1, ev1, E⟩ := E
  refine go_getP (n := 4) ev1 fl_RX11_23 rfl dX11_tear_1 rfl ?_
  replace E := Option.bind_eq_some_iff.mp E; obtain ⟨v2, ev2, E⟩ := E
  refine go_getP (n := 7) ev2 fl_RX11_60 rfl dX11_tear_4 rfl ?_
  replace E := Option.bind_eq_some_iff.mp E; obtain ⟨a5, ea5, E⟩ := E
  obtain ⟨fa5, ga5⟩ := xrc_some ea5
  replace E := xb_some E; obtain ⟨v3, h4, ev3, E⟩ := E
  refine go_callV (y := yX7_shownRows) (n := 10) (st := []) (as := []) (stk9 := [vi v3]) (OX7_shownRows ev3) yw_X7_shownRows ci_7 ga5 wml_RX11_299 wim_X7_shownRows wse_X7_shownRows (Nat.le_of_ble_eq_true rfl) rfl ⟨Nat.le_of_ble_eq_true rfl, Nat.le_of_ble_eq_true rfl⟩ (Nat.le_of_ble_eq_true rfl) dX11_tear_7 rfl (by cases fa5; rfl) rfl ?_
  refine go_istore_n (n := 11) (lv' := [(3, vi v3), (0, vr (some l0)), (1, vi l1), (2, vi l2)]) rfl dX11_tear_10 rfl (Nat.le_of_ble_eq_true rfl) rfl ?_
  refine go_iload_n (j := 2) (n := 12) rfl rfl dX11_tear_11 rfl ?_
  refine go_if_lt (tgt := 20) (n := 15) dX11_tear_12 rfl rfl (fun c6 => ?_) (fun c6 => ?_)
  · rw [if_pos c6] at E
    refine go_pick (lv' := []) [] rfl ?_
    exact SX11_tear_L20       _ E
  · rw [if_neg c6] at E
    refine go_iload_n (j := 2) (n := 16) rfl rfl dX11_tear_15 rfl ?_
    refine go_iload_n (j := 0) (n := 17) rfl rfl dX11_tear_16 rfl ?_
    refine go_icmp_lt (tgt := 31) (n := 20) dX11_tear_17 rfl rfl (fun c7 => ?_) (fun c7 => ?_)
    · rw [if_pos c7] at E
      refine go_aload_n (j := 1) (n := 32) rfl rfl dX11_tear_31 rfl ?_
      replace E := Option.bind_eq_some_iff.mp E; obtain ⟨v8, ev8, E⟩ := E
      refine go_getP (n := 35) ev8 fl_RX11_23 rfl dX11_tear_32 rfl ?_
      replace E := Option.bind_eq_some_iff.mp E; obtain ⟨v9, ev9, E⟩ := E
      refine go_getP (n := 38) ev9 fl_RX11_60 rfl dX11_tear_35 rfl ?_
      refine go_aload_n (j := 1) (n := 39) rfl rfl dX11_tear_38 rfl ?_
      replace E := Option.bind_eq_some_iff.mp E; obtain ⟨v10, ev10, E⟩ := E
      refine go_getP (n := 42) ev10 fl_RX11_23 rfl dX11_tear_39 rfl ?_
      replace E := Option.bind_eq_some_iff.mp E; obtain ⟨v11, ev11, E⟩ := E
      refine go_getP (n := 45) ev11 fl_RX11_60 rfl dX11_tear_42 rfl ?_
      replace E := Option.bind_eq_some_iff.mp E; obtain ⟨v12, ev12, E⟩ := E
      refine go_getI (n := 48) ev12 fl_RX11_307 rfl dX11_tear_45 rfl ?_
      refine go_iload_n (j := 0) (n := 49) rfl rfl dX11_tear_48 rfl ?_
      refine go_isub (n := 50) dX11_tear_49 rfl ?_
      refine go_iload_n (j := 2) (n := 51) rfl rfl dX11_tear_50 rfl ?_
      refine go_iadd (n := 52) dX11_tear_51 rfl ?_
      refine go_iload_n (j := 3) (n := 53) rfl rfl dX11_tear_52 rfl ?_
      replace E := Option.bind_eq_some_iff.mp E; obtain ⟨a15, ea15, E⟩ := E
      obtain ⟨fa15, ga15⟩ := xrc_some ea15
      replace E := xb_some E; obtain ⟨v13, h14, ev13, E⟩ := E
      refine go_callV (y := yX7_tearRow) (n := 56) (st := []) (as := [vi (w32 ((w32 (v12 - v3)) + l1)), vi l2]) (stk9 := [vi v13]) (OX7_tearRow ev13) yw_X7_tearRow ci_7 ga15 wml_RX11_310 wim_X7_tearRow wse_X7_tearRow (Nat.le_of_ble_eq_true rfl) rfl ⟨Nat.le_of_ble_eq_true rfl, Nat.le_of_ble_eq_true rfl⟩ (Nat.le_of_ble_eq_true rfl) dX11_tear_53 rfl (by cases fa15; rfl) rfl ?_
      cases E
      exact go_ret (go_ireturn rfl dX11_tear_56)
    · rw [if_neg c7] at E
      refine go_pick (lv' := []) [] rfl ?_
      exact SX11_tear_L20       _ E
theorem OXX11_tear {F : Nat} {l0 : Nat} {l1 : Int} {l2 : Int} {h hf : HP} {r : String ⊕ Int} (e : X11_tear F l0 l1 l2 h = some (r, hf)) : OkX MX11_tear [vr (some l0), vi l1, vi l2] (rI r) h hf := fun K _ _ _ => SX11_tear l0 l1 l2 h e
abbrev MX11_tell : MI := (RX11, cX11_tell, 3, (some .int), 13, some [], "tell")
noncomputable def X11_tell (F : Nat)   (l0 : Nat) (l1 : Int) (l2 : Int)  (h : HP) : Option ((String ⊕ Int) × HP) :=
  xth (X11_needPlace F l1 64 h) fun v1 h2 =>
  xth (X11_needNumber F l2 (-999999999) 999999999 h2) fun v3 h4 =>
  (xgP h4 (some l0) 11 6 2).bind fun v5 =>
  (xrc h4 v5 4 12).bind fun a8 =>
  xb (X4_tellWord F a8 l1 l2 h4) fun v6 h7 =>
  some (.inr v6, h7)
set_option maxRecDepth 100000 in
theorem SX11_tell {K : Ctx} {F : Nat} {r : String ⊕ Int} {hf : HP}     (l0 : Nat) (l1 : Int) (l2 : Int)  (h : HP) (E : X11_tell F   l0 l1 l2 h = some (r, hf)) : Go K MX11_tell (QMX K (rI r) hf) hf 0 [(0, vr (some l0)), (1, vi l1), (2, vi l2)] [] h := by
  unfold X11_tell at E
  refine go_iload_n (j := 1) (n := 1) rfl rfl dX11_tell_0 rfl ?_
  refine go_bipush (z := 64) (n := 3) ⟨by decide, by decide⟩ dX11_tell_1 rfl ?_
  replace E := xth_some E; rcases E with ⟨x10, ev1, rfl⟩ | ⟨v1, h2, ev1, E⟩
  · exact go_callXSt (y := yX11_needPlace) (as := [vi l1, vi 64]) (st := []) (OXX11_needPlace ev1) yw_X11_needPlace wml_RX11_54 wst_X11_needPlace (Nat.le_of_ble_eq_true rfl) rfl ⟨Nat.le_of_ble_eq_true rfl, Nat.le_of_ble_eq_true rfl⟩ (Nat.le_of_ble_eq_true rfl) dX11_tell_3 rfl rfl
  refine go_callXSr (y := yX11_needPlace) (n := 6) (st := []) (as := [vi l1, vi 64]) (stk9 := []) (OXX11_needPlace ev1) yw_X11_needPlace wml_RX11_54 wst_X11_needPlace (Nat.le_of_ble_eq_true rfl) rfl ⟨Nat.le_of_ble_eq_true rfl, Nat.le_of_ble_eq_true rfl⟩ (Nat.le_of_ble_eq_true rfl) dX11_tell_3 rfl rfl rfl ?_
  refine go_iload_n (j := 2) (n := 7) rfl rfl dX11_tell_6 rfl ?_
  refine go_ldc (z := (-999999999)) (n := 9) ⟨by decide, by decide⟩ wk_RX11_58 dX11_tell_7 rfl ?_
  refine go_ldc (z := 999999999) (n := 11) ⟨by decide, by decide⟩ wk_RX11_59 dX11_tell_9 rfl ?_
  replace E := xth_some E; rcases E with ⟨x9, ev3, rfl⟩ | ⟨v3, h4, ev3, E⟩
  · exact go_callXSt (y := yX11_needNumber) (as := [vi l2, vi (-999999999), vi 999999999]) (st := []) (OXX11_needNumber ev3) yw_X11_needNumber wml_RX11_44 wst_X11_needNumber (Nat.le_of_ble_eq_true rfl) rfl ⟨Nat.le_of_ble_eq_true rfl, Nat.le_of_ble_eq_true rfl⟩ (Nat.le_of_ble_eq_true rfl) dX11_tell_11 rfl rfl
  refine go_callXSr (y := yX11_needNumber) (n := 14) (st := []) (as := [vi l2, vi (-999999999), vi 999999999]) (stk9 := []) (OXX11_needNumber ev3) yw_X11_needNumber wml_RX11_44 wst_X11_needNumber (Nat.le_of_ble_eq_true rfl) rfl ⟨Nat.le_of_ble_eq_true rfl, Nat.le_of_ble_eq_true rfl⟩ (Nat.le_of_ble_eq_true rfl) dX11_tell_11 rfl rfl rfl ?_
  refine go_aload_n (j := 0) (n := 15) rfl rfl dX11_tell_14 rfl ?_
  replace E := Option.bind_eq_some_iff.mp E; obtain ⟨v5, ev5, E⟩ := E
  refine go_getP (n := 18) ev5 fl_RX11_23 rfl dX11_tell_15 rfl ?_
  refine go_iload_n (j := 1) (n := 19) rfl rfl dX11_tell_18 rfl ?_
  refine go_iload_n (j := 2) (n := 20) rfl rfl dX11_tell_19 rfl ?_
  replace E := Option.bind_eq_some_iff.mp E; obtain ⟨a8, ea8, E⟩ := E
  obtain ⟨fa8, ga8⟩ := xrc_some ea8
  replace E := xb_some E; obtain ⟨v6, h7, ev6, E⟩ := E
  refine go_callV (y := yX4_tellWord) (n := 23) (st := []) (as := [vi l1, vi l2]) (stk9 := [vi v6]) (OX4_tellWord ev6) yw_X4_tellWord ci_4 ga8 wml_RX11_70 wim_X4_tellWord wse_X4_tellWord (Nat.le_of_ble_eq_true rfl) rfl ⟨Nat.le_of_ble_eq_true rfl, Nat.le_of_ble_eq_true rfl⟩ (Nat.le_of_ble_eq_true rfl) dX11_tell_20 rfl (by cases fa8; rfl) rfl ?_
  cases E
  exact go_ret (go_ireturn rfl dX11_tell_23)
theorem OXX11_tell {F : Nat} {l0 : Nat} {l1 : Int} {l2 : Int} {h hf : HP} {r : String ⊕ Int} (e : X11_tell F l0 l1 l2 h = some (r, hf)) : OkX MX11_tell [vr (some l0), vi l1, vi l2] (rI r) h hf := fun K _ _ _ => SX11_tell l0 l1 l2 h e
