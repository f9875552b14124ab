/-! the methods, decompiled: written by dec.py -/
abbrev MX12_wages : MI := (RX12, cX12_wages, 5, (some .int), 7, none, "wages")
noncomputable def X12_wages_L89 (F : Nat)   (k : Nat) : Nat → Int → Int → HP → Option (Int × HP) :=
  Nat.rec (motive := fun _ => Nat → Int → Int → HP → Option (Int × HP)) (fun _ _ _ _ => none) (fun _ rc89 l0 l3 l4 h =>
    (xgP h (some l0) 12 31 1).bind fun v1 =>
    (xaI h v1 100 11275).bind fun v2 =>
    if v2 ≤ l4 then
      some (l3, h)
    else
      (xrc h (some l0) 12 31).bind fun a6 =>
      xb (X12_payOf F a6 l4 h) fun v4 h5 =>
      rc89 l0 (w32 (l3 + v4)) (w32 (l4 + 1)) h5) k
theorem X12_wages_L89_s (F : Nat)   (k : Nat) (l0 : Nat) (l3 : Int) (l4 : Int)  (h : HP) : X12_wages_L89 F   (k + 1) l0 l3 l4 h =
    (xgP h (some l0) 12 31 1).bind fun v1 =>
    (xaI h v1 100 11275).bind fun v2 =>
    if v2 ≤ l4 then
      some (l3, h)
    else
      (xrc h (some l0) 12 31).bind fun a6 =>
      xb (X12_payOf F a6 l4 h) fun v4 h5 =>
      (X12_wages_L89 F k) l0 (w32 (l3 + v4)) (w32 (l4 + 1)) h5 := rfl
set_option maxRecDepth 100000 in
theorem SX12_wages_L89 {K : Ctx} {F : Nat} {r : Int} {hf : HP}     : ∀ (k : Nat) (l0 : Nat) (l3 : Int) (l4 : Int)  (h : HP), X12_wages_L89 F   k l0 l3 l4 h = some (r, hf) → Go K MX12_wages (QM K (some (vi r)) hf) hf 89 [(0, vr (some l0)), (3, vi l3), (4, vi l4)] [] h := by
  intro k
  induction k with
  | zero => intro l0 l3 l4 h E; exact nomatch E
  | succ k hrc89 =>
    intro l0 l3 l4 h E
    rw [X12_wages_L89_s] at E
    refine go_iload (j := 2) (n := 91) rfl dX12_wages_89 rfl ?_
    refine go_aload_n (j := 0) (n := 92) rfl rfl dX12_wages_91 rfl ?_
    replace E := Option.bind_eq_some_iff.mp E; obtain ⟨v1, ev1, E⟩ := E
    refine go_getP (n := 95) ev1 fl_RX12_14 rfl dX12_wages_92 rfl ?_
    refine go_sipush (z := 11275) (n := 98) ⟨by decide, by decide⟩ dX12_wages_95 rfl ?_
    replace E := Option.bind_eq_some_iff.mp E; obtain ⟨v2, ev2, E⟩ := E
    refine go_iaload (n := 99) ev2 dX12_wages_98 rfl ?_
    refine go_icmp_ge (tgt := 117) (n := 102) dX12_wages_99 rfl rfl (fun c3 => ?_) (fun c3 => ?_)
    · rw [if_pos c3] at E
      refine go_iload_n (j := 1) (n := 118) rfl rfl dX12_wages_117 rfl ?_
      cases E
      exact go_ireturn rfl dX12_wages_118
    · rw [if_neg c3] at E
      refine go_iload_n (j := 1) (n := 103) rfl rfl dX12_wages_102 rfl ?_
      refine go_aload_n (j := 0) (n := 104) rfl rfl dX12_wages_103 rfl ?_
      refine go_iload (j := 2) (n := 106) rfl dX12_wages_104 rfl ?_
      replace E := Option.bind_eq_some_iff.mp E; obtain ⟨a6, ea6, E⟩ := E
      obtain ⟨fa6, ga6⟩ := xrc_some ea6
      replace E := xb_some E; obtain ⟨v4, h5, ev4, E⟩ := E
      refine go_callV (y := yX12_payOf) (n := 109) (st := [vi l3]) (as := [vi l4]) (stk9 := [vi v4, vi l3]) (OX12_payOf ev4) yw_X12_payOf ci_12 ga6 wml_RX12_379 wim_X12_payOf wse_X12_payOf (Nat.le_of_ble_eq_true rfl) rfl ⟨Nat.le_of_ble_eq_true rfl, Nat.le_of_ble_eq_true rfl⟩ (Nat.le_of_ble_eq_true rfl) dX12_wages_106 rfl (by cases fa6; rfl) rfl ?_
      refine go_iadd (n := 110) dX12_wages_109 rfl ?_
      refine go_istore_n (n := 111) (lv' := [(3, vi (w32 (l3 + v4))), (0, vr (some l0)), (4, vi l4)]) rfl dX12_wages_110 rfl (Nat.le_of_ble_eq_true rfl) rfl ?_
      refine go_iinc (j := 2) (n := 114) (lv' := [(4, vi (w32 (l4 + 1))), (3, vi (w32 (l3 + v4))), (0, vr (some l0))]) rfl dX12_wages_111 rfl (Nat.le_of_ble_eq_true rfl) rfl ?_
      refine go_goto (tgt := 89) dX12_wages_114 rfl ?_
      refine go_pick (lv' := [(0, vr (some l0)), (3, vi (w32 (l3 + v4))), (4, vi (w32 (l4 + 1)))]) [2, 1, 0] rfl ?_
      exact hrc89 _ _ _ _ E
noncomputable def X12_wages_L66 (F : Nat)   (l0 : Nat) (l1 : Int) (l2 : Int)  (h : HP) : Option (Int × HP) :=
  if l1 = 0 then
    some ((-1), h)
  else
    if l2 = 0 then
      some ((-1), h)
    else
      (xgP h (some l0) 12 31 1).bind fun v3 =>
      (xsI h v3 6 1).bind fun h4 =>
      X12_wages_L89 F F l0 0 0 h4
set_option maxRecDepth 100000 in
theorem SX12_wages_L66 {K : Ctx} {F : Nat} {r : Int} {hf : HP}     (l0 : Nat) (l1 : Int) (l2 : Int)  (h : HP) (E : X12_wages_L66 F   l0 l1 l2 h = some (r, hf)) : Go K MX12_wages (QM K (some (vi r)) hf) hf 66 [(0, vr (some l0)), (1, vi l1), (2, vi l2)] [] h := by
  unfold X12_wages_L66 at E
  refine go_iload_n (j := 1) (n := 67) rfl rfl dX12_wages_66 rfl ?_
  refine go_if_eq (tgt := 74) (n := 70) dX12_wages_67 rfl rfl (fun c1 => ?_) (fun c1 => ?_)
  · rw [if_pos c1] at E
    refine go_iconst (z := (-1)) (n := 75) ⟨by decide, by decide⟩ dX12_wages_74 rfl ?_
    cases E
    exact go_ireturn rfl dX12_wages_75
  · rw [if_neg c1] at E
    refine go_iload_n (j := 2) (n := 71) rfl rfl dX12_wages_70 rfl ?_
    refine go_if_ne (tgt := 76) (n := 74) dX12_wages_71 rfl rfl (fun c2 => ?_) (fun c2 => ?_)
    · rw [if_neg c2] at E
      refine go_aload_n (j := 0) (n := 77) rfl rfl dX12_wages_76 rfl ?_
      replace E := Option.bind_eq_some_iff.mp E; obtain ⟨v3, ev3, E⟩ := E
      refine go_getP (n := 80) ev3 fl_RX12_14 rfl dX12_wages_77 rfl ?_
      refine go_bipush (z := 6) (n := 82) ⟨by decide, by decide⟩ dX12_wages_80 rfl ?_
      refine go_iconst (z := 1) (n := 83) ⟨by decide, by decide⟩ dX12_wages_82 rfl ?_
      replace E := Option.bind_eq_some_iff.mp E; obtain ⟨h4, eh4, E⟩ := E
      refine go_iastore (n := 84) eh4 dX12_wages_83 rfl ?_
      refine go_iconst (z := 0) (n := 85) ⟨by decide, by decide⟩ dX12_wages_84 rfl ?_
      refine go_istore_n (n := 86) (lv' := [(3, vi 0), (0, vr (some l0)), (1, vi l1), (2, vi l2)]) rfl dX12_wages_85 rfl (Nat.le_of_ble_eq_true rfl) rfl ?_
      refine go_iconst (z := 0) (n := 87) ⟨by decide, by decide⟩ dX12_wages_86 rfl ?_
      refine go_istore (n := 89) (lv' := [(4, vi 0), (3, vi 0), (0, vr (some l0)), (1, vi l1), (2, vi l2)]) dX12_wages_87 rfl (Nat.le_of_ble_eq_true rfl) rfl ?_
      refine go_pick (lv' := [(0, vr (some l0)), (3, vi 0), (4, vi 0)]) [2, 1, 0] rfl ?_
      exact SX12_wages_L89     F _ _ _ _ E
    · rw [if_pos c2] at E
      refine go_iconst (z := (-1)) (n := 75) ⟨by decide, by decide⟩ dX12_wages_74 rfl ?_
      cases E
      exact go_ireturn rfl dX12_wages_75
noncomputable def X12_wages_L60 (F : Nat)  (rc25 : Nat → Int → Int → Int → HP → Option (Int × HP)) (l0 : Nat) (l1 : Int) (l2 : Int) (l3 : Int)  (h : HP) : Option (Int × HP) :=
  rc25 l0 l1 l2 (w32 (l3 + 1)) h
set_option maxRecDepth 100000 in
theorem SX12_wages_L60 {K : Ctx} {F : Nat} {r : Int} {hf : HP}   (rc25 : Nat → Int → Int → Int → HP → Option (Int × HP)) (hrc25 : ∀ l0 l1 l2 l3 h, rc25 l0 l1 l2 l3 h = some (r, hf) → Go K MX12_wages (QM K (some (vi r)) hf) hf 25 [(0, vr (some l0)), (1, vi l1), (2, vi l2), (3, vi l3)] [] h) (l0 : Nat) (l1 : Int) (l2 : Int) (l3 : Int)  (h : HP) (E : X12_wages_L60 F  rc25 l0 l1 l2 l3 h = some (r, hf)) : Go K MX12_wages (QM K (some (vi r)) hf) hf 60 [(0, vr (some l0)), (1, vi l1), (2, vi l2), (3, vi l3)] [] h := by
  unfold X12_wages_L60 at E
  refine go_iinc (j := 3) (n := 63) (lv' := [(3, vi (w32 (l3 + 1))), (0, vr (some l0)), (1, vi l1), (2, vi l2)]) rfl dX12_wages_60 rfl (Nat.le_of_ble_eq_true rfl) rfl ?_
  refine go_goto (tgt := 25) dX12_wages_63 rfl ?_
  refine go_pick (lv' := [(0, vr (some l0)), (1, vi l1), (2, vi l2), (3, vi (w32 (l3 + 1)))]) [1, 2, 3, 0] rfl ?_
  exact hrc25 _ _ _ _ _ E
noncomputable def X12_wages_L25 (F : Nat)   (k : Nat) : Nat → Int → Int → Int → HP → Option (Int × HP) :=
  Nat.rec (motive := fun _ => Nat → Int → Int → Int → HP → Option (Int × HP)) (fun _ _ _ _ _ => none) (fun _ rc25 l0 l1 l2 l3 h =>
    (xgP h (some l0) 12 31 1).bind fun v1 =>
    (xaI h v1 100 8).bind fun v2 =>
    if v2 ≤ l3 then
      X12_wages_L66 F l0 l1 l2 h
    else
      if l2 = 0 then
        X12_wages_L66 F l0 l1 l2 h
      else
        (xrc h (some l0) 12 31).bind fun a7 =>
        xb (X12_its F a7 l3 4 h) fun v5 h6 =>
        if v5 = 0 then
          X12_wages_L60 F rc25 l0 l1 l2 l3 h6
        else
          (xrc h6 (some l0) 12 31).bind fun a11 =>
          xb (X12_isSure F a11 l3 h6) fun v9 h10 =>
          X12_wages_L60 F rc25 l0 1 v9 l3 h10) k
theorem X12_wages_L25_s (F : Nat)   (k : Nat) (l0 : Nat) (l1 : Int) (l2 : Int) (l3 : Int)  (h : HP) : X12_wages_L25 F   (k + 1) l0 l1 l2 l3 h =
    (xgP h (some l0) 12 31 1).bind fun v1 =>
    (xaI h v1 100 8).bind fun v2 =>
    if v2 ≤ l3 then
      X12_wages_L66 F l0 l1 l2 h
    else
      if l2 = 0 then
        X12_wages_L66 F l0 l1 l2 h
      else
        (xrc h (some l0) 12 31).bind fun a7 =>
        xb (X12_its F a7 l3 4 h) fun v5 h6 =>
        if v5 = 0 then
          X12_wages_L60 F (X12_wages_L25 F k) l0 l1 l2 l3 h6
        else
          (xrc h6 (some l0) 12 31).bind fun a11 =>
          xb (X12_isSure F a11 l3 h6) fun v9 h10 =>
          X12_wages_L60 F (X12_wages_L25 F k) l0 1 v9 l3 h10 := rfl
set_option maxRecDepth 100000 in
theorem SX12_wages_L25 {K : Ctx} {F : Nat} {r : Int} {hf : HP}     : ∀ (k : Nat) (l0 : Nat) (l1 : Int) (l2 : Int) (l3 : Int)  (h : HP), X12_wages_L25 F   k l0 l1 l2 l3 h = some (r, hf) → Go K MX12_wages (QM K (some (vi r)) hf) hf 25 [(0, vr (some l0)), (1, vi l1), (2, vi l2), (3, vi l3)] [] h := by
  intro k
  induction k with
  | zero => intro l0 l1 l2 l3 h E; exact nomatch E
  | succ k hrc25 =>
    intro l0 l1 l2 l3 h E
    rw [X12_wages_L25_s] at E
    refine go_iload_n (j := 3) (n := 26) rfl rfl dX12_wages_25 rfl ?_
    refine go_aload_n (j := 0) (n := 27) rfl rfl dX12_wages_26 rfl ?_
    replace E := Option.bind_eq_some_iff.mp E; obtain ⟨v1, ev1, E⟩ := E
    refine go_getP (n := 30) ev1 fl_RX12_14 rfl dX12_wages_27 rfl ?_
    refine go_bipush (z := 8) (n := 32) ⟨by decide, by decide⟩ dX12_wages_30 rfl ?_
    replace E := Option.bind_eq_some_iff.mp E; obtain ⟨v2, ev2, E⟩ := E
    refine go_iaload (n := 33) ev2 dX12_wages_32 rfl ?_
    refine go_icmp_ge (tgt := 66) (n := 36) dX12_wages_33 rfl rfl (fun c3 => ?_) (fun c3 => ?_)
    · rw [if_pos c3] at E
      refine go_pick (lv' := [(0, vr (some l0)), (1, vi l1), (2, vi l2)]) [0, 1, 2] rfl ?_
      exact SX12_wages_L66     _ _ _  _ E
    · rw [if_neg c3] at E
      refine go_iload_n (j := 2) (n := 37) rfl rfl dX12_wages_36 rfl ?_
      refine go_if_eq (tgt := 66) (n := 40) dX12_wages_37 rfl rfl (fun c4 => ?_) (fun c4 => ?_)
      · rw [if_pos c4] at E
        refine go_pick (lv' := [(0, vr (some l0)), (1, vi l1), (2, vi l2)]) [0, 1, 2] rfl ?_
        exact SX12_wages_L66     _ _ _  _ E
      · rw [if_neg c4] at E
        refine go_aload_n (j := 0) (n := 41) rfl rfl dX12_wages_40 rfl ?_
        refine go_iload_n (j := 3) (n := 42) rfl rfl dX12_wages_41 rfl ?_
        refine go_iconst (z := 4) (n := 43) ⟨by decide, by decide⟩ dX12_wages_42 rfl ?_
        replace E := Option.bind_eq_some_iff.mp E; obtain ⟨a7, ea7, E⟩ := E
        obtain ⟨fa7, ga7⟩ := xrc_some ea7
        replace E := xb_some E; obtain ⟨v5, h6, ev5, E⟩ := E
        refine go_callV (y := yX12_its) (n := 46) (st := []) (as := [vi l3, vi 4]) (stk9 := [vi v5]) (OX12_its ev5) yw_X12_its ci_12 ga7 wml_RX12_250 wim_X12_its wse_X12_its (Nat.le_of_ble_eq_true rfl) rfl ⟨Nat.le_of_ble_eq_true rfl, Nat.le_of_ble_eq_true rfl⟩ (Nat.le_of_ble_eq_true rfl) dX12_wages_43 rfl (by cases fa7; rfl) rfl ?_
        refine go_if_ne (tgt := 52) (n := 49) dX12_wages_46 rfl rfl (fun c8 => ?_) (fun c8 => ?_)
        · rw [if_neg c8] at E
          refine go_iconst (z := 1) (n := 53) ⟨by decide, by decide⟩ dX12_wages_52 rfl ?_
          refine go_istore_n (n := 54) (lv' := [(1, vi 1), (0, vr (some l0)), (2, vi l2), (3, vi l3)]) rfl dX12_wages_53 rfl (Nat.le_of_ble_eq_true rfl) rfl ?_
          refine go_aload_n (j := 1) (n := 55) rfl rfl dX12_wages_54 rfl ?_
          refine go_iload_n (j := 3) (n := 56) rfl rfl dX12_wages_55 rfl ?_
          replace E := Option.bind_eq_some_iff.mp E; obtain ⟨a11, ea11, E⟩ := E
          obtain ⟨fa11, ga11⟩ := xrc_some ea11
          replace E := xb_some E; obtain ⟨v9, h10, ev9, E⟩ := E
          refine go_callV (y := yX12_isSure) (n := 59) (st := []) (as := [vi l3]) (stk9 := [vi v9]) (OX12_isSure ev9) yw_X12_isSure ci_12 ga11 wml_RX12_324 wim_X12_isSure wse_X12_isSure (Nat.le_of_ble_eq_true rfl) rfl ⟨Nat.le_of_ble_eq_true rfl, Nat.le_of_ble_eq_true rfl⟩ (Nat.le_of_ble_eq_true rfl) dX12_wages_56 rfl (by cases fa11; rfl) rfl ?_
          refine go_istore_n (n := 60) (lv' := [(2, vi v9), (1, vi 1), (0, vr (some l0)), (3, vi l3)]) rfl dX12_wages_59 rfl (Nat.le_of_ble_eq_true rfl) rfl ?_
          refine go_pick (lv' := [(0, vr (some l0)), (1, vi 1), (2, vi v9), (3, vi l3)]) [2, 1, 0, 3] rfl ?_
          exact SX12_wages_L60   _ hrc25 _ _ _ _  _ E
        · rw [if_pos c8] at E
          refine go_goto (tgt := 60) dX12_wages_49 rfl ?_
          exact SX12_wages_L60   _ hrc25 _ _ _ _  _ E
noncomputable def X12_wages_L22 (F : Nat)   (l0 : Nat) (l1 : Int) (s0 : Int) (h : HP) : Option (Int × HP) :=
  X12_wages_L25 F F l0 l1 s0 0 h
set_option maxRecDepth 100000 in
theorem SX12_wages_L22 {K : Ctx} {F : Nat} {r : Int} {hf : HP}     (l0 : Nat) (l1 : Int) (s0 : Int) (h : HP) (E : X12_wages_L22 F   l0 l1 s0 h = some (r, hf)) : Go K MX12_wages (QM K (some (vi r)) hf) hf 22 [(0, vr (some l0)), (1, vi l1)] [vi s0] h := by
  unfold X12_wages_L22 at E
  refine go_istore_n (n := 23) (lv' := [(2, vi s0), (0, vr (some l0)), (1, vi l1)]) rfl dX12_wages_22 rfl (Nat.le_of_ble_eq_true rfl) rfl ?_
  refine go_iconst (z := 0) (n := 24) ⟨by decide, by decide⟩ dX12_wages_23 rfl ?_
  refine go_istore_n (n := 25) (lv' := [(3, vi 0), (2, vi s0), (0, vr (some l0)), (1, vi l1)]) rfl dX12_wages_24 rfl (Nat.le_of_ble_eq_true rfl) rfl ?_
  refine go_pick (lv' := [(0, vr (some l0)), (1, vi l1), (2, vi s0), (3, vi 0)]) [2, 3, 1, 0] rfl ?_
  exact SX12_wages_L25     F _ _ _ _ _ E
noncomputable def X12_wages (F : Nat)   (l0 : Nat)  (h : HP) : Option (Int × HP) :=
  (xpI h (some l0) 12 31 0 0).bind fun h1 =>
  (xgP h1 (some l0) 12 31 1).bind fun v2 =>
  (xaI h1 v2 100 6).bind fun v3 =>
  X12_wages_L22 F l0 0 (if v3 = 0 then 1 else 0) h1
set_option maxRecDepth 100000 in
theorem SX12_wages {K : Ctx} {F : Nat} {r : Int} {hf : HP}     (l0 : Nat)  (h : HP) (E : X12_wages F   l0 h = some (r, hf)) : Go K MX12_wages (QM K (some (vi r)) hf) hf 0 [(0, vr (some l0))] [] h := by
  unfold X12_wages at E
  refine go_aload_n (j := 0) (n := 1) rfl rfl dX12_wages_0 rfl ?_
  refine go_iconst (z := 0) (n := 2) ⟨by decide, by decide⟩ dX12_wages_1 rfl ?_
  replace E := Option.bind_eq_some_iff.mp E; obtain ⟨h1, eh1, E⟩ := E
  refine go_putI (n := 5) eh1 fl_RX12_3 rfl dX12_wages_2 rfl ?_
  refine go_iconst (z := 0) (n := 6) ⟨by decide, by decide⟩ dX12_wages_5 rfl ?_
  refine go_istore_n (n := 7) (lv' := [(1, vi 0), (0, vr (some l0))]) rfl dX12_wages_6 rfl (Nat.le_of_ble_eq_true rfl) rfl ?_
  refine go_aload_n (j := 1) (n := 8) rfl rfl dX12_wages_7 rfl ?_
  replace E := Option.bind_eq_some_iff.mp E; obtain ⟨v2, ev2, E⟩ := E
  refine go_getP (n := 11) ev2 fl_RX12_14 rfl dX12_wages_8 rfl ?_
  refine go_bipush (z := 6) (n := 13) ⟨by decide, by decide⟩ dX12_wages_11 rfl ?_
  replace E := Option.bind_eq_some_iff.mp E; obtain ⟨v3, ev3, E⟩ := E
  refine go_iaload (n := 14) ev3 dX12_wages_13 rfl ?_
  refine go_if_ne (tgt := 21) (n := 17) dX12_wages_14 rfl rfl (fun c4 => ?_) (fun c4 => ?_)
  · simp only [if_neg c4] at E
    refine go_iconst (z := 0) (n := 22) ⟨by decide, by decide⟩ dX12_wages_21 rfl ?_
    refine go_pick (lv' := [(0, vr (some l0)), (1, vi 0)]) [1, 0] rfl ?_
    exact SX12_wages_L22     _ _ _ _ E
  · simp only [if_pos c4] at E
    refine go_iconst (z := 1) (n := 18) ⟨by decide, by decide⟩ dX12_wages_17 rfl ?_
    refine go_goto (tgt := 22) dX12_wages_18 rfl ?_
    refine go_pick (lv' := [(0, vr (some l0)), (1, vi 0)]) [1, 0] rfl ?_
    exact SX12_wages_L22     _ _ _ _ E
theorem OX12_wages {F : Nat} {l0 : Nat} {h hf : HP} {r : Int} (e : X12_wages F l0 h = some (r, hf)) : Ok MX12_wages [vr (some l0)] (some (vi r)) h hf := fun K _ _ _ => SX12_wages l0 h e
abbrev MX12_noTime : MI := (RX12, cX12_noTime, 2, (some .boolean), 3, none, "noTime")
noncomputable def X12_noTime_L22 (F : Nat)     (h : HP) : Option (Int × HP) :=
  some (1, h)
set_option maxRecDepth 100000 in
theorem SX12_noTime_L22 {K : Ctx} {F : Nat} {r : Int} {hf : HP}       (h : HP) (E : X12_noTime_L22 F    h = some (r, hf)) : Go K MX12_noTime (QM K (some (vi r)) hf) hf 22 [] [] h := by
  unfold X12_noTime_L22 at E
  refine go_iconst (z := 1) (n := 23) ⟨by decide, by decide⟩ dX12_noTime_22 rfl ?_
  refine go_goto (tgt := 27) dX12_noTime_23 rfl ?_
  cases E
  exact go_zreturn rfl (Or.inr rfl) dX12_noTime_27
noncomputable def X12_noTime (F : Nat)   (l0 : Int) (l1 : Int)  (h : HP) : Option (Int × HP) :=
  xb (X12_in F l0 0 1000 h) fun v1 h2 =>
  if v1 = 0 then
    X12_noTime_L22 F h2
  else
    xb (X12_in F l1 0 1000 h2) fun v4 h5 =>
    if v4 = 0 then
      X12_noTime_L22 F h5
    else
      some (0, h5)
set_option maxRecDepth 100000 in
theorem SX12_noTime {K : Ctx} {F : Nat} {r : Int} {hf : HP}     (l0 : Int) (l1 : Int)  (h : HP) (E : X12_noTime F   l0 l1 h = some (r, hf)) : Go K MX12_noTime (QM K (some (vi r)) hf) hf 0 [(0, vi l0), (1, vi l1)] [] h := by
  unfold X12_noTime at E
  refine go_iload_n (j := 0) (n := 1) rfl rfl dX12_noTime_0 rfl ?_
  refine go_iconst (z := 0) (n := 2) ⟨by decide, by decide⟩ dX12_noTime_1 rfl ?_
  refine go_sipush (z := 1000) (n := 5) ⟨by decide, by decide⟩ dX12_noTime_2 rfl ?_
  replace E := xb_some E; obtain ⟨v1, h2, ev1, E⟩ := E
  refine go_callS (y := yX12_in) (n := 8) (st := []) (as := [vi l0, vi 0, vi 1000]) (stk9 := [vi v1]) (OX12_in ev1) yw_X12_in wml_RX12_61 wst_X12_in (Nat.le_of_ble_eq_true rfl) rfl ⟨Nat.le_of_ble_eq_true rfl, Nat.le_of_ble_eq_true rfl⟩ (Nat.le_of_ble_eq_true rfl) dX12_noTime_5 rfl rfl rfl ?_
  refine go_if_eq (tgt := 22) (n := 11) dX12_noTime_8 rfl rfl (fun c3 => ?_) (fun c3 => ?_)
  · rw [if_pos c3] at E
    refine go_pick (lv' := []) [] rfl ?_
    exact SX12_noTime_L22       _ E
  · rw [if_neg c3] at E
    refine go_iload_n (j := 1) (n := 12) rfl rfl dX12_noTime_11 rfl ?_
    refine go_iconst (z := 0) (n := 13) ⟨by decide, by decide⟩ dX12_noTime_12 rfl ?_
    refine go_sipush (z := 1000) (n := 16) ⟨by decide, by decide⟩ dX12_noTime_13 rfl ?_
    replace E := xb_some E; obtain ⟨v4, h5, ev4, E⟩ := E
    refine go_callS (y := yX12_in) (n := 19) (st := []) (as := [vi l1, vi 0, vi 1000]) (stk9 := [vi v4]) (OX12_in ev4) yw_X12_in wml_RX12_61 wst_X12_in (Nat.le_of_ble_eq_true rfl) rfl ⟨Nat.le_of_ble_eq_true rfl, Nat.le_of_ble_eq_true rfl⟩ (Nat.le_of_ble_eq_true rfl) dX12_noTime_16 rfl rfl rfl ?_
    refine go_if_ne (tgt := 26) (n := 22) dX12_noTime_19 rfl rfl (fun c6 => ?_) (fun c6 => ?_)
    · rw [if_neg c6] at E
      refine go_iconst (z := 0) (n := 27) ⟨by decide, by decide⟩ dX12_noTime_26 rfl ?_
      cases E
      exact go_zreturn rfl (Or.inl rfl) dX12_noTime_27
    · rw [if_pos c6] at E
      refine go_pick (lv' := []) [] rfl ?_
      exact SX12_noTime_L22       _ E
theorem OX12_noTime {F : Nat} {l0 : Int} {l1 : Int} {h hf : HP} {r : Int} (e : X12_noTime F l0 l1 h = some (r, hf)) : Ok MX12_noTime [vi l0, vi l1] (some (vi r)) h hf := fun K _ _ _ => SX12_noTime l0 l1 h e
abbrev MX12_optionOf : MI := (RX12, cX12_optionOf, 3, (some .int), 2, none, "optionOf")
noncomputable def X12_optionOf (F : Nat)   (l0 : Int) (l1 : Int) (l2 : Int)  (h : HP) : Option (Int × HP) :=
  some (xand (xshr l0 (w32 (2 * (w32 ((w32 (l1 - 1)) - l2))))) 3, h)
set_option maxRecDepth 100000 in
theorem SX12_optionOf {K : Ctx} {F : Nat} {r : Int} {hf : HP}     (l0 : Int) (l1 : Int) (l2 : Int)  (h : HP) (E : X12_optionOf F   l0 l1 l2 h = some (r, hf)) : Go K MX12_optionOf (QM K (some (vi r)) hf) hf 0 [(0, vi l0), (1, vi l1), (2, vi l2)] [] h := by
  unfold X12_optionOf at E
  refine go_iload_n (j := 0) (n := 1) rfl rfl dX12_optionOf_0 rfl ?_
  refine go_iconst (z := 2) (n := 2) ⟨by decide, by decide⟩ dX12_optionOf_1 rfl ?_
  refine go_iload_n (j := 1) (n := 3) rfl rfl dX12_optionOf_2 rfl ?_
  refine go_iconst (z := 1) (n := 4) ⟨by decide, by decide⟩ dX12_optionOf_3 rfl ?_
  refine go_isub (n := 5) dX12_optionOf_4 rfl ?_
  refine go_iload_n (j := 2) (n := 6) rfl rfl dX12_optionOf_5 rfl ?_
  refine go_isub (n := 7) dX12_optionOf_6 rfl ?_
  refine go_imul (n := 8) dX12_optionOf_7 rfl ?_
  refine go_ishr (n := 9) dX12_optionOf_8 rfl ?_
  refine go_iconst (z := 3) (n := 10) ⟨by decide, by decide⟩ dX12_optionOf_9 rfl ?_
  refine go_iand (n := 11) dX12_optionOf_10 rfl ?_
  cases E
  exact go_ireturn rfl dX12_optionOf_11
theorem OX12_optionOf {F : Nat} {l0 : Int} {l1 : Int} {l2 : Int} {h hf : HP} {r : Int} (e : X12_optionOf F l0 l1 l2 h = some (r, hf)) : Ok MX12_optionOf [vi l0, vi l1, vi l2] (some (vi r)) h hf := fun K _ _ _ => SX12_optionOf l0 l1 l2 h e
theorem fl_RX12_382 : FL RX12 382 12 31 26 false := ⟨RX12, TX12, ci_12, by decide, bw_of 1779 (by decide +kernel) rfl, rfl, rfl⟩
theorem fl_RX12_385 : FL RX12 385 12 31 27 false := ⟨RX12, TX12, ci_12, by decide, bw_of 1780 (by decide +kernel) rfl, rfl, rfl⟩
theorem fl_RX12_392 : FL RX12 392 12 31 28 false := ⟨RX12, TX12, ci_12, by decide, bw_of 1781 (by decide +kernel) rfl, rfl, rfl⟩
theorem yw_X12_optionOf : YW yX12_optionOf cX12_optionOf 3 (some .int) 3 := ⟨bw_of 2298 (by decide +kernel) rfl, bw_of 129 (by decide +kernel) rfl, ⟨by decide +kernel, by decide +kernel, by decide +kernel⟩, by decide +kernel⟩
theorem wml_RX12_388 : Cond.methodLink RX12 388 yX12_optionOf ∈ BW := bw_of 2296 (by decide +kernel) rfl
theorem wst_X12_optionOf : Cond.static yX12_optionOf ∈ BW := bw_of 2297 (by decide +kernel) rfl
theorem fl_RX12_48 : FL RX12 48 12 31 25 true := ⟨RX12, TX12, ci_12, by decide, bw_of 1778 (by decide +kernel) rfl, rfl, rfl⟩
abbrev MX12_plans : MI := (RX12, cX12_plans, 14, none, 6, none, "plans")
noncomputable def X12_plans_L461 (F : Nat)  (rc79 : Nat → Int → Int → Int → Int → Int → HP → Option (Unit × HP)) (l0 : Nat) (l1 : Int) (l2 : Int) (l3 : Int) (l4 : Int) (l5 : Int)  (h : HP) : Option (Unit × HP) :=
  rc79 l0 l1 l2 l3 l4 (w32 (l5 + 1)) h
set_option maxRecDepth 100000 in
theorem SX12_plans_L461 {K : Ctx} {F : Nat} {r : Unit} {hf : HP}   (rc79 : Nat → Int → Int → Int → Int → Int → HP → Option (Unit × HP)) (hrc79 : ∀ l0 l1 l2 l3 l4 l5 h, rc79 l0 l1 l2 l3 l4 l5 h = some (r, hf) → Go K MX12_plans (QM K none hf) hf 79 [(0, vr (some l0)), (1, vi l1), (2, vi l2), (3, vi l3), (4, vi l4), (5, vi l5)] [] h) (l0 : Nat) (l1 : Int) (l2 : Int) (l3 : Int) (l4 : Int) (l5 : Int)  (h : HP) (E : X12_plans_L461 F  rc79 l0 l1 l2 l3 l4 l5 h = some (r, hf)) : Go K MX12_plans (QM K none hf) hf 461 [(0, vr (some l0)), (1, vi l1), (2, vi l2), (3, vi l3), (4, vi l4), (5, vi l5)] [] h := by
  unfold X12_plans_L461 at E
  refine go_iinc (j := 5) (n := 464) (lv' := [(5, vi (w32 (l5 + 1))), (0, vr (some l0)), (1, vi l1), (2, vi l2), (3, vi l3), (4, vi l4)]) rfl dX12_plans_461 rfl (Nat.le_of_ble_eq_true rfl) rfl ?_
  refine go_goto (tgt := 79) dX12_plans_464 rfl ?_
  refine go_pick (lv' := [(0, vr (some l0)), (1, vi l1), (2, vi l2), (3, vi l3), (4, vi l4), (5, vi (w32 (l5 + 1)))]) [1, 2, 3, 4, 5, 0] rfl ?_
  exact hrc79 _ _ _ _ _ _ _ E
noncomputable def X12_plans_L434 (F : Nat)  (rc79 : Nat → Int → Int → Int → Int → Int → HP → Option (Unit × HP)) (l0 : Nat) (l1 : Int) (l2 : Int) (l3 : Int) (l4 : Int) (l5 : Int) (l6 : Int) (l7 : Int) (l8 : Int) (l11 : Int)  (h : HP) : Option (Unit × HP) :=
  if l11 = 0 then
    X12_plans_L461 F rc79 l0 l1 l2 l3 l4 l5 h
  else
    (xpI h (some l0) 12 31 27 l6).bind fun h2 =>
    (xpI h2 (some l0) 12 31 28 l5).bind fun h3 =>
    X12_plans_L461 F rc79 l0 l1 l2 l7 l8 l5 h3
set_option maxRecDepth 100000 in
theorem SX12_plans_L434 {K : Ctx} {F : Nat} {r : Unit} {hf : HP}   (rc79 : Nat → Int → Int → Int → Int → Int → HP → Option (Unit × HP)) (hrc79 : ∀ l0 l1 l2 l3 l4 l5 h, rc79 l0 l1 l2 l3 l4 l5 h = some (r, hf) → Go K MX12_plans (QM K none hf) hf 79 [(0, vr (some l0)), (1, vi l1), (2, vi l2), (3, vi l3), (4, vi l4), (5, vi l5)] [] h) (l0 : Nat) (l1 : Int) (l2 : Int) (l3 : Int) (l4 : Int) (l5 : Int) (l6 : Int) (l7 : Int) (l8 : Int) (l11 : Int)  (h : HP) (E : X12_plans_L434 F  rc79 l0 l1 l2 l3 l4 l5 l6 l7 l8 l11 h = some (r, hf)) : Go K MX12_plans (QM K none hf) hf 434 [(0, vr (some l0)), (1, vi l1), (2, vi l2), (3, vi l3), (4, vi l4), (5, vi l5), (6, vi l6), (7, vi l7), (8, vi l8), (11, vi l11)] [] h := by
  unfold X12_plans_L434 at E
  refine go_iload (j := 9) (n := 436) rfl dX12_plans_434 rfl ?_
  refine go_if_ne (tgt := 442) (n := 439) dX12_plans_436 rfl rfl (fun c1 => ?_) (fun c1 => ?_)
  · rw [if_neg c1] at E
    refine go_aload_n (j := 0) (n := 443) rfl rfl dX12_plans_442 rfl ?_
    refine go_iload (j := 6) (n := 445) rfl dX12_plans_443 rfl ?_
    replace E := Option.bind_eq_some_iff.mp E; obtain ⟨h2, eh2, E⟩ := E
    refine go_putI (n := 448) eh2 fl_RX12_385 rfl dX12_plans_445 rfl ?_
    refine go_aload_n (j := 0) (n := 449) rfl rfl dX12_plans_448 rfl ?_
    refine go_iload (j := 5) (n := 451) rfl dX12_plans_449 rfl ?_
    replace E := Option.bind_eq_some_iff.mp E; obtain ⟨h3, eh3, E⟩ := E
    refine go_putI (n := 454) eh3 fl_RX12_392 rfl dX12_plans_451 rfl ?_
    refine go_iload (j := 7) (n := 456) rfl dX12_plans_454 rfl ?_
    refine go_istore_n (n := 457) (lv' := [(3, vi l7), (0, vr (some l0)), (1, vi l1), (2, vi l2), (4, vi l4), (5, vi l5), (6, vi l6), (7, vi l7), (8, vi l8), (11, vi l11)]) rfl dX12_plans_456 rfl (Nat.le_of_ble_eq_true rfl) rfl ?_
    refine go_iload (j := 8) (n := 459) rfl dX12_plans_457 rfl ?_
    refine go_istore (n := 461) (lv' := [(4, vi l8), (3, vi l7), (0, vr (some l0)), (1, vi l1), (2, vi l2), (5, vi l5), (6, vi l6), (7, vi l7), (8, vi l8), (11, vi l11)]) dX12_plans_459 rfl (Nat.le_of_ble_eq_true rfl) rfl ?_
    refine go_pick (lv' := [(0, vr (some l0)), (1, vi l1), (2, vi l2), (3, vi l7), (4, vi l8), (5, vi l5)]) [2, 3, 4, 1, 0, 5] rfl ?_
    exact SX12_plans_L461   _ hrc79 _ _ _ _ _ _  _ E
  · rw [if_pos c1] at E
    refine go_goto (tgt := 461) dX12_plans_439 rfl ?_
    refine go_pick (lv' := [(0, vr (some l0)), (1, vi l1), (2, vi l2), (3, vi l3), (4, vi l4), (5, vi l5)]) [0, 1, 2, 3, 4, 5] rfl ?_
    exact SX12_plans_L461   _ hrc79 _ _ _ _ _ _  _ E
noncomputable def X12_plans_L426 (F : Nat)  (rc79 : Nat → Int → Int → Int → Int → Int → HP → Option (Unit × HP)) (rc375 : Nat → Int → Int → Int → Int → Int → Int → Int → Int → Int → Int → Int → HP → Option (Unit × HP)) (l0 : Nat) (l1 : Int) (l2 : Int) (l3 : Int) (l4 : Int) (l5 : Int) (l6 : Int) (l7 : Int) (l8 : Int) (l9 : Int) (l12 : Int) (s0 : Int) (h : HP) : Option (Unit × HP) :=
  rc375 l0 l1 l2 l3 l4 l5 l6 l7 l8 l9 s0 (w32 (l12 + 1)) h
set_option maxRecDepth 100000 in
theorem SX12_plans_L426 {K : Ctx} {F : Nat} {r : Unit} {hf : HP}   (rc79 : Nat → Int → Int → Int → Int → Int → HP → Option (Unit × HP)) (rc375 : Nat → Int → Int → Int → Int → Int → Int → Int → Int → Int → Int → Int → HP → Option (Unit × HP)) (hrc79 : ∀ l0 l1 l2 l3 l4 l5 h, rc79 l0 l1 l2 l3 l4 l5 h = some (r, hf) → Go K MX12_plans (QM K none hf) hf 79 [(0, vr (some l0)), (1, vi l1), (2, vi l2), (3, vi l3), (4, vi l4), (5, vi l5)] [] h) (hrc375 : ∀ l0 l1 l2 l3 l4 l5 l6 l7 l8 l9 l11 l12 h, rc375 l0 l1 l2 l3 l4 l5 l6 l7 l8 l9 l11 l12 h = some (r, hf) → Go K MX12_plans (QM K none hf) hf 375 [(0, vr (some l0)), (1, vi l1), (2, vi l2), (3, vi l3), (4, vi l4), (5, vi l5), (6, vi l6), (7, vi l7), (8, vi l8), (9, vi l9), (11, vi l11), (12, vi l12)] [] h) (l0 : Nat) (l1 : Int) (l2 : Int) (l3 : Int) (l4 : Int) (l5 : Int) (l6 : Int) (l7 : Int) (l8 : Int) (l9 : Int) (l12 : Int) (s0 : Int) (h : HP) (E : X12_plans_L426 F  rc79 rc375 l0 l1 l2 l3 l4 l5 l6 l7 l8 l9 l12 s0 h = some (r, hf)) : Go K MX12_plans (QM K none hf) hf 426 [(0, vr (some l0)), (1, vi l1), (2, vi l2), (3, vi l3), (4, vi l4), (5, vi l5), (6, vi l6), (7, vi l7), (8, vi l8), (9, vi l9), (12, vi l12)] [vi s0] h := by
  unfold X12_plans_L426 at E
  refine go_istore (n := 428) (lv' := [(11, vi s0), (0, vr (some l0)), (1, vi l1), (2, vi l2), (3, vi l3), (4, vi l4), (5, vi l5), (6, vi l6), (7, vi l7), (8, vi l8), (9, vi l9), (12, vi l12)]) dX12_plans_426 rfl (Nat.le_of_ble_eq_true rfl) rfl ?_
  refine go_iinc (j := 11) (n := 431) (lv' := [(12, vi (w32 (l12 + 1))), (11, vi s0), (0, vr (some l0)), (1, vi l1), (2, vi l2), (3, vi l3), (4, vi l4), (5, vi l5), (6, vi l6), (7, vi l7), (8, vi l8), (9, vi l9)]) rfl dX12_plans_428 rfl (Nat.le_of_ble_eq_true rfl) rfl ?_
  refine go_goto (tgt := 375) dX12_plans_431 rfl ?_
  refine go_pick (lv' := [(0, vr (some l0)), (1, vi l1), (2, vi l2), (3, vi l3), (4, vi l4), (5, vi l5), (6, vi l6), (7, vi l7), (8, vi l8), (9, vi l9), (11, vi s0), (12, vi (w32 (l12 + 1)))]) [2, 3, 4, 5, 6, 7, 8, 9, 10, 11, 1, 0] rfl ?_
  exact hrc375 _ _ _ _ _ _ _ _ _ _ _ _ _ E
noncomputable def X12_plans_L421 (F : Nat)  (rc79 : Nat → Int → Int → Int → Int → Int → HP → Option (Unit × HP)) (rc375 : Nat → Int → Int → Int → Int → Int → Int → Int → Int → Int → Int → Int → HP → Option (Unit × HP)) (l0 : Nat) (l1 : Int) (l2 : Int) (l3 : Int) (l4 : Int) (l5 : Int) (l6 : Int) (l7 : Int) (l8 : Int) (l9 : Int) (l12 : Int)  (h : HP) : Option (Unit × HP) :=
  X12_plans_L426 F rc79 rc375 l0 l1 l2 l3 l4 l5 l6 l7 l8 l9 l12 1 h
set_option maxRecDepth 100000 in
theorem SX12_plans_L421 {K : Ctx} {F : Nat} {r : Unit} {hf : HP}   (rc79 : Nat → Int → Int → Int → Int → Int → HP → Option (Unit × HP)) (rc375 : Nat → Int → Int → Int → Int → Int → Int → Int → Int → Int → Int → Int → HP → Option (Unit × HP)) (hrc79 : ∀ l0 l1 l2 l3 l4 l5 h, rc79 l0 l1 l2 l3 l4 l5 h = some (r, hf) → Go K MX12_plans (QM K none hf) hf 79 [(0, vr (some l0)), (1, vi l1), (2, vi l2), (3, vi l3), (4, vi l4), (5, vi l5)] [] h) (hrc375 : ∀ l0 l1 l2 l3 l4 l5 l6 l7 l8 l9 l11 l12 h, rc375 l0 l1 l2 l3 l4 l5 l6 l7 l8 l9 l11 l12 h = some (r, hf) → Go K MX12_plans (QM K none hf) hf 375 [(0, vr (some l0)), (1, vi l1), (2, vi l2), (3, vi l3), (4, vi l4), (5, vi l5), (6, vi l6), (7, vi l7), (8, vi l8), (9, vi l9), (11, vi l11), (12, vi l12)] [] h) (l0 : Nat) (l1 : Int) (l2 : Int) (l3 : Int) (l4 : Int) (l5 : Int) (l6 : Int) (l7 : Int) (l8 : Int) (l9 : Int) (l12 : Int)  (h : HP) (E : X12_plans_L421 F  rc79 rc375 l0 l1 l2 l3 l4 l5 l6 l7 l8 l9 l12 h = some (r, hf)) : Go K MX12_plans (QM K none hf) hf 421 [(0, vr (some l0)), (1, vi l1), (2, vi l2), (3, vi l3), (4, vi l4), (5, vi l5), (6, vi l6), (7, vi l7), (8, vi l8), (9, vi l9), (12, vi l12)] [] h := by
  unfold X12_plans_L421 at E
  refine go_iconst (z := 1) (n := 422) ⟨by decide, by decide⟩ dX12_plans_421 rfl ?_
  refine go_goto (tgt := 426) dX12_plans_422 rfl ?_
  exact SX12_plans_L426   _ _ hrc79 hrc375 _ _ _ _ _ _ _ _ _ _ _ _ _ E
noncomputable def X12_plans_L375 (F : Nat)  (rc79 : Nat → Int → Int → Int → Int → Int → HP → Option (Unit × HP)) (k : Nat) : Nat → Int → Int → Int → Int → Int → Int → Int → Int → Int → Int → Int → HP → Option (Unit × HP) :=
  Nat.rec (motive := fun _ => Nat → Int → Int → Int → Int → Int → Int → Int → Int → Int → Int → Int → HP → Option (Unit × HP)) (fun _ _ _ _ _ _ _ _ _ _ _ _ _ => none) (fun _ rc375 l0 l1 l2 l3 l4 l5 l6 l7 l8 l9 l11 l12 h =>
    (xgI h (some l0) 12 31 26).bind fun v1 =>
    if v1 ≤ l12 then
      X12_plans_L434 F rc79 l0 l1 l2 l3 l4 l5 l6 l7 l8 l11 h
    else
      if l11 = 0 then
        X12_plans_L434 F rc79 l0 l1 l2 l3 l4 l5 l6 l7 l8 l11 h
      else
        (xgI h (some l0) 12 31 26).bind fun v4 =>
        xb (X12_optionOf F l5 v4 l12 h) fun v5 h6 =>
        if v5 = 3 then
          X12_plans_L421 F rc79 rc375 l0 l1 l2 l3 l4 l5 l6 l7 l8 l9 l12 h6
        else
          (xgP h6 (some l0) 12 31 25).bind fun v8 =>
          (xaI h6 v8 100 l12).bind fun v9 =>
          (xrc h6 (some l0) 12 31).bind fun a12 =>
          xb (X12_leansOf F a12 v9 h6) fun v10 h11 =>
          if (xand v10 l9) = 0 then
            X12_plans_L421 F rc79 rc375 l0 l1 l2 l3 l4 l5 l6 l7 l8 l9 l12 h11
          else
            X12_plans_L426 F rc79 rc375 l0 l1 l2 l3 l4 l5 l6 l7 l8 l9 l12 0 h11) k
theorem X12_plans_L375_s (F : Nat)  (rc79 : Nat → Int → Int → Int → Int → Int → HP → Option (Unit × HP)) (k : Nat) (l0 : Nat) (l1 : Int) (l2 : Int) (l3 : Int) (l4 : Int) (l5 : Int) (l6 : Int) (l7 : Int) (l8 : Int) (l9 : Int) (l11 : Int) (l12 : Int)  (h : HP) : X12_plans_L375 F  rc79 (k + 1) l0 l1 l2 l3 l4 l5 l6 l7 l8 l9 l11 l12 h =
    (xgI h (some l0) 12 31 26).bind fun v1 =>
    if v1 ≤ l12 then
      X12_plans_L434 F rc79 l0 l1 l2 l3 l4 l5 l6 l7 l8 l11 h
    else
      if l11 = 0 then
        X12_plans_L434 F rc79 l0 l1 l2 l3 l4 l5 l6 l7 l8 l11 h
      else
        (xgI h (some l0) 12 31 26).bind fun v4 =>
        xb (X12_optionOf F l5 v4 l12 h) fun v5 h6 =>
        if v5 = 3 then
          X12_plans_L421 F rc79 (X12_plans_L375 F rc79 k) l0 l1 l2 l3 l4 l5 l6 l7 l8 l9 l12 h6
        else
          (xgP h6 (some l0) 12 31 25).bind fun v8 =>
          (xaI h6 v8 100 l12).bind fun v9 =>
          (xrc h6 (some l0) 12 31).bind fun a12 =>
          xb (X12_leansOf F a12 v9 h6) fun v10 h11 =>
          if (xand v10 l9) = 0 then
            X12_plans_L421 F rc79 (X12_plans_L375 F rc79 k) l0 l1 l2 l3 l4 l5 l6 l7 l8 l9 l12 h11
          else
            X12_plans_L426 F rc79 (X12_plans_L375 F rc79 k) l0 l1 l2 l3 l4 l5 l6 l7 l8 l9 l12 0 h11 := rfl
set_option maxRecDepth 100000 in
theorem SX12_plans_L375 {K : Ctx} {F : Nat} {r : Unit} {hf : HP}   (rc79 : Nat → Int → Int → Int → Int → Int → HP → Option (Unit × HP)) (hrc79 : ∀ l0 l1 l2 l3 l4 l5 h, rc79 l0 l1 l2 l3 l4 l5 h = some (r, hf) → Go K MX12_plans (QM K none hf) hf 79 [(0, vr (some l0)), (1, vi l1), (2, vi l2), (3, vi l3), (4, vi l4), (5, vi l5)] [] h) : ∀ (k : Nat) (l0 : Nat) (l1 : Int) (l2 : Int) (l3 : Int) (l4 : Int) (l5 : Int) (l6 : Int) (l7 : Int) (l8 : Int) (l9 : Int) (l11 : Int) (l12 : Int)  (h : HP), X12_plans_L375 F  rc79 k l0 l1 l2 l3 l4 l5 l6 l7 l8 l9 l11 l12 h = some (r, hf) → Go K MX12_plans (QM K none hf) hf 375 [(0, vr (some l0)), (1, vi l1), (2, vi l2), (3, vi l3), (4, vi l4), (5, vi l5), (6, vi l6), (7, vi l7), (8, vi l8), (9, vi l9), (11, vi l11), (12, vi l12)] [] h := by
  intro k
  induction k with
  | zero => intro l0 l1 l2 l3 l4 l5 l6 l7 l8 l9 l11 l12 h E; exact nomatch E
  | succ k hrc375 =>
    intro l0 l1 l2 l3 l4 l5 l6 l7 l8 l9 l11 l12 h E
    rw [X12_plans_L375_s] at E
    refine go_iload (j := 11) (n := 377) rfl dX12_plans_375 rfl ?_
    refine go_aload_n (j := 0) (n := 378) rfl rfl dX12_plans_377 rfl ?_
    replace E := Option.bind_eq_some_iff.mp E; obtain ⟨v1, ev1, E⟩ := E
    refine go_getI (n := 381) ev1 fl_RX12_382 rfl dX12_plans_378 rfl ?_
    refine go_icmp_ge (tgt := 434) (n := 384) dX12_plans_381 rfl rfl (fun c2 => ?_) (fun c2 => ?_)
    · rw [if_pos c2] at E
      refine go_pick (lv' := [(0, vr (some l0)), (1, vi l1), (2, vi l2), (3, vi l3), (4, vi l4), (5, vi l5), (6, vi l6), (7, vi l7), (8, vi l8), (11, vi l11)]) [0, 1, 2, 3, 4, 5, 6, 7, 8, 10] rfl ?_
      exact SX12_plans_L434   _ hrc79 _ _ _ _ _ _ _ _ _ _  _ E
    · rw [if_neg c2] at E
      refine go_iload (j := 10) (n := 386) rfl dX12_plans_384 rfl ?_
      refine go_if_eq (tgt := 434) (n := 389) dX12_plans_386 rfl rfl (fun c3 => ?_) (fun c3 => ?_)
      · rw [if_pos c3] at E
        refine go_pick (lv' := [(0, vr (some l0)), (1, vi l1), (2, vi l2), (3, vi l3), (4, vi l4), (5, vi l5), (6, vi l6), (7, vi l7), (8, vi l8), (11, vi l11)]) [0, 1, 2, 3, 4, 5, 6, 7, 8, 10] rfl ?_
        exact SX12_plans_L434   _ hrc79 _ _ _ _ _ _ _ _ _ _  _ E
      · rw [if_neg c3] at E
        refine go_iload (j := 5) (n := 391) rfl dX12_plans_389 rfl ?_
        refine go_aload_n (j := 0) (n := 392) rfl rfl dX12_plans_391 rfl ?_
        replace E := Option.bind_eq_some_iff.mp E; obtain ⟨v4, ev4, E⟩ := E
        refine go_getI (n := 395) ev4 fl_RX12_382 rfl dX12_plans_392 rfl ?_
        refine go_iload (j := 11) (n := 397) rfl dX12_plans_395 rfl ?_
        replace E := xb_some E; obtain ⟨v5, h6, ev5, E⟩ := E
        refine go_callS (y := yX12_optionOf) (n := 400) (st := []) (as := [vi l5, vi v4, vi l12]) (stk9 := [vi v5]) (OX12_optionOf ev5) yw_X12_optionOf wml_RX12_388 wst_X12_optionOf (Nat.le_of_ble_eq_true rfl) rfl ⟨Nat.le_of_ble_eq_true rfl, Nat.le_of_ble_eq_true rfl⟩ (Nat.le_of_ble_eq_true rfl) dX12_plans_397 rfl rfl rfl ?_
        refine go_iconst (z := 3) (n := 401) ⟨by decide, by decide⟩ dX12_plans_400 rfl ?_
        refine go_icmp_eq (tgt := 421) (n := 404) dX12_plans_401 rfl rfl (fun c7 => ?_) (fun c7 => ?_)
        · rw [if_pos c7] at E
          refine go_pick (lv' := [(0, vr (some l0)), (1, vi l1), (2, vi l2), (3, vi l3), (4, vi l4), (5, vi l5), (6, vi l6), (7, vi l7), (8, vi l8), (9, vi l9), (12, vi l12)]) [0, 1, 2, 3, 4, 5, 6, 7, 8, 9, 11] rfl ?_
          exact SX12_plans_L421   _ _ hrc79 hrc375 _ _ _ _ _ _ _ _ _ _ _  _ E
        · rw [if_neg c7] at E
          refine go_aload_n (j := 0) (n := 405) rfl rfl dX12_plans_404 rfl ?_
          refine go_aload_n (j := 0) (n := 406) rfl rfl dX12_plans_405 rfl ?_
          replace E := Option.bind_eq_some_iff.mp E; obtain ⟨v8, ev8, E⟩ := E
          refine go_getP (n := 409) ev8 fl_RX12_48 rfl dX12_plans_406 rfl ?_
          refine go_iload (j := 11) (n := 411) rfl dX12_plans_409 rfl ?_
          replace E := Option.bind_eq_some_iff.mp E; obtain ⟨v9, ev9, E⟩ := E
          refine go_iaload (n := 412) ev9 dX12_plans_411 rfl ?_
          replace E := Option.bind_eq_some_iff.mp E; obtain ⟨a12, ea12, E⟩ := E
          obtain ⟨fa12, ga12⟩ := xrc_some ea12
          replace E := xb_some E; obtain ⟨v10, h11, ev10, E⟩ := E
          refine go_callV (y := yX12_leansOf) (n := 415) (st := []) (as := [vi v9]) (stk9 := [vi v10]) (OX12_leansOf ev10) yw_X12_leansOf ci_12 ga12 wml_RX12_259 wim_X12_leansOf wse_X12_leansOf (Nat.le_of_ble_eq_true rfl) rfl ⟨Nat.le_of_ble_eq_true rfl, Nat.le_of_ble_eq_true rfl⟩ (Nat.le_of_ble_eq_true rfl) dX12_plans_412 rfl (by cases fa12; rfl) rfl ?_
          refine go_iload (j := 9) (n := 417) rfl dX12_plans_415 rfl ?_
          refine go_iand (n := 418) dX12_plans_417 rfl ?_
          refine go_if_ne (tgt := 425) (n := 421) dX12_plans_418 rfl rfl (fun c13 => ?_) (fun c13 => ?_)
          · rw [if_neg c13] at E
            refine go_iconst (z := 0) (n := 426) ⟨by decide, by decide⟩ dX12_plans_425 rfl ?_
            refine go_pick (lv' := [(0, vr (some l0)), (1, vi l1), (2, vi l2), (3, vi l3), (4, vi l4), (5, vi l5), (6, vi l6), (7, vi l7), (8, vi l8), (9, vi l9), (12, vi l12)]) [0, 1, 2, 3, 4, 5, 6, 7, 8, 9, 11] rfl ?_
            exact SX12_plans_L426   _ _ hrc79 hrc375 _ _ _ _ _ _ _ _ _ _ _ _ _ E
          · rw [if_pos c13] at E
            refine go_pick (lv' := [(0, vr (some l0)), (1, vi l1), (2, vi l2), (3, vi l3), (4, vi l4), (5, vi l5), (6, vi l6), (7, vi l7), (8, vi l8), (9, vi l9), (12, vi l12)]) [0, 1, 2, 3, 4, 5, 6, 7, 8, 9, 11] rfl ?_
            exact SX12_plans_L421   _ _ hrc79 hrc375 _ _ _ _ _ _ _ _ _ _ _  _ E
noncomputable def X12_plans_L370 (F : Nat)  (rc79 : Nat → Int → Int → Int → Int → Int → HP → Option (Unit × HP)) (l0 : Nat) (l1 : Int) (l2 : Int) (l3 : Int) (l4 : Int) (l5 : Int) (l6 : Int) (l7 : Int) (l8 : Int) (l9 : Int) (s0 : Int) (h : HP) : Option (Unit × HP) :=
  X12_plans_L375 F rc79 F l0 l1 l2 l3 l4 l5 l6 l7 l8 l9 s0 0 h
set_option maxRecDepth 100000 in
theorem SX12_plans_L370 {K : Ctx} {F : Nat} {r : Unit} {hf : HP}   (rc79 : Nat → Int → Int → Int → Int → Int → HP → Option (Unit × HP)) (hrc79 : ∀ l0 l1 l2 l3 l4 l5 h, rc79 l0 l1 l2 l3 l4 l5 h = some (r, hf) → Go K MX12_plans (QM K none hf) hf 79 [(0, vr (some l0)), (1, vi l1), (2, vi l2), (3, vi l3), (4, vi l4), (5, vi l5)] [] h) (l0 : Nat) (l1 : Int) (l2 : Int) (l3 : Int) (l4 : Int) (l5 : Int) (l6 : Int) (l7 : Int) (l8 : Int) (l9 : Int) (s0 : Int) (h : HP) (E : X12_plans_L370 F  rc79 l0 l1 l2 l3 l4 l5 l6 l7 l8 l9 s0 h = some (r, hf)) : Go K MX12_plans (QM K none hf) hf 370 [(0, vr (some l0)), (1, vi l1), (2, vi l2), (3, vi l3), (4, vi l4), (5, vi l5), (6, vi l6), (7, vi l7), (8, vi l8), (9, vi l9)] [vi s0] h := by
  unfold X12_plans_L370 at E
  refine go_istore (n := 372) (lv' := [(11, vi s0), (0, vr (some l0)), (1, vi l1), (2, vi l2), (3, vi l3), (4, vi l4), (5, vi l5), (6, vi l6), (7, vi l7), (8, vi l8), (9, vi l9)]) dX12_plans_370 rfl (Nat.le_of_ble_eq_true rfl) rfl ?_
  refine go_iconst (z := 0) (n := 373) ⟨by decide, by decide⟩ dX12_plans_372 rfl ?_
  refine go_istore (n := 375) (lv' := [(12, vi 0), (11, vi s0), (0, vr (some l0)), (1, vi l1), (2, vi l2), (3, vi l3), (4, vi l4), (5, vi l5), (6, vi l6), (7, vi l7), (8, vi l8), (9, vi l9)]) dX12_plans_373 rfl (Nat.le_of_ble_eq_true rfl) rfl ?_
  refine go_pick (lv' := [(0, vr (some l0)), (1, vi l1), (2, vi l2), (3, vi l3), (4, vi l4), (5, vi l5), (6, vi l6), (7, vi l7), (8, vi l8), (9, vi l9), (11, vi s0), (12, vi 0)]) [2, 3, 4, 5, 6, 7, 8, 9, 10, 11, 1, 0] rfl ?_
  exact SX12_plans_L375   _ hrc79 F _ _ _ _ _ _ _ _ _ _ _ _ _ E
noncomputable def X12_plans_L365 (F : Nat)  (rc79 : Nat → Int → Int → Int → Int → Int → HP → Option (Unit × HP)) (l0 : Nat) (l1 : Int) (l2 : Int) (l3 : Int) (l4 : Int) (l5 : Int) (l6 : Int) (l7 : Int) (l8 : Int) (l9 : Int)  (h : HP) : Option (Unit × HP) :=
  X12_plans_L370 F rc79 l0 l1 l2 l3 l4 l5 l6 l7 l8 l9 1 h
set_option maxRecDepth 100000 in
theorem SX12_plans_L365 {K : Ctx} {F : Nat} {r : Unit} {hf : HP}   (rc79 : Nat → Int → Int → Int → Int → Int → HP → Option (Unit × HP)) (hrc79 : ∀ l0 l1 l2 l3 l4 l5 h, rc79 l0 l1 l2 l3 l4 l5 h = some (r, hf) → Go K MX12_plans (QM K none hf) hf 79 [(0, vr (some l0)), (1, vi l1), (2, vi l2), (3, vi l3), (4, vi l4), (5, vi l5)] [] h) (l0 : Nat) (l1 : Int) (l2 : Int) (l3 : Int) (l4 : Int) (l5 : Int) (l6 : Int) (l7 : Int) (l8 : Int) (l9 : Int)  (h : HP) (E : X12_plans_L365 F  rc79 l0 l1 l2 l3 l4 l5 l6 l7 l8 l9 h = some (r, hf)) : Go K MX12_plans (QM K none hf) hf 365 [(0, vr (some l0)), (1, vi l1), (2, vi l2), (3, vi l3), (4, vi l4), (5, vi l5), (6, vi l6), (7, vi l7), (8, vi l8), (9, vi l9)] [] h := by
  unfold X12_plans_L365 at E
  refine go_iconst (z := 1) (n := 366) ⟨by decide, by decide⟩ dX12_plans_365 rfl ?_
  refine go_goto (tgt := 370) dX12_plans_366 rfl ?_
  exact SX12_plans_L370   _ hrc79 _ _ _ _ _ _ _ _ _ _ _ _ E
noncomputable def X12_plans_L369 (F : Nat)  (rc79 : Nat → Int → Int → Int → Int → Int → HP → Option (Unit × HP)) (l0 : Nat) (l1 : Int) (l2 : Int) (l3 : Int) (l4 : Int) (l5 : Int) (l6 : Int) (l7 : Int) (l8 : Int) (l9 : Int)  (h : HP) : Option (Unit × HP) :=
  X12_plans_L370 F rc79 l0 l1 l2 l3 l4 l5 l6 l7 l8 l9 0 h
set_option maxRecDepth 100000 in
theorem SX12_plans_L369 {K : Ctx} {F : Nat} {r : Unit} {hf : HP}   (rc79 : Nat → Int → Int → Int → Int → Int → HP → Option (Unit × HP)) (hrc79 : ∀ l0 l1 l2 l3 l4 l5 h, rc79 l0 l1 l2 l3 l4 l5 h = some (r, hf) → Go K MX12_plans (QM K none hf) hf 79 [(0, vr (some l0)), (1, vi l1), (2, vi l2), (3, vi l3), (4, vi l4), (5, vi l5)] [] h) (l0 : Nat) (l1 : Int) (l2 : Int) (l3 : Int) (l4 : Int) (l5 : Int) (l6 : Int) (l7 : Int) (l8 : Int) (l9 : Int)  (h : HP) (E : X12_plans_L369 F  rc79 l0 l1 l2 l3 l4 l5 l6 l7 l8 l9 h = some (r, hf)) : Go K MX12_plans (QM K none hf) hf 369 [(0, vr (some l0)), (1, vi l1), (2, vi l2), (3, vi l3), (4, vi l4), (5, vi l5), (6, vi l6), (7, vi l7), (8, vi l8), (9, vi l9)] [] h := by
  unfold X12_plans_L369 at E
  refine go_iconst (z := 0) (n := 370) ⟨by decide, by decide⟩ dX12_plans_369 rfl ?_
  exact SX12_plans_L370   _ hrc79 _ _ _ _ _ _ _ _ _ _ _ _ E
noncomputable def X12_plans_L299 (F : Nat)  (rc79 : Nat → Int → Int → Int → Int → Int → HP → Option (Unit × HP)) (rc110 : Nat → Int → Int → Int → Int → Int → Int → Int → Int → Int → Int → Int → HP → Option (Unit × HP)) (l0 : Nat) (l1 : Int) (l2 : Int) (l3 : Int) (l4 : Int) (l5 : Int) (l6 : Int) (l7 : Int) (l8 : Int) (l10 : Int) (l11 : Int) (s0 : Int) (s1 : Int) (h : HP) : Option (Unit × HP) :=
  rc110 l0 l1 l2 l3 l4 l5 l6 l7 l8 (xor_ s1 s0) l10 (w32 (l11 + 1)) h
set_option maxRecDepth 100000 in
theorem SX12_plans_L299 {K : Ctx} {F : Nat} {r : Unit} {hf : HP}   (rc79 : Nat → Int → Int → Int → Int → Int → HP → Option (Unit × HP)) (rc110 : Nat → Int → Int → Int → Int → Int → Int → Int → Int → Int → Int → Int → HP → Option (Unit × HP)) (hrc79 : ∀ l0 l1 l2 l3 l4 l5 h, rc79 l0 l1 l2 l3 l4 l5 h = some (r, hf) → Go K MX12_plans (QM K none hf) hf 79 [(0, vr (some l0)), (1, vi l1), (2, vi l2), (3, vi l3), (4, vi l4), (5, vi l5)] [] h) (hrc110 : ∀ l0 l1 l2 l3 l4 l5 l6 l7 l8 l9 l10 l11 h, rc110 l0 l1 l2 l3 l4 l5 l6 l7 l8 l9 l10 l11 h = some (r, hf) → Go K MX12_plans (QM K none hf) hf 110 [(0, vr (some l0)), (1, vi l1), (2, vi l2), (3, vi l3), (4, vi l4), (5, vi l5), (6, vi l6), (7, vi l7), (8, vi l8), (9, vi l9), (10, vi l10), (11, vi l11)] [] h) (l0 : Nat) (l1 : Int) (l2 : Int) (l3 : Int) (l4 : Int) (l5 : Int) (l6 : Int) (l7 : Int) (l8 : Int) (l10 : Int) (l11 : Int) (s0 : Int) (s1 : Int) (h : HP) (E : X12_plans_L299 F  rc79 rc110 l0 l1 l2 l3 l4 l5 l6 l7 l8 l10 l11 s0 s1 h = some (r, hf)) : Go K MX12_plans (QM K none hf) hf 299 [(0, vr (some l0)), (1, vi l1), (2, vi l2), (3, vi l3), (4, vi l4), (5, vi l5), (6, vi l6), (7, vi l7), (8, vi l8), (10, vi l10), (11, vi l11)] [vi s0, vi s1] h := by
  unfold X12_plans_L299 at E
  refine go_ior (n := 300) dX12_plans_299 rfl ?_
  refine go_istore (n := 302) (lv' := [(9, vi (xor_ s1 s0)), (0, vr (some l0)), (1, vi l1), (2, vi l2), (3, vi l3), (4, vi l4), (5, vi l5), (6, vi l6), (7, vi l7), (8, vi l8), (10, vi l10), (11, vi l11)]) dX12_plans_300 rfl (Nat.le_of_ble_eq_true rfl) rfl ?_
  refine go_iinc (j := 11) (n := 305) (lv' := [(11, vi (w32 (l11 + 1))), (9, vi (xor_ s1 s0)), (0, vr (some l0)), (1, vi l1), (2, vi l2), (3, vi l3), (4, vi l4), (5, vi l5), (6, vi l6), (7, vi l7), (8, vi l8), (10, vi l10)]) rfl dX12_plans_302 rfl (Nat.le_of_ble_eq_true rfl) rfl ?_
  refine go_goto (tgt := 110) dX12_plans_305 rfl ?_
  refine go_pick (lv' := [(0, vr (some l0)), (1, vi l1), (2, vi l2), (3, vi l3), (4, vi l4), (5, vi l5), (6, vi l6), (7, vi l7), (8, vi l8), (9, vi (xor_ s1 s0)), (10, vi l10), (11, vi (w32 (l11 + 1)))]) [2, 3, 4, 5, 6, 7, 8, 9, 10, 1, 11, 0] rfl ?_
  exact hrc110 _ _ _ _ _ _ _ _ _ _ _ _ _ E
noncomputable def X12_plans_L280 (F : Nat)  (rc79 : Nat → Int → Int → Int → Int → Int → HP → Option (Unit × HP)) (rc110 : Nat → Int → Int → Int → Int → Int → Int → Int → Int → Int → Int → Int → HP → Option (Unit × HP)) (l0 : Nat) (l1 : Int) (l2 : Int) (l3 : Int) (l4 : Int) (l5 : Int) (l6 : Int) (l7 : Int) (l9 : Int) (l10 : Int) (l11 : Int) (l12 : Int) (l13 : Int) (s0 : Int) (s1 : Int) (h : HP) : Option (Unit × HP) :=
  X12_plans_L299 F rc79 rc110 l0 l1 l2 l3 l4 l5 l6 l7 (w32 (s1 + s0)) l10 l11 (if l13 = 3 then xshl 1 l12 else 0) l9 h
set_option maxRecDepth 100000 in
theorem SX12_plans_L280 {K : Ctx} {F : Nat} {r : Unit} {hf : HP}   (rc79 : Nat → Int → Int → Int → Int → Int → HP → Option (Unit × HP)) (rc110 : Nat → Int → Int → Int → Int → Int → Int → Int → Int → Int → Int → Int → HP → Option (Unit × HP)) (hrc79 : ∀ l0 l1 l2 l3 l4 l5 h, rc79 l0 l1 l2 l3 l4 l5 h = some (r, hf) → Go K MX12_plans (QM K none hf) hf 79 [(0, vr (some l0)), (1, vi l1), (2, vi l2), (3, vi l3), (4, vi l4), (5, vi l5)] [] h) (hrc110 : ∀ l0 l1 l2 l3 l4 l5 l6 l7 l8 l9 l10 l11 h, rc110 l0 l1 l2 l3 l4 l5 l6 l7 l8 l9 l10 l11 h = some (r, hf) → Go K MX12_plans (QM K none hf) hf 110 [(0, vr (some l0)), (1, vi l1), (2, vi l2), (3, vi l3), (4, vi l4), (5, vi l5), (6, vi l6), (7, vi l7), (8, vi l8), (9, vi l9), (10, vi l10), (11, vi l11)] [] h) (l0 : Nat) (l1 : Int) (l2 : Int) (l3 : Int) (l4 : Int) (l5 : Int) (l6 : Int) (l7 : Int) (l9 : Int) (l10 : Int) (l11 : Int) (l12 : Int) (l13 : Int) (s0 : Int) (s1 : Int) (h : HP) (E : X12_plans_L280 F  rc79 rc110 l0 l1 l2 l3 l4 l5 l6 l7 l9 l10 l11 l12 l13 s0 s1 h = some (r, hf)) : Go K MX12_plans (QM K none hf) hf 280 [(0, vr (some l0)), (1, vi l1), (2, vi l2), (3, vi l3), (4, vi l4), (5, vi l5), (6, vi l6), (7, vi l7), (9, vi l9), (10, vi l10), (11, vi l11), (12, vi l12), (13, vi l13)] [vi s0, vi s1] h := by
  unfold X12_plans_L280 at E
  refine go_iadd (n := 281) dX12_plans_280 rfl ?_
  refine go_istore (n := 283) (lv' := [(8, vi (w32 (s1 + s0))), (0, vr (some l0)), (1, vi l1), (2, vi l2), (3, vi l3), (4, vi l4), (5, vi l5), (6, vi l6), (7, vi l7), (9, vi l9), (10, vi l10), (11, vi l11), (12, vi l12), (13, vi l13)]) dX12_plans_281 rfl (Nat.le_of_ble_eq_true rfl) rfl ?_
  refine go_iload (j := 9) (n := 285) rfl dX12_plans_283 rfl ?_
  refine go_iload (j := 13) (n := 287) rfl dX12_plans_285 rfl ?_
  refine go_iconst (z := 3) (n := 288) ⟨by decide, by decide⟩ dX12_plans_287 rfl ?_
  refine go_icmp_ne (tgt := 298) (n := 291) dX12_plans_288 rfl rfl (fun c1 => ?_) (fun c1 => ?_)
  · simp only [if_neg c1] at E
    refine go_iconst (z := 0) (n := 299) ⟨by decide, by decide⟩ dX12_plans_298 rfl ?_
    refine go_pick (lv' := [(0, vr (some l0)), (1, vi l1), (2, vi l2), (3, vi l3), (4, vi l4), (5, vi l5), (6, vi l6), (7, vi l7), (8, vi (w32 (s1 + s0))), (10, vi l10), (11, vi l11)]) [1, 2, 3, 4, 5, 6, 7, 8, 0, 10, 11] rfl ?_
    exact SX12_plans_L299   _ _ hrc79 hrc110 _ _ _ _ _ _ _ _ _ _ _ _ _ _ E
  · simp only [if_pos c1] at E
    refine go_iconst (z := 1) (n := 292) ⟨by decide, by decide⟩ dX12_plans_291 rfl ?_
    refine go_iload (j := 12) (n := 294) rfl dX12_plans_292 rfl ?_
    refine go_ishl (n := 295) dX12_plans_294 rfl ?_
    refine go_goto (tgt := 299) dX12_plans_295 rfl ?_
    refine go_pick (lv' := [(0, vr (some l0)), (1, vi l1), (2, vi l2), (3, vi l3), (4, vi l4), (5, vi l5), (6, vi l6), (7, vi l7), (8, vi (w32 (s1 + s0))), (10, vi l10), (11, vi l11)]) [1, 2, 3, 4, 5, 6, 7, 8, 0, 10, 11] rfl ?_
    exact SX12_plans_L299   _ _ hrc79 hrc110 _ _ _ _ _ _ _ _ _ _ _ _ _ _ E
noncomputable def X12_plans_L258 (F : Nat)  (rc79 : Nat → Int → Int → Int → Int → Int → HP → Option (Unit × HP)) (rc110 : Nat → Int → Int → Int → Int → Int → Int → Int → Int → Int → Int → Int → HP → Option (Unit × HP)) (l0 : Nat) (l1 : Int) (l2 : Int) (l3 : Int) (l4 : Int) (l5 : Int) (l6 : Int) (l8 : Int) (l9 : Int) (l10 : Int) (l11 : Int) (l12 : Int) (l13 : Int) (s0 : Int) (s1 : Int) (h : HP) : Option (Unit × HP) :=
  if l13 = 2 then
    (xrc h (some l0) 12 31).bind fun a4 =>
    xb (X12_its F a4 l12 2 h) fun v2 h3 =>
    X12_plans_L280 F rc79 rc110 l0 l1 l2 l3 l4 l5 l6 (w32 (s1 + s0)) l9 l10 l11 l12 l13 v2 l8 h3
  else
    X12_plans_L280 F rc79 rc110 l0 l1 l2 l3 l4 l5 l6 (w32 (s1 + s0)) l9 l10 l11 l12 l13 0 l8 h
set_option maxRecDepth 100000 in
theorem SX12_plans_L258 {K : Ctx} {F : Nat} {r : Unit} {hf : HP}   (rc79 : Nat → Int → Int → Int → Int → Int → HP → Option (Unit × HP)) (rc110 : Nat → Int → Int → Int → Int → Int → Int → Int → Int → Int → Int → Int → HP → Option (Unit × HP)) (hrc79 : ∀ l0 l1 l2 l3 l4 l5 h, rc79 l0 l1 l2 l3 l4 l5 h = some (r, hf) → Go K MX12_plans (QM K none hf) hf 79 [(0, vr (some l0)), (1, vi l1), (2, vi l2), (3, vi l3), (4, vi l4), (5, vi l5)] [] h) (hrc110 : ∀ l0 l1 l2 l3 l4 l5 l6 l7 l8 l9 l10 l11 h, rc110 l0 l1 l2 l3 l4 l5 l6 l7 l8 l9 l10 l11 h = some (r, hf) → Go K MX12_plans (QM K none hf) hf 110 [(0, vr (some l0)), (1, vi l1), (2, vi l2), (3, vi l3), (4, vi l4), (5, vi l5), (6, vi l6), (7, vi l7), (8, vi l8), (9, vi l9), (10, vi l10), (11, vi l11)] [] h) (l0 : Nat) (l1 : Int) (l2 : Int) (l3 : Int) (l4 : Int) (l5 : Int) (l6 : Int) (l8 : Int) (l9 : Int) (l10 : Int) (l11 : Int) (l12 : Int) (l13 : Int) (s0 : Int) (s1 : Int) (h : HP) (E : X12_plans_L258 F  rc79 rc110 l0 l1 l2 l3 l4 l5 l6 l8 l9 l10 l11 l12 l13 s0 s1 h = some (r, hf)) : Go K MX12_plans (QM K none hf) hf 258 [(0, vr (some l0)), (1, vi l1), (2, vi l2), (3, vi l3), (4, vi l4), (5, vi l5), (6, vi l6), (8, vi l8), (9, vi l9), (10, vi l10), (11, vi l11), (12, vi l12), (13, vi l13)] [vi s0, vi s1] h := by
  unfold X12_plans_L258 at E
  refine go_iadd (n := 259) dX12_plans_258 rfl ?_
  refine go_istore (n := 261) (lv' := [(7, vi (w32 (s1 + s0))), (0, vr (some l0)), (1, vi l1), (2, vi l2), (3, vi l3), (4, vi l4), (5, vi l5), (6, vi l6), (8, vi l8), (9, vi l9), (10, vi l10), (11, vi l11), (12, vi l12), (13, vi l13)]) dX12_plans_259 rfl (Nat.le_of_ble_eq_true rfl) rfl ?_
  refine go_iload (j := 8) (n := 263) rfl dX12_plans_261 rfl ?_
  refine go_iload (j := 13) (n := 265) rfl dX12_plans_263 rfl ?_
  refine go_iconst (z := 2) (n := 266) ⟨by decide, by decide⟩ dX12_plans_265 rfl ?_
  refine go_icmp_ne (tgt := 279) (n := 269) dX12_plans_266 rfl rfl (fun c1 => ?_) (fun c1 => ?_)
  · rw [if_neg c1] at E
    refine go_iconst (z := 0) (n := 280) ⟨by decide, by decide⟩ dX12_plans_279 rfl ?_
    refine go_pick (lv' := [(0, vr (some l0)), (1, vi l1), (2, vi l2), (3, vi l3), (4, vi l4), (5, vi l5), (6, vi l6), (7, vi (w32 (s1 + s0))), (9, vi l9), (10, vi l10), (11, vi l11), (12, vi l12), (13, vi l13)]) [1, 2, 3, 4, 5, 6, 7, 0, 9, 10, 11, 12, 13] rfl ?_
    exact SX12_plans_L280   _ _ hrc79 hrc110 _ _ _ _ _ _ _ _ _ _ _ _ _ _ _ _ E
  · rw [if_pos c1] at E
    refine go_aload_n (j := 1) (n := 270) rfl rfl dX12_plans_269 rfl ?_
    refine go_iload (j := 12) (n := 272) rfl dX12_plans_270 rfl ?_
    refine go_iconst (z := 2) (n := 273) ⟨by decide, by decide⟩ dX12_plans_272 rfl ?_
    replace E := Option.bind_eq_some_iff.mp E; obtain ⟨a4, ea4, E⟩ := E
    obtain ⟨fa4, ga4⟩ := xrc_some ea4
    replace E := xb_some E; obtain ⟨v2, h3, ev2, E⟩ := E
    refine go_callV (y := yX12_its) (n := 276) (st := [vi l8]) (as := [vi l12, vi 2]) (stk9 := [vi v2, vi l8]) (OX12_its ev2) yw_X12_its ci_12 ga4 wml_RX12_250 wim_X12_its wse_X12_its (Nat.le_of_ble_eq_true rfl) rfl ⟨Nat.le_of_ble_eq_true rfl, Nat.le_of_ble_eq_true rfl⟩ (Nat.le_of_ble_eq_true rfl) dX12_plans_273 rfl (by cases fa4; rfl) rfl ?_
    refine go_goto (tgt := 280) dX12_plans_276 rfl ?_
    refine go_pick (lv' := [(0, vr (some l0)), (1, vi l1), (2, vi l2), (3, vi l3), (4, vi l4), (5, vi l5), (6, vi l6), (7, vi (w32 (s1 + s0))), (9, vi l9), (10, vi l10), (11, vi l11), (12, vi l12), (13, vi l13)]) [1, 2, 3, 4, 5, 6, 7, 0, 9, 10, 11, 12, 13] rfl ?_
    exact SX12_plans_L280   _ _ hrc79 hrc110 _ _ _ _ _ _ _ _ _ _ _ _ _ _ _ _ E
noncomputable def X12_plans_L221 (F : Nat)  (rc79 : Nat → Int → Int → Int → Int → Int → HP → Option (Unit × HP)) (rc110 : Nat → Int → Int → Int → Int → Int → Int → Int → Int → Int → Int → Int → HP → Option (Unit × HP)) (l0 : Nat) (l1 : Int) (l2 : Int) (l3 : Int) (l4 : Int) (l5 : Int) (l7 : Int) (l8 : Int) (l9 : Int) (l10 : Int) (l11 : Int) (l12 : Int) (l13 : Int) (s0 : Int) (s1 : Int) (h : HP) : Option (Unit × HP) :=
  if l13 = 0 then
    (xrc h (some l0) 12 31).bind fun a8 =>
    xb (X12_its F a8 l12 0 h) fun v6 h7 =>
    X12_plans_L258 F rc79 rc110 l0 l1 l2 l3 l4 l5 (w32 (s1 + s0)) l8 l9 l10 l11 l12 l13 v6 l7 h7
  else
    if l13 = 1 then
      (xrc h (some l0) 12 31).bind fun a5 =>
      xb (X12_its F a5 l12 5 h) fun v3 h4 =>
      X12_plans_L258 F rc79 rc110 l0 l1 l2 l3 l4 l5 (w32 (s1 + s0)) l8 l9 l10 l11 l12 l13 v3 l7 h4
    else
      X12_plans_L258 F rc79 rc110 l0 l1 l2 l3 l4 l5 (w32 (s1 + s0)) l8 l9 l10 l11 l12 l13 0 l7 h
set_option maxRecDepth 100000 in
theorem SX12_plans_L221 {K : Ctx} {F : Nat} {r : Unit} {hf : HP}   (rc79 : Nat → Int → Int → Int → Int → Int → HP → Option (Unit × HP)) (rc110 : Nat → Int → Int → Int → Int → Int → Int → Int → Int → Int → Int → Int → HP → Option (Unit × HP)) (hrc79 : ∀ l0 l1 l2 l3 l4 l5 h, rc79 l0 l1 l2 l3 l4 l5 h = some (r, hf) → Go K MX12_plans (QM K none hf) hf 79 [(0, vr (some l0)), (1, vi l1), (2, vi l2), (3, vi l3), (4, vi l4), (5, vi l5)] [] h) (hrc110 : ∀ l0 l1 l2 l3 l4 l5 l6 l7 l8 l9 l10 l11 h, rc110 l0 l1 l2 l3 l4 l5 l6 l7 l8 l9 l10 l11 h = some (r, hf) → Go K MX12_plans (QM K none hf) hf 110 [(0, vr (some l0)), (1, vi l1), (2, vi l2), (3, vi l3), (4, vi l4), (5, vi l5), (6, vi l6), (7, vi l7), (8, vi l8), (9, vi l9), (10, vi l10), (11, vi l11)] [] h) (l0 : Nat) (l1 : Int) (l2 : Int) (l3 : Int) (l4 : Int) (l5 : Int) (l7 : Int) (l8 : Int) (l9 : Int) (l10 : Int) (l11 : Int) (l12 : Int) (l13 : Int) (s0 : Int) (s1 : Int) (h : HP) (E : X12_plans_L221 F  rc79 rc110 l0 l1 l2 l3 l4 l5 l7 l8 l9 l10 l11 l12 l13 s0 s1 h = some (r, hf)) : Go K MX12_plans (QM K none hf) hf 221 [(0, vr (some l0)), (1, vi l1), (2, vi l2), (3, vi l3), (4, vi l4), (5, vi l5), (7, vi l7), (8, vi l8), (9, vi l9), (10, vi l10), (11, vi l11), (12, vi l12), (13, vi l13)] [vi s0, vi s1] h := by
  unfold X12_plans_L221 at E
  refine go_iadd (n := 222) dX12_plans_221 rfl ?_
  refine go_istore (n := 224) (lv' := [(6, vi (w32 (s1 + s0))), (0, vr (some l0)), (1, vi l1), (2, vi l2), (3, vi l3), (4, vi l4), (5, vi l5), (7, vi l7), (8, vi l8), (9, vi l9), (10, vi l10), (11, vi l11), (12, vi l12), (13, vi l13)]) dX12_plans_222 rfl (Nat.le_of_ble_eq_true rfl) rfl ?_
  refine go_iload (j := 7) (n := 226) rfl dX12_plans_224 rfl ?_
  refine go_iload (j := 13) (n := 228) rfl dX12_plans_226 rfl ?_
  refine go_if_ne (tgt := 241) (n := 231) dX12_plans_228 rfl rfl (fun c1 => ?_) (fun c1 => ?_)
  · rw [if_neg c1] at E
    refine go_iload (j := 13) (n := 243) rfl dX12_plans_241 rfl ?_
    refine go_iconst (z := 1) (n := 244) ⟨by decide, by decide⟩ dX12_plans_243 rfl ?_
    refine go_icmp_ne (tgt := 257) (n := 247) dX12_plans_244 rfl rfl (fun c2 => ?_) (fun c2 => ?_)
    · rw [if_neg c2] at E
      refine go_iconst (z := 0) (n := 258) ⟨by decide, by decide⟩ dX12_plans_257 rfl ?_
      refine go_pick (lv' := [(0, vr (some l0)), (1, vi l1), (2, vi l2), (3, vi l3), (4, vi l4), (5, vi l5), (6, vi (w32 (s1 + s0))), (8, vi l8), (9, vi l9), (10, vi l10), (11, vi l11), (12, vi l12), (13, vi l13)]) [1, 2, 3, 4, 5, 6, 0, 8, 9, 10, 11, 12, 13] rfl ?_
      exact SX12_plans_L258   _ _ hrc79 hrc110 _ _ _ _ _ _ _ _ _ _ _ _ _ _ _ _ E
    · rw [if_pos c2] at E
      refine go_aload_n (j := 1) (n := 248) rfl rfl dX12_plans_247 rfl ?_
      refine go_iload (j := 12) (n := 250) rfl dX12_plans_248 rfl ?_
      refine go_iconst (z := 5) (n := 251) ⟨by decide, by decide⟩ dX12_plans_250 rfl ?_
      replace E := Option.bind_eq_some_iff.mp E; obtain ⟨a5, ea5, E⟩ := E
      obtain ⟨fa5, ga5⟩ := xrc_some ea5
      replace E := xb_some E; obtain ⟨v3, h4, ev3, E⟩ := E
      refine go_callV (y := yX12_its) (n := 254) (st := [vi l7]) (as := [vi l12, vi 5]) (stk9 := [vi v3, vi l7]) (OX12_its ev3) yw_X12_its ci_12 ga5 wml_RX12_250 wim_X12_its wse_X12_its (Nat.le_of_ble_eq_true rfl) rfl ⟨Nat.le_of_ble_eq_true rfl, Nat.le_of_ble_eq_true rfl⟩ (Nat.le_of_ble_eq_true rfl) dX12_plans_251 rfl (by cases fa5; rfl) rfl ?_
      refine go_goto (tgt := 258) dX12_plans_254 rfl ?_
      refine go_pick (lv' := [(0, vr (some l0)), (1, vi l1), (2, vi l2), (3, vi l3), (4, vi l4), (5, vi l5), (6, vi (w32 (s1 + s0))), (8, vi l8), (9, vi l9), (10, vi l10), (11, vi l11), (12, vi l12), (13, vi l13)]) [1, 2, 3, 4, 5, 6, 0, 8, 9, 10, 11, 12, 13] rfl ?_
      exact SX12_plans_L258   _ _ hrc79 hrc110 _ _ _ _ _ _ _ _ _ _ _ _ _ _ _ _ E
  · rw [if_pos c1] at E
    refine go_aload_n (j := 1) (n := 232) rfl rfl dX12_plans_231 rfl ?_
    refine go_iload (j := 12) (n := 234) rfl dX12_plans_232 rfl ?_
    refine go_iconst (z := 0) (n := 235) ⟨by decide, by decide⟩ dX12_plans_234 rfl ?_
    replace E := Option.bind_eq_some_iff.mp E; obtain ⟨a8, ea8, E⟩ := E
    obtain ⟨fa8, ga8⟩ := xrc_some ea8
    replace E := xb_some E; obtain ⟨v6, h7, ev6, E⟩ := E
    refine go_callV (y := yX12_its) (n := 238) (st := [vi l7]) (as := [vi l12, vi 0]) (stk9 := [vi v6, vi l7]) (OX12_its ev6) yw_X12_its ci_12 ga8 wml_RX12_250 wim_X12_its wse_X12_its (Nat.le_of_ble_eq_true rfl) rfl ⟨Nat.le_of_ble_eq_true rfl, Nat.le_of_ble_eq_true rfl⟩ (Nat.le_of_ble_eq_true rfl) dX12_plans_235 rfl (by cases fa8; rfl) rfl ?_
    refine go_goto (tgt := 258) dX12_plans_238 rfl ?_
    refine go_pick (lv' := [(0, vr (some l0)), (1, vi l1), (2, vi l2), (3, vi l3), (4, vi l4), (5, vi l5), (6, vi (w32 (s1 + s0))), (8, vi l8), (9, vi l9), (10, vi l10), (11, vi l11), (12, vi l12), (13, vi l13)]) [1, 2, 3, 4, 5, 6, 0, 8, 9, 10, 11, 12, 13] rfl ?_
    exact SX12_plans_L258   _ _ hrc79 hrc110 _ _ _ _ _ _ _ _ _ _ _ _ _ _ _ _ E
noncomputable def X12_plans_L183 (F : Nat)  (rc79 : Nat → Int → Int → Int → Int → Int → HP → Option (Unit × HP)) (rc110 : Nat → Int → Int → Int → Int → Int → Int → Int → Int → Int → Int → Int → HP → Option (Unit × HP)) (l0 : Nat) (l1 : Int) (l2 : Int) (l3 : Int) (l4 : Int) (l5 : Int) (l6 : Int) (l7 : Int) (l8 : Int) (l9 : Int) (l11 : Int) (l12 : Int) (l13 : Int) (s0 : Int) (h : HP) : Option (Unit × HP) :=
  if l13 = 3 then
    X12_plans_L221 F rc79 rc110 l0 l1 l2 l3 l4 l5 l7 l8 l9 s0 l11 l12 l13 0 l6 h
  else
    if l13 = 1 then
      (xrc h (some l0) 12 31).bind fun a8 =>
      xb (X12_its F a8 l12 6 h) fun v6 h7 =>
      X12_plans_L221 F rc79 rc110 l0 l1 l2 l3 l4 l5 l7 l8 l9 s0 l11 l12 l13 v6 l6 h7
    else
      (xrc h (some l0) 12 31).bind fun a5 =>
      xb (X12_its F a5 l12 1 h) fun v3 h4 =>
      X12_plans_L221 F rc79 rc110 l0 l1 l2 l3 l4 l5 l7 l8 l9 s0 l11 l12 l13 v3 l6 h4
set_option maxRecDepth 100000 in
theorem SX12_plans_L183 {K : Ctx} {F : Nat} {r : Unit} {hf : HP}   (rc79 : Nat → Int → Int → Int → Int → Int → HP → Option (Unit × HP)) (rc110 : Nat → Int → Int → Int → Int → Int → Int → Int → Int → Int → Int → Int → HP → Option (Unit × HP)) (hrc79 : ∀ l0 l1 l2 l3 l4 l5 h, rc79 l0 l1 l2 l3 l4 l5 h = some (r, hf) → Go K MX12_plans (QM K none hf) hf 79 [(0, vr (some l0)), (1, vi l1), (2, vi l2), (3, vi l3), (4, vi l4), (5, vi l5)] [] h) (hrc110 : ∀ l0 l1 l2 l3 l4 l5 l6 l7 l8 l9 l10 l11 h, rc110 l0 l1 l2 l3 l4 l5 l6 l7 l8 l9 l10 l11 h = some (r, hf) → Go K MX12_plans (QM K none hf) hf 110 [(0, vr (some l0)), (1, vi l1), (2, vi l2), (3, vi l3), (4, vi l4), (5, vi l5), (6, vi l6), (7, vi l7), (8, vi l8), (9, vi l9), (10, vi l10), (11, vi l11)] [] h) (l0 : Nat) (l1 : Int) (l2 : Int) (l3 : Int) (l4 : Int) (l5 : Int) (l6 : Int) (l7 : Int) (l8 : Int) (l9 : Int) (l11 : Int) (l12 : Int) (l13 : Int) (s0 : Int) (h : HP) (E : X12_plans_L183 F  rc79 rc110 l0 l1 l2 l3 l4 l5 l6 l7 l8 l9 l11 l12 l13 s0 h = some (r, hf)) : Go K MX12_plans (QM K none hf) hf 183 [(0, vr (some l0)), (1, vi l1), (2, vi l2), (3, vi l3), (4, vi l4), (5, vi l5), (6, vi l6), (7, vi l7), (8, vi l8), (9, vi l9), (11, vi l11), (12, vi l12), (13, vi l13)] [vi s0] h := by
  unfold X12_plans_L183 at E
  refine go_istore (n := 185) (lv' := [(10, vi s0), (0, vr (some l0)), (1, vi l1), (2, vi l2), (3, vi l3), (4, vi l4), (5, vi l5), (6, vi l6), (7, vi l7), (8, vi l8), (9, vi l9), (11, vi l11), (12, vi l12), (13, vi l13)]) dX12_plans_183 rfl (Nat.le_of_ble_eq_true rfl) rfl ?_
  refine go_iload (j := 7) (n := 187) rfl dX12_plans_185 rfl ?_
  refine go_iload (j := 13) (n := 189) rfl dX12_plans_187 rfl ?_
  refine go_iconst (z := 3) (n := 190) ⟨by decide, by decide⟩ dX12_plans_189 rfl ?_
  refine go_icmp_ne (tgt := 197) (n := 193) dX12_plans_190 rfl rfl (fun c1 => ?_) (fun c1 => ?_)
  · rw [if_neg c1] at E
    refine go_iload (j := 13) (n := 199) rfl dX12_plans_197 rfl ?_
    refine go_iconst (z := 1) (n := 200) ⟨by decide, by decide⟩ dX12_plans_199 rfl ?_
    refine go_icmp_ne (tgt := 214) (n := 203) dX12_plans_200 rfl rfl (fun c2 => ?_) (fun c2 => ?_)
    · rw [if_neg c2] at E
      refine go_aload_n (j := 1) (n := 215) rfl rfl dX12_plans_214 rfl ?_
      refine go_iload (j := 12) (n := 217) rfl dX12_plans_215 rfl ?_
      refine go_iconst (z := 1) (n := 218) ⟨by decide, by decide⟩ dX12_plans_217 rfl ?_
      replace E := Option.bind_eq_some_iff.mp E; obtain ⟨a5, ea5, E⟩ := E
      obtain ⟨fa5, ga5⟩ := xrc_some ea5
      replace E := xb_some E; obtain ⟨v3, h4, ev3, E⟩ := E
      refine go_callV (y := yX12_its) (n := 221) (st := [vi l6]) (as := [vi l12, vi 1]) (stk9 := [vi v3, vi l6]) (OX12_its ev3) yw_X12_its ci_12 ga5 wml_RX12_250 wim_X12_its wse_X12_its (Nat.le_of_ble_eq_true rfl) rfl ⟨Nat.le_of_ble_eq_true rfl, Nat.le_of_ble_eq_true rfl⟩ (Nat.le_of_ble_eq_true rfl) dX12_plans_218 rfl (by cases fa5; rfl) rfl ?_
      refine go_pick (lv' := [(0, vr (some l0)), (1, vi l1), (2, vi l2), (3, vi l3), (4, vi l4), (5, vi l5), (7, vi l7), (8, vi l8), (9, vi l9), (10, vi s0), (11, vi l11), (12, vi l12), (13, vi l13)]) [1, 2, 3, 4, 5, 6, 8, 9, 10, 0, 11, 12, 13] rfl ?_
      exact SX12_plans_L221   _ _ hrc79 hrc110 _ _ _ _ _ _ _ _ _ _ _ _ _ _ _ _ E
    · rw [if_pos c2] at E
      refine go_aload_n (j := 1) (n := 204) rfl rfl dX12_plans_203 rfl ?_
      refine go_iload (j := 12) (n := 206) rfl dX12_plans_204 rfl ?_
      refine go_bipush (z := 6) (n := 208) ⟨by decide, by decide⟩ dX12_plans_206 rfl ?_
      replace E := Option.bind_eq_some_iff.mp E; obtain ⟨a8, ea8, E⟩ := E
      obtain ⟨fa8, ga8⟩ := xrc_some ea8
      replace E := xb_some E; obtain ⟨v6, h7, ev6, E⟩ := E
      refine go_callV (y := yX12_its) (n := 211) (st := [vi l6]) (as := [vi l12, vi 6]) (stk9 := [vi v6, vi l6]) (OX12_its ev6) yw_X12_its ci_12 ga8 wml_RX12_250 wim_X12_its wse_X12_its (Nat.le_of_ble_eq_true rfl) rfl ⟨Nat.le_of_ble_eq_true rfl, Nat.le_of_ble_eq_true rfl⟩ (Nat.le_of_ble_eq_true rfl) dX12_plans_208 rfl (by cases fa8; rfl) rfl ?_
      refine go_goto (tgt := 221) dX12_plans_211 rfl ?_
      refine go_pick (lv' := [(0, vr (some l0)), (1, vi l1), (2, vi l2), (3, vi l3), (4, vi l4), (5, vi l5), (7, vi l7), (8, vi l8), (9, vi l9), (10, vi s0), (11, vi l11), (12, vi l12), (13, vi l13)]) [1, 2, 3, 4, 5, 6, 8, 9, 10, 0, 11, 12, 13] rfl ?_
      exact SX12_plans_L221   _ _ hrc79 hrc110 _ _ _ _ _ _ _ _ _ _ _ _ _ _ _ _ E
  · rw [if_pos c1] at E
    refine go_iconst (z := 0) (n := 194) ⟨by decide, by decide⟩ dX12_plans_193 rfl ?_
    refine go_goto (tgt := 221) dX12_plans_194 rfl ?_
    refine go_pick (lv' := [(0, vr (some l0)), (1, vi l1), (2, vi l2), (3, vi l3), (4, vi l4), (5, vi l5), (7, vi l7), (8, vi l8), (9, vi l9), (10, vi s0), (11, vi l11), (12, vi l12), (13, vi l13)]) [1, 2, 3, 4, 5, 6, 8, 9, 10, 0, 11, 12, 13] rfl ?_
    exact SX12_plans_L221   _ _ hrc79 hrc110 _ _ _ _ _ _ _ _ _ _ _ _ _ _ _ _ E
noncomputable def X12_plans_L182 (F : Nat)  (rc79 : Nat → Int → Int → Int → Int → Int → HP → Option (Unit × HP)) (rc110 : Nat → Int → Int → Int → Int → Int → Int → Int → Int → Int → Int → Int → HP → Option (Unit × HP)) (l0 : Nat) (l1 : Int) (l2 : Int) (l3 : Int) (l4 : Int) (l5 : Int) (l6 : Int) (l7 : Int) (l8 : Int) (l9 : Int) (l11 : Int) (l12 : Int) (l13 : Int)  (h : HP) : Option (Unit × HP) :=
  X12_plans_L183 F rc79 rc110 l0 l1 l2 l3 l4 l5 l6 l7 l8 l9 l11 l12 l13 0 h
set_option maxRecDepth 100000 in
theorem SX12_plans_L182 {K : Ctx} {F : Nat} {r : Unit} {hf : HP}   (rc79 : Nat → Int → Int → Int → Int → Int → HP → Option (Unit × HP)) (rc110 : Nat → Int → Int → Int → Int → Int → Int → Int → Int → Int → Int → Int → HP → Option (Unit × HP)) (hrc79 : ∀ l0 l1 l2 l3 l4 l5 h, rc79 l0 l1 l2 l3 l4 l5 h = some (r, hf) → Go K MX12_plans (QM K none hf) hf 79 [(0, vr (some l0)), (1, vi l1), (2, vi l2), (3, vi l3), (4, vi l4), (5, vi l5)] [] h) (hrc110 : ∀ l0 l1 l2 l3 l4 l5 l6 l7 l8 l9 l10 l11 h, rc110 l0 l1 l2 l3 l4 l5 l6 l7 l8 l9 l10 l11 h = some (r, hf) → Go K MX12_plans (QM K none hf) hf 110 [(0, vr (some l0)), (1, vi l1), (2, vi l2), (3, vi l3), (4, vi l4), (5, vi l5), (6, vi l6), (7, vi l7), (8, vi l8), (9, vi l9), (10, vi l10), (11, vi l11)] [] h) (l0 : Nat) (l1 : Int) (l2 : Int) (l3 : Int) (l4 : Int) (l5 : Int) (l6 : Int) (l7 : Int) (l8 : Int) (l9 : Int) (l11 : Int) (l12 : Int) (l13 : Int)  (h : HP) (E : X12_plans_L182 F  rc79 rc110 l0 l1 l2 l3 l4 l5 l6 l7 l8 l9 l11 l12 l13 h = some (r, hf)) : Go K MX12_plans (QM K none hf) hf 182 [(0, vr (some l0)), (1, vi l1), (2, vi l2), (3, vi l3), (4, vi l4), (5, vi l5), (6, vi l6), (7, vi l7), (8, vi l8), (9, vi l9), (11, vi l11), (12, vi l12), (13, vi l13)] [] h := by
  unfold X12_plans_L182 at E
  refine go_iconst (z := 0) (n := 183) ⟨by decide, by decide⟩ dX12_plans_182 rfl ?_
  exact SX12_plans_L183   _ _ hrc79 hrc110 _ _ _ _ _ _ _ _ _ _ _ _ _ _ _ E
noncomputable def X12_plans_L178 (F : Nat)  (rc79 : Nat → Int → Int → Int → Int → Int → HP → Option (Unit × HP)) (rc110 : Nat → Int → Int → Int → Int → Int → Int → Int → Int → Int → Int → Int → HP → Option (Unit × HP)) (l0 : Nat) (l1 : Int) (l2 : Int) (l3 : Int) (l4 : Int) (l5 : Int) (l6 : Int) (l7 : Int) (l8 : Int) (l9 : Int) (l11 : Int) (l12 : Int) (l13 : Int)  (h : HP) : Option (Unit × HP) :=
  X12_plans_L183 F rc79 rc110 l0 l1 l2 l3 l4 l5 l6 l7 l8 l9 l11 l12 l13 1 h
set_option maxRecDepth 100000 in
theorem SX12_plans_L178 {K : Ctx} {F : Nat} {r : Unit} {hf : HP}   (rc79 : Nat → Int → Int → Int → Int → Int → HP → Option (Unit × HP)) (rc110 : Nat → Int → Int → Int → Int → Int → Int → Int → Int → Int → Int → Int → HP → Option (Unit × HP)) (hrc79 : ∀ l0 l1 l2 l3 l4 l5 h, rc79 l0 l1 l2 l3 l4 l5 h = some (r, hf) → Go K MX12_plans (QM K none hf) hf 79 [(0, vr (some l0)), (1, vi l1), (2, vi l2), (3, vi l3), (4, vi l4), (5, vi l5)] [] h) (hrc110 : ∀ l0 l1 l2 l3 l4 l5 l6 l7 l8 l9 l10 l11 h, rc110 l0 l1 l2 l3 l4 l5 l6 l7 l8 l9 l10 l11 h = some (r, hf) → Go K MX12_plans (QM K none hf) hf 110 [(0, vr (some l0)), (1, vi l1), (2, vi l2), (3, vi l3), (4, vi l4), (5, vi l5), (6, vi l6), (7, vi l7), (8, vi l8), (9, vi l9), (10, vi l10), (11, vi l11)] [] h) (l0 : Nat) (l1 : Int) (l2 : Int) (l3 : Int) (l4 : Int) (l5 : Int) (l6 : Int) (l7 : Int) (l8 : Int) (l9 : Int) (l11 : Int) (l12 : Int) (l13 : Int)  (h : HP) (E : X12_plans_L178 F  rc79 rc110 l0 l1 l2 l3 l4 l5 l6 l7 l8 l9 l11 l12 l13 h = some (r, hf)) : Go K MX12_plans (QM K none hf) hf 178 [(0, vr (some l0)), (1, vi l1), (2, vi l2), (3, vi l3), (4, vi l4), (5, vi l5), (6, vi l6), (7, vi l7), (8, vi l8), (9, vi l9), (11, vi l11), (12, vi l12), (13, vi l13)] [] h := by
  unfold X12_plans_L178 at E
  refine go_iconst (z := 1) (n := 179) ⟨by decide, by decide⟩ dX12_plans_178 rfl ?_
  refine go_goto (tgt := 183) dX12_plans_179 rfl ?_
  exact SX12_plans_L183   _ _ hrc79 hrc110 _ _ _ _ _ _ _ _ _ _ _ _ _ _ _ E
noncomputable def X12_plans_L162 (F : Nat)  (rc79 : Nat → Int → Int → Int → Int → Int → HP → Option (Unit × HP)) (rc110 : Nat → Int → Int → Int → Int → Int → Int → Int → Int → Int → Int → Int → HP → Option (Unit × HP)) (l0 : Nat) (l1 : Int) (l2 : Int) (l3 : Int) (l4 : Int) (l5 : Int) (l6 : Int) (l7 : Int) (l8 : Int) (l9 : Int) (l11 : Int) (l12 : Int) (l13 : Int)  (h : HP) : Option (Unit × HP) :=
  if l13 = 2 then
    (xrc h (some l0) 12 31).bind fun a4 =>
    xb (X12_its F a4 l12 2 h) fun v2 h3 =>
    if v2 ≤ 0 then
      X12_plans_L182 F rc79 rc110 l0 l1 l2 l3 l4 l5 l6 l7 l8 l9 l11 l12 l13 h3
    else
      X12_plans_L178 F rc79 rc110 l0 l1 l2 l3 l4 l5 l6 l7 l8 l9 l11 l12 l13 h3
  else
    X12_plans_L178 F rc79 rc110 l0 l1 l2 l3 l4 l5 l6 l7 l8 l9 l11 l12 l13 h
set_option maxRecDepth 100000 in
theorem SX12_plans_L162 {K : Ctx} {F : Nat} {r : Unit} {hf : HP}   (rc79 : Nat → Int → Int → Int → Int → Int → HP → Option (Unit × HP)) (rc110 : Nat → Int → Int → Int → Int → Int → Int → Int → Int → Int → Int → Int → HP → Option (Unit × HP)) (hrc79 : ∀ l0 l1 l2 l3 l4 l5 h, rc79 l0 l1 l2 l3 l4 l5 h = some (r, hf) → Go K MX12_plans (QM K none hf) hf 79 [(0, vr (some l0)), (1, vi l1), (2, vi l2), (3, vi l3), (4, vi l4), (5, vi l5)] [] h) (hrc110 : ∀ l0 l1 l2 l3 l4 l5 l6 l7 l8 l9 l10 l11 h, rc110 l0 l1 l2 l3 l4 l5 l6 l7 l8 l9 l10 l11 h = some (r, hf) → Go K MX12_plans (QM K none hf) hf 110 [(0, vr (some l0)), (1, vi l1), (2, vi l2), (3, vi l3), (4, vi l4), (5, vi l5), (6, vi l6), (7, vi l7), (8, vi l8), (9, vi l9), (10, vi l10), (11, vi l11)] [] h) (l0 : Nat) (l1 : Int) (l2 : Int) (l3 : Int) (l4 : Int) (l5 : Int) (l6 : Int) (l7 : Int) (l8 : Int) (l9 : Int) (l11 : Int) (l12 : Int) (l13 : Int)  (h : HP) (E : X12_plans_L162 F  rc79 rc110 l0 l1 l2 l3 l4 l5 l6 l7 l8 l9 l11 l12 l13 h = some (r, hf)) : Go K MX12_plans (QM K none hf) hf 162 [(0, vr (some l0)), (1, vi l1), (2, vi l2), (3, vi l3), (4, vi l4), (5, vi l5), (6, vi l6), (7, vi l7), (8, vi l8), (9, vi l9), (11, vi l11), (12, vi l12), (13, vi l13)] [] h := by
  unfold X12_plans_L162 at E
  refine go_iload (j := 12) (n := 164) rfl dX12_plans_162 rfl ?_
  refine go_iconst (z := 2) (n := 165) ⟨by decide, by decide⟩ dX12_plans_164 rfl ?_
  refine go_icmp_ne (tgt := 178) (n := 168) dX12_plans_165 rfl rfl (fun c1 => ?_) (fun c1 => ?_)
  · rw [if_neg c1] at E
    exact SX12_plans_L178   _ _ hrc79 hrc110 _ _ _ _ _ _ _ _ _ _ _ _ _  _ E
  · rw [if_pos c1] at E
    refine go_aload_n (j := 0) (n := 169) rfl rfl dX12_plans_168 rfl ?_
    refine go_iload (j := 11) (n := 171) rfl dX12_plans_169 rfl ?_
    refine go_iconst (z := 2) (n := 172) ⟨by decide, by decide⟩ dX12_plans_171 rfl ?_
    replace E := Option.bind_eq_some_iff.mp E; obtain ⟨a4, ea4, E⟩ := E
    obtain ⟨fa4, ga4⟩ := xrc_some ea4
    replace E := xb_some E; obtain ⟨v2, h3, ev2, E⟩ := E
    refine go_callV (y := yX12_its) (n := 175) (st := []) (as := [vi l12, vi 2]) (stk9 := [vi v2]) (OX12_its ev2) yw_X12_its ci_12 ga4 wml_RX12_250 wim_X12_its wse_X12_its (Nat.le_of_ble_eq_true rfl) rfl ⟨Nat.le_of_ble_eq_true rfl, Nat.le_of_ble_eq_true rfl⟩ (Nat.le_of_ble_eq_true rfl) dX12_plans_172 rfl (by cases fa4; rfl) rfl ?_
    refine go_if_le (tgt := 182) (n := 178) dX12_plans_175 rfl rfl (fun c5 => ?_) (fun c5 => ?_)
    · rw [if_pos c5] at E
      exact SX12_plans_L182   _ _ hrc79 hrc110 _ _ _ _ _ _ _ _ _ _ _ _ _  _ E
    · rw [if_neg c5] at E
      exact SX12_plans_L178   _ _ hrc79 hrc110 _ _ _ _ _ _ _ _ _ _ _ _ _  _ E
noncomputable def X12_plans_L110 (F : Nat)  (rc79 : Nat → Int → Int → Int → Int → Int → HP → Option (Unit × HP)) (k : Nat) : Nat → Int → Int → Int → Int → Int → Int → Int → Int → Int → Int → Int → HP → Option (Unit × HP) :=
  Nat.rec (motive := fun _ => Nat → Int → Int → Int → Int → Int → Int → Int → Int → Int → Int → Int → HP → Option (Unit × HP)) (fun _ _ _ _ _ _ _ _ _ _ _ _ _ => none) (fun _ rc110 l0 l1 l2 l3 l4 l5 l6 l7 l8 l9 l10 l11 h =>
    (xgI h (some l0) 12 31 26).bind fun v1 =>
    if v1 ≤ l11 then
      if l10 = 0 then
        X12_plans_L461 F rc79 l0 l1 l2 l3 l4 l5 h
      else
        if l1 < l7 then
          X12_plans_L461 F rc79 l0 l1 l2 l3 l4 l5 h
        else
          if l2 < l8 then
            X12_plans_L461 F rc79 l0 l1 l2 l3 l4 l5 h
          else
            (xgI h (some l0) 12 31 27).bind fun v6 =>
            if v6 ≤ l6 then
              (xgI h (some l0) 12 31 27).bind fun v8 =>
              if v8 < l6 then
                X12_plans_L365 F rc79 l0 l1 l2 l3 l4 l5 l6 l7 l8 l9 h
              else
                if l7 < l3 then
                  X12_plans_L365 F rc79 l0 l1 l2 l3 l4 l5 l6 l7 l8 l9 h
                else
                  if l7 = l3 then
                    if l4 ≤ l8 then
                      X12_plans_L369 F rc79 l0 l1 l2 l3 l4 l5 l6 l7 l8 l9 h
                    else
                      X12_plans_L365 F rc79 l0 l1 l2 l3 l4 l5 l6 l7 l8 l9 h
                  else
                    X12_plans_L369 F rc79 l0 l1 l2 l3 l4 l5 l6 l7 l8 l9 h
            else
              X12_plans_L461 F rc79 l0 l1 l2 l3 l4 l5 h
    else
      (xgP h (some l0) 12 31 25).bind fun v13 =>
      (xaI h v13 100 l11).bind fun v14 =>
      (xgI h (some l0) 12 31 26).bind fun v15 =>
      xb (X12_optionOf F l5 v15 l11 h) fun v16 h17 =>
      if l10 = 0 then
        X12_plans_L182 F rc79 rc110 l0 l1 l2 l3 l4 l5 l6 l7 l8 l9 l11 v14 v16 h17
      else
        if v16 = 1 then
          (xrc h17 (some l0) 12 31).bind fun a22 =>
          xb (X12_its F a22 v14 5 h17) fun v20 h21 =>
          if v20 ≤ 0 then
            X12_plans_L182 F rc79 rc110 l0 l1 l2 l3 l4 l5 l6 l7 l8 l9 l11 v14 v16 h21
          else
            X12_plans_L162 F rc79 rc110 l0 l1 l2 l3 l4 l5 l6 l7 l8 l9 l11 v14 v16 h21
        else
          X12_plans_L162 F rc79 rc110 l0 l1 l2 l3 l4 l5 l6 l7 l8 l9 l11 v14 v16 h17) k
theorem X12_plans_L110_s (F : Nat)  (rc79 : Nat → Int → Int → Int → Int → Int → HP → Option (Unit × HP)) (k : Nat) (l0 : Nat) (l1 : Int) (l2 : Int) (l3 : Int) (l4 : Int) (l5 : Int) (l6 : Int) (l7 : Int) (l8 : Int) (l9 : Int) (l10 : Int) (l11 : Int)  (h : HP) : X12_plans_L110 F  rc79 (k + 1) l0 l1 l2 l3 l4 l5 l6 l7 l8 l9 l10 l11 h =
    (xgI h (some l0) 12 31 26).bind fun v1 =>
    if v1 ≤ l11 then
      if l10 = 0 then
        X12_plans_L461 F rc79 l0 l1 l2 l3 l4 l5 h
      else
        if l1 < l7 then
          X12_plans_L461 F rc79 l0 l1 l2 l3 l4 l5 h
        else
          if l2 < l8 then
            X12_plans_L461 F rc79 l0 l1 l2 l3 l4 l5 h
          else
            (xgI h (some l0) 12 31 27).bind fun v6 =>
            if v6 ≤ l6 then
              (xgI h (some l0) 12 31 27).bind fun v8 =>
              if v8 < l6 then
                X12_plans_L365 F rc79 l0 l1 l2 l3 l4 l5 l6 l7 l8 l9 h
              else
                if l7 < l3 then
                  X12_plans_L365 F rc79 l0 l1 l2 l3 l4 l5 l6 l7 l8 l9 h
                else
                  if l7 = l3 then
                    if l4 ≤ l8 then
                      X12_plans_L369 F rc79 l0 l1 l2 l3 l4 l5 l6 l7 l8 l9 h
                    else
                      X12_plans_L365 F rc79 l0 l1 l2 l3 l4 l5 l6 l7 l8 l9 h
                  else
                    X12_plans_L369 F rc79 l0 l1 l2 l3 l4 l5 l6 l7 l8 l9 h
            else
              X12_plans_L461 F rc79 l0 l1 l2 l3 l4 l5 h
    else
      (xgP h (some l0) 12 31 25).bind fun v13 =>
      (xaI h v13 100 l11).bind fun v14 =>
      (xgI h (some l0) 12 31 26).bind fun v15 =>
      xb (X12_optionOf F l5 v15 l11 h) fun v16 h17 =>
      if l10 = 0 then
        X12_plans_L182 F rc79 (X12_plans_L110 F rc79 k) l0 l1 l2 l3 l4 l5 l6 l7 l8 l9 l11 v14 v16 h17
      else
        if v16 = 1 then
          (xrc h17 (some l0) 12 31).bind fun a22 =>
          xb (X12_its F a22 v14 5 h17) fun v20 h21 =>
          if v20 ≤ 0 then
            X12_plans_L182 F rc79 (X12_plans_L110 F rc79 k) l0 l1 l2 l3 l4 l5 l6 l7 l8 l9 l11 v14 v16 h21
          else
            X12_plans_L162 F rc79 (X12_plans_L110 F rc79 k) l0 l1 l2 l3 l4 l5 l6 l7 l8 l9 l11 v14 v16 h21
        else
          X12_plans_L162 F rc79 (X12_plans_L110 F rc79 k) l0 l1 l2 l3 l4 l5 l6 l7 l8 l9 l11 v14 v16 h17 := rfl
set_option maxRecDepth 100000 in
theorem SX12_plans_L110 {K : Ctx} {F : Nat} {r : Unit} {hf : HP}   (rc79 : Nat → Int → Int → Int → Int → Int → HP → Option (Unit × HP)) (hrc79 : ∀ l0 l1 l2 l3 l4 l5 h, rc79 l0 l1 l2 l3 l4 l5 h = some (r, hf) → Go K MX12_plans (QM K none hf) hf 79 [(0, vr (some l0)), (1, vi l1), (2, vi l2), (3, vi l3), (4, vi l4), (5, vi l5)] [] h) : ∀ (k : Nat) (l0 : Nat) (l1 : Int) (l2 : Int) (l3 : Int) (l4 : Int) (l5 : Int) (l6 : Int) (l7 : Int) (l8 : Int) (l9 : Int) (l10 : Int) (l11 : Int)  (h : HP), X12_plans_L110 F  rc79 k l0 l1 l2 l3 l4 l5 l6 l7 l8 l9 l10 l11 h = some (r, hf) → Go K MX12_plans (QM K none hf) hf 110 [(0, vr (some l0)), (1, vi l1), (2, vi l2), (3, vi l3), (4, vi l4), (5, vi l5), (6, vi l6), (7, vi l7), (8, vi l8), (9, vi l9), (10, vi l10), (11, vi l11)] [] h := by
  intro k
  induction k with
  | zero => intro l0 l1 l2 l3 l4 l5 l6 l7 l8 l9 l10 l11 h E; exact nomatch E
  | succ k hrc110 =>
    intro l0 l1 l2 l3 l4 l5 l6 l7 l8 l9 l10 l11 h E
    rw [X12_plans_L110_s] at E
    refine go_iload (j := 11) (n := 112) rfl dX12_plans_110 rfl ?_
    refine go_aload_n (j := 0) (n := 113) rfl rfl dX12_plans_112 rfl ?_
    replace E := Option.bind_eq_some_iff.mp E; obtain ⟨v1, ev1, E⟩ := E
    refine go_getI (n := 116) ev1 fl_RX12_382 rfl dX12_plans_113 rfl ?_
    refine go_icmp_ge (tgt := 308) (n := 119) dX12_plans_116 rfl rfl (fun c2 => ?_) (fun c2 => ?_)
    · rw [if_pos c2] at E
      refine go_iload (j := 10) (n := 310) rfl dX12_plans_308 rfl ?_
      refine go_if_eq (tgt := 461) (n := 313) dX12_plans_310 rfl rfl (fun c3 => ?_) (fun c3 => ?_)
      · rw [if_pos c3] at E
        refine go_pick (lv' := [(0, vr (some l0)), (1, vi l1), (2, vi l2), (3, vi l3), (4, vi l4), (5, vi l5)]) [0, 1, 2, 3, 4, 5] rfl ?_
        exact SX12_plans_L461   _ hrc79 _ _ _ _ _ _  _ E
      · rw [if_neg c3] at E
        refine go_iload (j := 7) (n := 315) rfl dX12_plans_313 rfl ?_
        refine go_iload_n (j := 1) (n := 316) rfl rfl dX12_plans_315 rfl ?_
        refine go_icmp_gt (tgt := 461) (n := 319) dX12_plans_316 rfl rfl (fun c4 => ?_) (fun c4 => ?_)
        · rw [if_pos c4] at E
          refine go_pick (lv' := [(0, vr (some l0)), (1, vi l1), (2, vi l2), (3, vi l3), (4, vi l4), (5, vi l5)]) [0, 1, 2, 3, 4, 5] rfl ?_
          exact SX12_plans_L461   _ hrc79 _ _ _ _ _ _  _ E
        · rw [if_neg c4] at E
          refine go_iload (j := 8) (n := 321) rfl dX12_plans_319 rfl ?_
          refine go_iload_n (j := 2) (n := 322) rfl rfl dX12_plans_321 rfl ?_
          refine go_icmp_gt (tgt := 461) (n := 325) dX12_plans_322 rfl rfl (fun c5 => ?_) (fun c5 => ?_)
          · rw [if_pos c5] at E
            refine go_pick (lv' := [(0, vr (some l0)), (1, vi l1), (2, vi l2), (3, vi l3), (4, vi l4), (5, vi l5)]) [0, 1, 2, 3, 4, 5] rfl ?_
            exact SX12_plans_L461   _ hrc79 _ _ _ _ _ _  _ E
          · rw [if_neg c5] at E
            refine go_iload (j := 6) (n := 327) rfl dX12_plans_325 rfl ?_
            refine go_aload_n (j := 0) (n := 328) rfl rfl dX12_plans_327 rfl ?_
            replace E := Option.bind_eq_some_iff.mp E; obtain ⟨v6, ev6, E⟩ := E
            refine go_getI (n := 331) ev6 fl_RX12_385 rfl dX12_plans_328 rfl ?_
            refine go_icmp_ge (tgt := 337) (n := 334) dX12_plans_331 rfl rfl (fun c7 => ?_) (fun c7 => ?_)
            · rw [if_pos c7] at E
              refine go_iload (j := 6) (n := 339) rfl dX12_plans_337 rfl ?_
              refine go_aload_n (j := 0) (n := 340) rfl rfl dX12_plans_339 rfl ?_
              replace E := Option.bind_eq_some_iff.mp E; obtain ⟨v8, ev8, E⟩ := E
              refine go_getI (n := 343) ev8 fl_RX12_385 rfl dX12_plans_340 rfl ?_
              refine go_icmp_gt (tgt := 365) (n := 346) dX12_plans_343 rfl rfl (fun c9 => ?_) (fun c9 => ?_)
              · rw [if_pos c9] at E
                refine go_pick (lv' := [(0, vr (some l0)), (1, vi l1), (2, vi l2), (3, vi l3), (4, vi l4), (5, vi l5), (6, vi l6), (7, vi l7), (8, vi l8), (9, vi l9)]) [0, 1, 2, 3, 4, 5, 6, 7, 8, 9] rfl ?_
                exact SX12_plans_L365   _ hrc79 _ _ _ _ _ _ _ _ _ _  _ E
              · rw [if_neg c9] at E
                refine go_iload (j := 7) (n := 348) rfl dX12_plans_346 rfl ?_
                refine go_iload_n (j := 3) (n := 349) rfl rfl dX12_plans_348 rfl ?_
                refine go_icmp_lt (tgt := 365) (n := 352) dX12_plans_349 rfl rfl (fun c10 => ?_) (fun c10 => ?_)
                · rw [if_pos c10] at E
                  refine go_pick (lv' := [(0, vr (some l0)), (1, vi l1), (2, vi l2), (3, vi l3), (4, vi l4), (5, vi l5), (6, vi l6), (7, vi l7), (8, vi l8), (9, vi l9)]) [0, 1, 2, 3, 4, 5, 6, 7, 8, 9] rfl ?_
                  exact SX12_plans_L365   _ hrc79 _ _ _ _ _ _ _ _ _ _  _ E
                · rw [if_neg c10] at E
                  refine go_iload (j := 7) (n := 354) rfl dX12_plans_352 rfl ?_
                  refine go_iload_n (j := 3) (n := 355) rfl rfl dX12_plans_354 rfl ?_
                  refine go_icmp_ne (tgt := 369) (n := 358) dX12_plans_355 rfl rfl (fun c11 => ?_) (fun c11 => ?_)
                  · rw [if_neg c11] at E
                    refine go_pick (lv' := [(0, vr (some l0)), (1, vi l1), (2, vi l2), (3, vi l3), (4, vi l4), (5, vi l5), (6, vi l6), (7, vi l7), (8, vi l8), (9, vi l9)]) [0, 1, 2, 3, 4, 5, 6, 7, 8, 9] rfl ?_
                    exact SX12_plans_L369   _ hrc79 _ _ _ _ _ _ _ _ _ _  _ E
                  · rw [if_pos c11] at E
                    refine go_iload (j := 8) (n := 360) rfl dX12_plans_358 rfl ?_
                    refine go_iload (j := 4) (n := 362) rfl dX12_plans_360 rfl ?_
                    refine go_icmp_ge (tgt := 369) (n := 365) dX12_plans_362 rfl rfl (fun c12 => ?_) (fun c12 => ?_)
                    · rw [if_pos c12] at E
                      refine go_pick (lv' := [(0, vr (some l0)), (1, vi l1), (2, vi l2), (3, vi l3), (4, vi l4), (5, vi l5), (6, vi l6), (7, vi l7), (8, vi l8), (9, vi l9)]) [0, 1, 2, 3, 4, 5, 6, 7, 8, 9] rfl ?_
                      exact SX12_plans_L369   _ hrc79 _ _ _ _ _ _ _ _ _ _  _ E
                    · rw [if_neg c12] at E
                      refine go_pick (lv' := [(0, vr (some l0)), (1, vi l1), (2, vi l2), (3, vi l3), (4, vi l4), (5, vi l5), (6, vi l6), (7, vi l7), (8, vi l8), (9, vi l9)]) [0, 1, 2, 3, 4, 5, 6, 7, 8, 9] rfl ?_
                      exact SX12_plans_L365   _ hrc79 _ _ _ _ _ _ _ _ _ _  _ E
            · rw [if_neg c7] at E
              refine go_goto (tgt := 461) dX12_plans_334 rfl ?_
              refine go_pick (lv' := [(0, vr (some l0)), (1, vi l1), (2, vi l2), (3, vi l3), (4, vi l4), (5, vi l5)]) [0, 1, 2, 3, 4, 5] rfl ?_
              exact SX12_plans_L461   _ hrc79 _ _ _ _ _ _  _ E
    · rw [if_neg c2] at E
      refine go_aload_n (j := 0) (n := 120) rfl rfl dX12_plans_119 rfl ?_
      replace E := Option.bind_eq_some_iff.mp E; obtain ⟨v13, ev13, E⟩ := E
      refine go_getP (n := 123) ev13 fl_RX12_48 rfl dX12_plans_120 rfl ?_
      refine go_iload (j := 11) (n := 125) rfl dX12_plans_123 rfl ?_
      replace E := Option.bind_eq_some_iff.mp E; obtain ⟨v14, ev14, E⟩ := E
      refine go_iaload (n := 126) ev14 dX12_plans_125 rfl ?_
      refine go_istore (n := 128) (lv' := [(12, vi v14), (0, vr (some l0)), (1, vi l1), (2, vi l2), (3, vi l3), (4, vi l4), (5, vi l5), (6, vi l6), (7, vi l7), (8, vi l8), (9, vi l9), (10, vi l10), (11, vi l11)]) dX12_plans_126 rfl (Nat.le_of_ble_eq_true rfl) rfl ?_
      refine go_iload (j := 6) (n := 130) rfl dX12_plans_128 rfl ?_
      refine go_aload_n (j := 1) (n := 131) rfl rfl dX12_plans_130 rfl ?_
      replace E := Option.bind_eq_some_iff.mp E; obtain ⟨v15, ev15, E⟩ := E
      refine go_getI (n := 134) ev15 fl_RX12_382 rfl dX12_plans_131 rfl ?_
      refine go_iload (j := 12) (n := 136) rfl dX12_plans_134 rfl ?_
      replace E := xb_some E; obtain ⟨v16, h17, ev16, E⟩ := E
      refine go_callS (y := yX12_optionOf) (n := 139) (st := []) (as := [vi l5, vi v15, vi l11]) (stk9 := [vi v16]) (OX12_optionOf ev16) yw_X12_optionOf wml_RX12_388 wst_X12_optionOf (Nat.le_of_ble_eq_true rfl) rfl ⟨Nat.le_of_ble_eq_true rfl, Nat.le_of_ble_eq_true rfl⟩ (Nat.le_of_ble_eq_true rfl) dX12_plans_136 rfl rfl rfl ?_
      refine go_istore (n := 141) (lv' := [(13, vi v16), (12, vi v14), (0, vr (some l0)), (1, vi l1), (2, vi l2), (3, vi l3), (4, vi l4), (5, vi l5), (6, vi l6), (7, vi l7), (8, vi l8), (9, vi l9), (10, vi l10), (11, vi l11)]) dX12_plans_139 rfl (Nat.le_of_ble_eq_true rfl) rfl ?_
      refine go_iload (j := 12) (n := 143) rfl dX12_plans_141 rfl ?_
      refine go_if_eq (tgt := 182) (n := 146) dX12_plans_143 rfl rfl (fun c18 => ?_) (fun c18 => ?_)
      · rw [if_pos c18] at E
        refine go_pick (lv' := [(0, vr (some l0)), (1, vi l1), (2, vi l2), (3, vi l3), (4, vi l4), (5, vi l5), (6, vi l6), (7, vi l7), (8, vi l8), (9, vi l9), (11, vi l11), (12, vi v14), (13, vi v16)]) [2, 3, 4, 5, 6, 7, 8, 9, 10, 11, 13, 1, 0] rfl ?_
        exact SX12_plans_L182   _ _ hrc79 hrc110 _ _ _ _ _ _ _ _ _ _ _ _ _  _ E
      · rw [if_neg c18] at E
        refine go_iload (j := 0) (n := 148) rfl dX12_plans_146 rfl ?_
        refine go_iconst (z := 1) (n := 149) ⟨by decide, by decide⟩ dX12_plans_148 rfl ?_
        refine go_icmp_ne (tgt := 162) (n := 152) dX12_plans_149 rfl rfl (fun c19 => ?_) (fun c19 => ?_)
        · rw [if_neg c19] at E
          refine go_pick (lv' := [(0, vr (some l0)), (1, vi l1), (2, vi l2), (3, vi l3), (4, vi l4), (5, vi l5), (6, vi l6), (7, vi l7), (8, vi l8), (9, vi l9), (11, vi l11), (12, vi v14), (13, vi v16)]) [2, 3, 4, 5, 6, 7, 8, 9, 10, 11, 13, 1, 0] rfl ?_
          exact SX12_plans_L162   _ _ hrc79 hrc110 _ _ _ _ _ _ _ _ _ _ _ _ _  _ E
        · rw [if_pos c19] at E
          refine go_aload_n (j := 2) (n := 153) rfl rfl dX12_plans_152 rfl ?_
          refine go_iload (j := 1) (n := 155) rfl dX12_plans_153 rfl ?_
          refine go_iconst (z := 5) (n := 156) ⟨by decide, by decide⟩ dX12_plans_155 rfl ?_
          replace E := Option.bind_eq_some_iff.mp E; obtain ⟨a22, ea22, E⟩ := E
          obtain ⟨fa22, ga22⟩ := xrc_some ea22
          replace E := xb_some E; obtain ⟨v20, h21, ev20, E⟩ := E
          refine go_callV (y := yX12_its) (n := 159) (st := []) (as := [vi v14, vi 5]) (stk9 := [vi v20]) (OX12_its ev20) yw_X12_its ci_12 ga22 wml_RX12_250 wim_X12_its wse_X12_its (Nat.le_of_ble_eq_true rfl) rfl ⟨Nat.le_of_ble_eq_true rfl, Nat.le_of_ble_eq_true rfl⟩ (Nat.le_of_ble_eq_true rfl) dX12_plans_156 rfl (by cases fa22; rfl) rfl ?_
          refine go_if_le (tgt := 182) (n := 162) dX12_plans_159 rfl rfl (fun c23 => ?_) (fun c23 => ?_)
          · rw [if_pos c23] at E
            refine go_pick (lv' := [(0, vr (some l0)), (1, vi l1), (2, vi l2), (3, vi l3), (4, vi l4), (5, vi l5), (6, vi l6), (7, vi l7), (8, vi l8), (9, vi l9), (11, vi l11), (12, vi v14), (13, vi v16)]) [2, 3, 4, 5, 6, 7, 8, 9, 10, 11, 13, 1, 0] rfl ?_
            exact SX12_plans_L182   _ _ hrc79 hrc110 _ _ _ _ _ _ _ _ _ _ _ _ _  _ E
          · rw [if_neg c23] at E
            refine go_pick (lv' := [(0, vr (some l0)), (1, vi l1), (2, vi l2), (3, vi l3), (4, vi l4), (5, vi l5), (6, vi l6), (7, vi l7), (8, vi l8), (9, vi l9), (11, vi l11), (12, vi v14), (13, vi v16)]) [2, 3, 4, 5, 6, 7, 8, 9, 10, 11, 13, 1, 0] rfl ?_
            exact SX12_plans_L162   _ _ hrc79 hrc110 _ _ _ _ _ _ _ _ _ _ _ _ _  _ E
noncomputable def X12_plans_L79 (F : Nat)   (k : Nat) : Nat → Int → Int → Int → Int → Int → HP → Option (Unit × HP) :=
  Nat.rec (motive := fun _ => Nat → Int → Int → Int → Int → Int → HP → Option (Unit × HP)) (fun _ _ _ _ _ _ _ => none) (fun _ rc79 l0 l1 l2 l3 l4 l5 h =>
    (xgI h (some l0) 12 31 26).bind fun v1 =>
    if (xshl 1 (w32 (2 * v1))) ≤ l5 then
      some ((), h)
    else
      X12_plans_L110 F rc79 F l0 l1 l2 l3 l4 l5 0 0 0 0 1 0 h) k
theorem X12_plans_L79_s (F : Nat)   (k : Nat) (l0 : Nat) (l1 : Int) (l2 : Int) (l3 : Int) (l4 : Int) (l5 : Int)  (h : HP) : X12_plans_L79 F   (k + 1) l0 l1 l2 l3 l4 l5 h =
    (xgI h (some l0) 12 31 26).bind fun v1 =>
    if (xshl 1 (w32 (2 * v1))) ≤ l5 then
      some ((), h)
    else
      X12_plans_L110 F (X12_plans_L79 F k) F l0 l1 l2 l3 l4 l5 0 0 0 0 1 0 h := rfl
set_option maxRecDepth 100000 in
theorem SX12_plans_L79 {K : Ctx} {F : Nat} {r : Unit} {hf : HP}     : ∀ (k : Nat) (l0 : Nat) (l1 : Int) (l2 : Int) (l3 : Int) (l4 : Int) (l5 : Int)  (h : HP), X12_plans_L79 F   k l0 l1 l2 l3 l4 l5 h = some (r, hf) → Go K MX12_plans (QM K none hf) hf 79 [(0, vr (some l0)), (1, vi l1), (2, vi l2), (3, vi l3), (4, vi l4), (5, vi l5)] [] h := by
  intro k
  induction k with
  | zero => intro l0 l1 l2 l3 l4 l5 h E; exact nomatch E
  | succ k hrc79 =>
    intro l0 l1 l2 l3 l4 l5 h E
    rw [X12_plans_L79_s] at E
    refine go_iload (j := 5) (n := 81) rfl dX12_plans_79 rfl ?_
    refine go_iconst (z := 1) (n := 82) ⟨by decide, by decide⟩ dX12_plans_81 rfl ?_
    refine go_iconst (z := 2) (n := 83) ⟨by decide, by decide⟩ dX12_plans_82 rfl ?_
    refine go_aload_n (j := 0) (n := 84) rfl rfl dX12_plans_83 rfl ?_
    replace E := Option.bind_eq_some_iff.mp E; obtain ⟨v1, ev1, E⟩ := E
    refine go_getI (n := 87) ev1 fl_RX12_382 rfl dX12_plans_84 rfl ?_
    refine go_imul (n := 88) dX12_plans_87 rfl ?_
    refine go_ishl (n := 89) dX12_plans_88 rfl ?_
    refine go_icmp_ge (tgt := 467) (n := 92) dX12_plans_89 rfl rfl (fun c2 => ?_) (fun c2 => ?_)
    · rw [if_pos c2] at E
      cases E
      exact go_return rfl dX12_plans_467
    · rw [if_neg c2] at E
      refine go_iconst (z := 0) (n := 93) ⟨by decide, by decide⟩ dX12_plans_92 rfl ?_
      refine go_istore (n := 95) (lv' := [(6, vi 0), (0, vr (some l0)), (1, vi l1), (2, vi l2), (3, vi l3), (4, vi l4), (5, vi l5)]) dX12_plans_93 rfl (Nat.le_of_ble_eq_true rfl) rfl ?_
      refine go_iconst (z := 0) (n := 96) ⟨by decide, by decide⟩ dX12_plans_95 rfl ?_
      refine go_istore (n := 98) (lv' := [(7, vi 0), (6, vi 0), (0, vr (some l0)), (1, vi l1), (2, vi l2), (3, vi l3), (4, vi l4), (5, vi l5)]) dX12_plans_96 rfl (Nat.le_of_ble_eq_true rfl) rfl ?_
      refine go_iconst (z := 0) (n := 99) ⟨by decide, by decide⟩ dX12_plans_98 rfl ?_
      refine go_istore (n := 101) (lv' := [(8, vi 0), (7, vi 0), (6, vi 0), (0, vr (some l0)), (1, vi l1), (2, vi l2), (3, vi l3), (4, vi l4), (5, vi l5)]) dX12_plans_99 rfl (Nat.le_of_ble_eq_true rfl) rfl ?_
      refine go_iconst (z := 0) (n := 102) ⟨by decide, by decide⟩ dX12_plans_101 rfl ?_
      refine go_istore (n := 104) (lv' := [(9, vi 0), (8, vi 0), (7, vi 0), (6, vi 0), (0, vr (some l0)), (1, vi l1), (2, vi l2), (3, vi l3), (4, vi l4), (5, vi l5)]) dX12_plans_102 rfl (Nat.le_of_ble_eq_true rfl) rfl ?_
      refine go_iconst (z := 1) (n := 105) ⟨by decide, by decide⟩ dX12_plans_104 rfl ?_
      refine go_istore (n := 107) (lv' := [(10, vi 1), (9, vi 0), (8, vi 0), (7, vi 0), (6, vi 0), (0, vr (some l0)), (1, vi l1), (2, vi l2), (3, vi l3), (4, vi l4), (5, vi l5)]) dX12_plans_105 rfl (Nat.le_of_ble_eq_true rfl) rfl ?_
      refine go_iconst (z := 0) (n := 108) ⟨by decide, by decide⟩ dX12_plans_107 rfl ?_
      refine go_istore (n := 110) (lv' := [(11, vi 0), (10, vi 1), (9, vi 0), (8, vi 0), (7, vi 0), (6, vi 0), (0, vr (some l0)), (1, vi l1), (2, vi l2), (3, vi l3), (4, vi l4), (5, vi l5)]) dX12_plans_108 rfl (Nat.le_of_ble_eq_true rfl) rfl ?_
      refine go_pick (lv' := [(0, vr (some l0)), (1, vi l1), (2, vi l2), (3, vi l3), (4, vi l4), (5, vi l5), (6, vi 0), (7, vi 0), (8, vi 0), (9, vi 0), (10, vi 1), (11, vi 0)]) [6, 7, 8, 9, 10, 11, 5, 4, 3, 2, 1, 0] rfl ?_
      exact SX12_plans_L110   _ hrc79 F _ _ _ _ _ _ _ _ _ _ _ _ _ E
noncomputable def X12_plans_L66 (F : Nat)   (l0 : Nat) (l1 : Int) (l2 : Int)  (h : HP) : Option (Unit × HP) :=
  (xpI h (some l0) 12 31 27 (-1)).bind fun h1 =>
  X12_plans_L79 F F l0 l1 l2 0 0 0 h1
set_option maxRecDepth 100000 in
theorem SX12_plans_L66 {K : Ctx} {F : Nat} {r : Unit} {hf : HP}     (l0 : Nat) (l1 : Int) (l2 : Int)  (h : HP) (E : X12_plans_L66 F   l0 l1 l2 h = some (r, hf)) : Go K MX12_plans (QM K none hf) hf 66 [(0, vr (some l0)), (1, vi l1), (2, vi l2)] [] h := by
  unfold X12_plans_L66 at E
  refine go_aload_n (j := 0) (n := 67) rfl rfl dX12_plans_66 rfl ?_
  refine go_iconst (z := (-1)) (n := 68) ⟨by decide, by decide⟩ dX12_plans_67 rfl ?_
  replace E := Option.bind_eq_some_iff.mp E; obtain ⟨h1, eh1, E⟩ := E
  refine go_putI (n := 71) eh1 fl_RX12_385 rfl dX12_plans_68 rfl ?_
  refine go_iconst (z := 0) (n := 72) ⟨by decide, by decide⟩ dX12_plans_71 rfl ?_
  refine go_istore_n (n := 73) (lv' := [(3, vi 0), (0, vr (some l0)), (1, vi l1), (2, vi l2)]) rfl dX12_plans_72 rfl (Nat.le_of_ble_eq_true rfl) rfl ?_
  refine go_iconst (z := 0) (n := 74) ⟨by decide, by decide⟩ dX12_plans_73 rfl ?_
  refine go_istore (n := 76) (lv' := [(4, vi 0), (3, vi 0), (0, vr (some l0)), (1, vi l1), (2, vi l2)]) dX12_plans_74 rfl (Nat.le_of_ble_eq_true rfl) rfl ?_
  refine go_iconst (z := 0) (n := 77) ⟨by decide, by decide⟩ dX12_plans_76 rfl ?_
  refine go_istore (n := 79) (lv' := [(5, vi 0), (4, vi 0), (3, vi 0), (0, vr (some l0)), (1, vi l1), (2, vi l2)]) dX12_plans_77 rfl (Nat.le_of_ble_eq_true rfl) rfl ?_
  refine go_pick (lv' := [(0, vr (some l0)), (1, vi l1), (2, vi l2), (3, vi 0), (4, vi 0), (5, vi 0)]) [3, 4, 5, 2, 1, 0] rfl ?_
  exact SX12_plans_L79     F _ _ _ _ _ _ _ E
noncomputable def X12_plans_L60 (F : Nat)  (rc7 : Nat → Int → Int → Int → HP → Option (Unit × HP)) (l0 : Nat) (l1 : Int) (l2 : Int) (l3 : Int)  (h : HP) : Option (Unit × HP) :=
  rc7 l0 l1 l2 (w32 (l3 + 1)) h
set_option maxRecDepth 100000 in
theorem SX12_plans_L60 {K : Ctx} {F : Nat} {r : Unit} {hf : HP}   (rc7 : Nat → Int → Int → Int → HP → Option (Unit × HP)) (hrc7 : ∀ l0 l1 l2 l3 h, rc7 l0 l1 l2 l3 h = some (r, hf) → Go K MX12_plans (QM K none hf) hf 7 [(0, vr (some l0)), (1, vi l1), (2, vi l2), (3, vi l3)] [] h) (l0 : Nat) (l1 : Int) (l2 : Int) (l3 : Int)  (h : HP) (E : X12_plans_L60 F  rc7 l0 l1 l2 l3 h = some (r, hf)) : Go K MX12_plans (QM K none hf) hf 60 [(0, vr (some l0)), (1, vi l1), (2, vi l2), (3, vi l3)] [] h := by
  unfold X12_plans_L60 at E
  refine go_iinc (j := 3) (n := 63) (lv' := [(3, vi (w32 (l3 + 1))), (0, vr (some l0)), (1, vi l1), (2, vi l2)]) rfl dX12_plans_60 rfl (Nat.le_of_ble_eq_true rfl) rfl ?_
  refine go_goto (tgt := 7) dX12_plans_63 rfl ?_
  refine go_pick (lv' := [(0, vr (some l0)), (1, vi l1), (2, vi l2), (3, vi (w32 (l3 + 1)))]) [1, 2, 3, 0] rfl ?_
  exact hrc7 _ _ _ _ _ E
noncomputable def X12_plans_L7 (F : Nat)   (k : Nat) : Nat → Int → Int → Int → HP → Option (Unit × HP) :=
  Nat.rec (motive := fun _ => Nat → Int → Int → Int → HP → Option (Unit × HP)) (fun _ _ _ _ _ => none) (fun _ rc7 l0 l1 l2 l3 h =>
    (xgP h (some l0) 12 31 1).bind fun v1 =>
    (xaI h v1 100 8).bind fun v2 =>
    if v2 ≤ l3 then
      X12_plans_L66 F l0 l1 l2 h
    else
      (xgI h (some l0) 12 31 26).bind fun v4 =>
      if 7 ≤ v4 then
        X12_plans_L66 F l0 l1 l2 h
      else
        (xrc h (some l0) 12 31).bind fun a8 =>
        xb (X12_its F a8 l3 8 h) fun v6 h7 =>
        if v6 = 0 then
          (xgP h7 (some l0) 12 31 25).bind fun v10 =>
          (xgI h7 (some l0) 12 31 26).bind fun v11 =>
          (xsI h7 v10 v11 l3).bind fun h12 =>
          (xgI h12 (some l0) 12 31 26).bind fun v13 =>
          (xpI h12 (some l0) 12 31 26 (w32 (v13 + 1))).bind fun h14 =>
          X12_plans_L60 F rc7 l0 l1 l2 l3 h14
        else
          X12_plans_L60 F rc7 l0 l1 l2 l3 h7) k
theorem X12_plans_L7_s (F : Nat)   (k : Nat) (l0 : Nat) (l1 : Int) (l2 : Int) (l3 : Int)  (h : HP) : X12_plans_L7 F   (k + 1) l0 l1 l2 l3 h =
    (xgP h (some l0) 12 31 1).bind fun v1 =>
    (xaI h v1 100 8).bind fun v2 =>
    if v2 ≤ l3 then
      X12_plans_L66 F l0 l1 l2 h
    else
      (xgI h (some l0) 12 31 26).bind fun v4 =>
      if 7 ≤ v4 then
        X12_plans_L66 F l0 l1 l2 h
      else
        (xrc h (some l0) 12 31).bind fun a8 =>
        xb (X12_its F a8 l3 8 h) fun v6 h7 =>
        if v6 = 0 then
          (xgP h7 (some l0) 12 31 25).bind fun v10 =>
          (xgI h7 (some l0) 12 31 26).bind fun v11 =>
          (xsI h7 v10 v11 l3).bind fun h12 =>
          (xgI h12 (some l0) 12 31 26).bind fun v13 =>
          (xpI h12 (some l0) 12 31 26 (w32 (v13 + 1))).bind fun h14 =>
          X12_plans_L60 F (X12_plans_L7 F k) l0 l1 l2 l3 h14
        else
          X12_plans_L60 F (X12_plans_L7 F k) l0 l1 l2 l3 h7 := rfl
set_option maxRecDepth 100000 in
theorem SX12_plans_L7 {K : Ctx} {F : Nat} {r : Unit} {hf : HP}     : ∀ (k : Nat) (l0 : Nat) (l1 : Int) (l2 : Int) (l3 : Int)  (h : HP), X12_plans_L7 F   k l0 l1 l2 l3 h = some (r, hf) → Go K MX12_plans (QM K none hf) hf 7 [(0, vr (some l0)), (1, vi l1), (2, vi l2), (3, vi l3)] [] h := by
  intro k
  induction k with
  | zero => intro l0 l1 l2 l3 h E; exact nomatch E
  | succ k hrc7 =>
    intro l0 l1 l2 l3 h E
    rw [X12_plans_L7_s] at E
    refine go_iload_n (j := 3) (n := 8) rfl rfl dX12_plans_7 rfl ?_
    refine go_aload_n (j := 0) (n := 9) rfl rfl dX12_plans_8 rfl ?_
    replace E := Option.bind_eq_some_iff.mp E; obtain ⟨v1, ev1, E⟩ := E
    refine go_getP (n := 12) ev1 fl_RX12_14 rfl dX12_plans_9 rfl ?_
    refine go_bipush (z := 8) (n := 14) ⟨by decide, by decide⟩ dX12_plans_12 rfl ?_
    replace E := Option.bind_eq_some_iff.mp E; obtain ⟨v2, ev2, E⟩ := E
    refine go_iaload (n := 15) ev2 dX12_plans_14 rfl ?_
    refine go_icmp_ge (tgt := 66) (n := 18) dX12_plans_15 rfl rfl (fun c3 => ?_) (fun c3 => ?_)
    · rw [if_pos c3] at E
      refine go_pick (lv' := [(0, vr (some l0)), (1, vi l1), (2, vi l2)]) [0, 1, 2] rfl ?_
      exact SX12_plans_L66     _ _ _  _ E
    · rw [if_neg c3] at E
      refine go_aload_n (j := 0) (n := 19) rfl rfl dX12_plans_18 rfl ?_
      replace E := Option.bind_eq_some_iff.mp E; obtain ⟨v4, ev4, E⟩ := E
      refine go_getI (n := 22) ev4 fl_RX12_382 rfl dX12_plans_19 rfl ?_
      refine go_bipush (z := 7) (n := 24) ⟨by decide, by decide⟩ dX12_plans_22 rfl ?_
      refine go_icmp_ge (tgt := 66) (n := 27) dX12_plans_24 rfl rfl (fun c5 => ?_) (fun c5 => ?_)
      · rw [if_pos c5] at E
        refine go_pick (lv' := [(0, vr (some l0)), (1, vi l1), (2, vi l2)]) [0, 1, 2] rfl ?_
        exact SX12_plans_L66     _ _ _  _ E
      · rw [if_neg c5] at E
        refine go_aload_n (j := 0) (n := 28) rfl rfl dX12_plans_27 rfl ?_
        refine go_iload_n (j := 3) (n := 29) rfl rfl dX12_plans_28 rfl ?_
        refine go_bipush (z := 8) (n := 31) ⟨by decide, by decide⟩ dX12_plans_29 rfl ?_
        replace E := Option.bind_eq_some_iff.mp E; obtain ⟨a8, ea8, E⟩ := E
        obtain ⟨fa8, ga8⟩ := xrc_some ea8
        replace E := xb_some E; obtain ⟨v6, h7, ev6, E⟩ := E
        refine go_callV (y := yX12_its) (n := 34) (st := []) (as := [vi l3, vi 8]) (stk9 := [vi v6]) (OX12_its ev6) yw_X12_its ci_12 ga8 wml_RX12_250 wim_X12_its wse_X12_its (Nat.le_of_ble_eq_true rfl) rfl ⟨Nat.le_of_ble_eq_true rfl, Nat.le_of_ble_eq_true rfl⟩ (Nat.le_of_ble_eq_true rfl) dX12_plans_31 rfl (by cases fa8; rfl) rfl ?_
        refine go_if_eq (tgt := 40) (n := 37) dX12_plans_34 rfl rfl (fun c9 => ?_) (fun c9 => ?_)
        · rw [if_pos c9] at E
          refine go_aload_n (j := 0) (n := 41) rfl rfl dX12_plans_40 rfl ?_
          replace E := Option.bind_eq_some_iff.mp E; obtain ⟨v10, ev10, E⟩ := E
          refine go_getP (n := 44) ev10 fl_RX12_48 rfl dX12_plans_41 rfl ?_
          refine go_aload_n (j := 0) (n := 45) rfl rfl dX12_plans_44 rfl ?_
          replace E := Option.bind_eq_some_iff.mp E; obtain ⟨v11, ev11, E⟩ := E
          refine go_getI (n := 48) ev11 fl_RX12_382 rfl dX12_plans_45 rfl ?_
          refine go_iload_n (j := 3) (n := 49) rfl rfl dX12_plans_48 rfl ?_
          replace E := Option.bind_eq_some_iff.mp E; obtain ⟨h12, eh12, E⟩ := E
          refine go_iastore (n := 50) eh12 dX12_plans_49 rfl ?_
          refine go_aload_n (j := 0) (n := 51) rfl rfl dX12_plans_50 rfl ?_
          refine go_dup (n := 52) rfl dX12_plans_51 rfl ?_
          replace E := Option.bind_eq_some_iff.mp E; obtain ⟨v13, ev13, E⟩ := E
          refine go_getI (n := 55) ev13 fl_RX12_382 rfl dX12_plans_52 rfl ?_
          refine go_iconst (z := 1) (n := 56) ⟨by decide, by decide⟩ dX12_plans_55 rfl ?_
          refine go_iadd (n := 57) dX12_plans_56 rfl ?_
          replace E := Option.bind_eq_some_iff.mp E; obtain ⟨h14, eh14, E⟩ := E
          refine go_putI (n := 60) eh14 fl_RX12_382 rfl dX12_plans_57 rfl ?_
          exact SX12_plans_L60   _ hrc7 _ _ _ _  _ E
        · rw [if_neg c9] at E
          refine go_goto (tgt := 60) dX12_plans_37 rfl ?_
          exact SX12_plans_L60   _ hrc7 _ _ _ _  _ E
noncomputable def X12_plans (F : Nat)   (l0 : Nat) (l1 : Int) (l2 : Int)  (h : HP) : Option (Unit × HP) :=
  (xpI h (some l0) 12 31 26 0).bind fun h1 =>
  X12_plans_L7 F F l0 l1 l2 0 h1
set_option maxRecDepth 100000 in
theorem SX12_plans {K : Ctx} {F : Nat} {r : Unit} {hf : HP}     (l0 : Nat) (l1 : Int) (l2 : Int)  (h : HP) (E : X12_plans F   l0 l1 l2 h = some (r, hf)) : Go K MX12_plans (QM K none hf) hf 0 [(0, vr (some l0)), (1, vi l1), (2, vi l2)] [] h := by
  unfold X12_plans at E
  refine go_aload_n (j := 0) (n := 1) rfl rfl dX12_plans_0 rfl ?_
  refine go_iconst (z := 0) (n := 2) ⟨by decide, by decide⟩ dX12_plans_1 rfl ?_
  replace E := Option.bind_eq_some_iff.mp E; obtain ⟨h1, eh1, E⟩ := E
  refine go_putI (n := 5) eh1 fl_RX12_382 rfl dX12_plans_2 rfl ?_
  refine go_iconst (z := 0) (n := 6) ⟨by decide, by decide⟩ dX12_plans_5 rfl ?_
  refine go_istore_n (n := 7) (lv' := [(3, vi 0), (0, vr (some l0)), (1, vi l1), (2, vi l2)]) rfl dX12_plans_6 rfl (Nat.le_of_ble_eq_true rfl) rfl ?_
  refine go_pick (lv' := [(0, vr (some l0)), (1, vi l1), (2, vi l2), (3, vi 0)]) [1, 2, 3, 0] rfl ?_
  exact SX12_plans_L7     F _ _ _ _ _ E
theorem OX12_plans {F : Nat} {l0 : Nat} {l1 : Int} {l2 : Int} {h hf : HP} {r : Unit} (e : X12_plans F l0 l1 l2 h = some (r, hf)) : Ok MX12_plans [vr (some l0), vi l1, vi l2] none h hf := fun K _ _ _ => SX12_plans l0 l1 l2 h e
theorem yw_X12_noTime : YW yX12_noTime cX12_noTime 2 (some .boolean) 2 := ⟨bw_of 2291 (by decide +kernel) rfl, bw_of 129 (by decide +kernel) rfl, ⟨by decide +kernel, by decide +kernel, by decide +kernel⟩, by decide +kernel⟩
theorem wml_RX12_395 : Cond.methodLink RX12 395 yX12_noTime ∈ BW := bw_of 2289 (by decide +kernel) rfl
theorem wst_X12_noTime : Cond.static yX12_noTime ∈ BW := bw_of 2290 (by decide +kernel) rfl
theorem yw_X12_plans : YW yX12_plans cX12_plans 14 none 2 := ⟨bw_of 2295 (by decide +kernel) rfl, bw_of 129 (by decide +kernel) rfl, ⟨by decide +kernel, by decide +kernel, by decide +kernel⟩, by decide +kernel⟩
theorem wml_RX12_398 : Cond.methodLink RX12 398 yX12_plans ∈ BW := bw_of 2292 (by decide +kernel) rfl
theorem wim_X12_plans : Cond.instanceMethod yX12_plans ∈ BW := bw_of 2294 (by decide +kernel) rfl
theorem wse_X12_plans : Cond.selects RX12 yX12_plans yX12_plans ∈ BW := bw_of 113 (by decide +kernel) rfl
abbrev MX12_plan : MI := (RX12, cX12_plan, 3, (some .int), 7, none, "plan")
noncomputable def X12_plan (F : Nat)   (l0 : Nat) (l1 : Int) (l2 : Int)  (h : HP) : Option (Int × HP) :=
  (xpI h (some l0) 12 31 0 0).bind fun h1 =>
  xb (X12_noTime F l1 l2 h1) fun v2 h3 =>
  (xrc h3 (some l0) 12 31).bind fun a6 =>
  xb (X12_throwsIf F a6 v2 1 h3) fun v4 h5 =>
  if v4 = 0 then
    (xrc h5 (some l0) 12 31).bind fun a10 =>
    xb (X12_plans F a10 l1 l2 h5) fun v8 h9 =>
    (xgI h9 (some l0) 12 31 27).bind fun v11 =>
    some (v11, h9)
  else
    some (0, h5)
set_option maxRecDepth 100000 in
theorem SX12_plan {K : Ctx} {F : Nat} {r : Int} {hf : HP}     (l0 : Nat) (l1 : Int) (l2 : Int)  (h : HP) (E : X12_plan F   l0 l1 l2 h = some (r, hf)) : Go K MX12_plan (QM K (some (vi r)) hf) hf 0 [(0, vr (some l0)), (1, vi l1), (2, vi l2)] [] h := by
  unfold X12_plan at E
  refine go_aload_n (j := 0) (n := 1) rfl rfl dX12_plan_0 rfl ?_
  refine go_iconst (z := 0) (n := 2) ⟨by decide, by decide⟩ dX12_plan_1 rfl ?_
  replace E := Option.bind_eq_some_iff.mp E; obtain ⟨h1, eh1, E⟩ := E
  refine go_putI (n := 5) eh1 fl_RX12_3 rfl dX12_plan_2 rfl ?_
  refine go_aload_n (j := 0) (n := 6) rfl rfl dX12_plan_5 rfl ?_
  refine go_iload_n (j := 1) (n := 7) rfl rfl dX12_plan_6 rfl ?_
  refine go_iload_n (j := 2) (n := 8) rfl rfl dX12_plan_7 rfl ?_
  replace E := xb_some E; obtain ⟨v2, h3, ev2, E⟩ := E
  refine go_callS (y := yX12_noTime) (n := 11) (st := [vr (some l0)]) (as := [vi l1, vi l2]) (stk9 := [vi v2, vr (some l0)]) (OX12_noTime ev2) yw_X12_noTime wml_RX12_395 wst_X12_noTime (Nat.le_of_ble_eq_true rfl) rfl ⟨Nat.le_of_ble_eq_true rfl, Nat.le_of_ble_eq_true rfl⟩ (Nat.le_of_ble_eq_true rfl) dX12_plan_8 rfl rfl rfl ?_
  refine go_iconst (z := 1) (n := 12) ⟨by decide, by decide⟩ dX12_plan_11 rfl ?_
  replace E := Option.bind_eq_some_iff.mp E; obtain ⟨a6, ea6, E⟩ := E
  obtain ⟨fa6, ga6⟩ := xrc_some ea6
  replace E := xb_some E; obtain ⟨v4, h5, ev4, E⟩ := E
  refine go_callV (y := yX12_throwsIf) (n := 15) (st := []) (as := [vi v2, vi 1]) (stk9 := [vi v4]) (OX12_throwsIf ev4) yw_X12_throwsIf ci_12 ga6 wml_RX12_65 wim_X12_throwsIf wse_X12_throwsIf (Nat.le_of_ble_eq_true rfl) rfl ⟨Nat.le_of_ble_eq_true rfl, Nat.le_of_ble_eq_true rfl⟩ (Nat.le_of_ble_eq_true rfl) dX12_plan_12 rfl (by cases fa6; rfl) rfl ?_
  refine go_if_eq (tgt := 20) (n := 18) dX12_plan_15 rfl rfl (fun c7 => ?_) (fun c7 => ?_)
  · rw [if_pos c7] at E
    refine go_aload_n (j := 0) (n := 21) rfl rfl dX12_plan_20 rfl ?_
    refine go_iload_n (j := 1) (n := 22) rfl rfl dX12_plan_21 rfl ?_
    refine go_iload_n (j := 2) (n := 23) rfl rfl dX12_plan_22 rfl ?_
    replace E := Option.bind_eq_some_iff.mp E; obtain ⟨a10, ea10, E⟩ := E
    obtain ⟨fa10, ga10⟩ := xrc_some ea10
    replace E := xb_some E; obtain ⟨v8, h9, ev8, E⟩ := E
    refine go_callV (y := yX12_plans) (n := 26) (st := []) (as := [vi l1, vi l2]) (stk9 := []) (OX12_plans ev8) yw_X12_plans ci_12 ga10 wml_RX12_398 wim_X12_plans wse_X12_plans (Nat.le_of_ble_eq_true rfl) rfl ⟨Nat.le_of_ble_eq_true rfl, Nat.le_of_ble_eq_true rfl⟩ (Nat.le_of_ble_eq_true rfl) dX12_plan_23 rfl (by cases fa10; rfl) rfl ?_
    refine go_aload_n (j := 0) (n := 27) rfl rfl dX12_plan_26 rfl ?_
    replace E := Option.bind_eq_some_iff.mp E; obtain ⟨v11, ev11, E⟩ := E
    refine go_getI (n := 30) ev11 fl_RX12_385 rfl dX12_plan_27 rfl ?_
    cases E
    exact go_ireturn rfl dX12_plan_30
  · rw [if_neg c7] at E
    refine go_iconst (z := 0) (n := 19) ⟨by decide, by decide⟩ dX12_plan_18 rfl ?_
    cases E
    exact go_ireturn rfl dX12_plan_19
theorem OX12_plan {F : Nat} {l0 : Nat} {l1 : Int} {l2 : Int} {h hf : HP} {r : Int} (e : X12_plan F l0 l1 l2 h = some (r, hf)) : Ok MX12_plan [vr (some l0), vi l1, vi l2] (some (vi r)) h hf := fun K _ _ _ => SX12_plan l0 l1 l2 h e
abbrev MX12_which : MI := (RX12, cX12_which, 5, (some .int), 7, none, "which")
noncomputable def X12_which_L42 (F : Nat)   (k : Nat) : Nat → Int → Int → HP → Option (Int × HP) :=
  Nat.rec (motive := fun _ => Nat → Int → Int → HP → Option (Int × HP)) (fun _ _ _ _ => none) (fun _ rc42 l0 l3 l4 h =>
    (xgI h (some l0) 12 31 26).bind fun v1 =>
    if v1 ≤ l4 then
      some ((-1), h)
    else
      (xgP h (some l0) 12 31 25).bind fun v3 =>
      (xaI h v3 100 l4).bind fun v4 =>
      if v4 = l3 then
        (xgI h (some l0) 12 31 28).bind fun v6 =>
        (xgI h (some l0) 12 31 26).bind fun v7 =>
        xb (X12_optionOf F v6 v7 l4 h) fun v8 h9 =>
        some (v8, h9)
      else
        rc42 l0 l3 (w32 (l4 + 1)) h) k
theorem X12_which_L42_s (F : Nat)   (k : Nat) (l0 : Nat) (l3 : Int) (l4 : Int)  (h : HP) : X12_which_L42 F   (k + 1) l0 l3 l4 h =
    (xgI h (some l0) 12 31 26).bind fun v1 =>
    if v1 ≤ l4 then
      some ((-1), h)
    else
      (xgP h (some l0) 12 31 25).bind fun v3 =>
      (xaI h v3 100 l4).bind fun v4 =>
      if v4 = l3 then
        (xgI h (some l0) 12 31 28).bind fun v6 =>
        (xgI h (some l0) 12 31 26).bind fun v7 =>
        xb (X12_optionOf F v6 v7 l4 h) fun v8 h9 =>
        some (v8, h9)
      else
        (X12_which_L42 F k) l0 l3 (w32 (l4 + 1)) h := rfl
set_option maxRecDepth 100000 in
theorem SX12_which_L42 {K : Ctx} {F : Nat} {r : Int} {hf : HP}     : ∀ (k : Nat) (l0 : Nat) (l3 : Int) (l4 : Int)  (h : HP), X12_which_L42 F   k l0 l3 l4 h = some (r, hf) → Go K MX12_which (QM K (some (vi r)) hf) hf 42 [(0, vr (some l0)), (3, vi l3), (4, vi l4)] [] h := by
  intro k
  induction k with
  | zero => intro l0 l3 l4 h E; exact nomatch E
  | succ k hrc42 =>
    intro l0 l3 l4 h E
    rw [X12_which_L42_s] at E
    refine go_iload (j := 2) (n := 44) rfl dX12_which_42 rfl ?_
    refine go_aload_n (j := 0) (n := 45) rfl rfl dX12_which_44 rfl ?_
    replace E := Option.bind_eq_some_iff.mp E; obtain ⟨v1, ev1, E⟩ := E
    refine go_getI (n := 48) ev1 fl_RX12_382 rfl dX12_which_45 rfl ?_
    refine go_icmp_ge (tgt := 82) (n := 51) dX12_which_48 rfl rfl (fun c2 => ?_) (fun c2 => ?_)
    · rw [if_pos c2] at E
      refine go_iconst (z := (-1)) (n := 83) ⟨by decide, by decide⟩ dX12_which_82 rfl ?_
      cases E
      exact go_ireturn rfl dX12_which_83
    · rw [if_neg c2] at E
      refine go_aload_n (j := 0) (n := 52) rfl rfl dX12_which_51 rfl ?_
      replace E := Option.bind_eq_some_iff.mp E; obtain ⟨v3, ev3, E⟩ := E
      refine go_getP (n := 55) ev3 fl_RX12_48 rfl dX12_which_52 rfl ?_
      refine go_iload (j := 2) (n := 57) rfl dX12_which_55 rfl ?_
      replace E := Option.bind_eq_some_iff.mp E; obtain ⟨v4, ev4, E⟩ := E
      refine go_iaload (n := 58) ev4 dX12_which_57 rfl ?_
      refine go_iload_n (j := 1) (n := 59) rfl rfl dX12_which_58 rfl ?_
      refine go_icmp_ne (tgt := 76) (n := 62) dX12_which_59 rfl rfl (fun c5 => ?_) (fun c5 => ?_)
      · rw [if_neg c5] at E
        refine go_iinc (j := 2) (n := 79) (lv' := [(4, vi (w32 (l4 + 1))), (0, vr (some l0)), (3, vi l3)]) rfl dX12_which_76 rfl (Nat.le_of_ble_eq_true rfl) rfl ?_
        refine go_goto (tgt := 42) dX12_which_79 rfl ?_
        refine go_pick (lv' := [(0, vr (some l0)), (3, vi l3), (4, vi (w32 (l4 + 1)))]) [1, 2, 0] rfl ?_
        exact hrc42 _ _ _ _ E
      · rw [if_pos c5] at E
        refine go_aload_n (j := 0) (n := 63) rfl rfl dX12_which_62 rfl ?_
        replace E := Option.bind_eq_some_iff.mp E; obtain ⟨v6, ev6, E⟩ := E
        refine go_getI (n := 66) ev6 fl_RX12_392 rfl dX12_which_63 rfl ?_
        refine go_aload_n (j := 0) (n := 67) rfl rfl dX12_which_66 rfl ?_
        replace E := Option.bind_eq_some_iff.mp E; obtain ⟨v7, ev7, E⟩ := E
        refine go_getI (n := 70) ev7 fl_RX12_382 rfl dX12_which_67 rfl ?_
        refine go_iload (j := 2) (n := 72) rfl dX12_which_70 rfl ?_
        replace E := xb_some E; obtain ⟨v8, h9, ev8, E⟩ := E
        refine go_callS (y := yX12_optionOf) (n := 75) (st := []) (as := [vi v6, vi v7, vi l4]) (stk9 := [vi v8]) (OX12_optionOf ev8) yw_X12_optionOf wml_RX12_388 wst_X12_optionOf (Nat.le_of_ble_eq_true rfl) rfl ⟨Nat.le_of_ble_eq_true rfl, Nat.le_of_ble_eq_true rfl⟩ (Nat.le_of_ble_eq_true rfl) dX12_which_72 rfl rfl rfl ?_
        cases E
        exact go_ireturn rfl dX12_which_75
noncomputable def X12_which (F : Nat)   (l0 : Nat) (l1 : Int) (l2 : Int) (l3 : Int)  (h : HP) : Option (Int × HP) :=
  (xpI h (some l0) 12 31 0 0).bind fun h1 =>
  (xrc h1 (some l0) 12 31).bind fun a4 =>
  xb (X12_noJob F a4 l3 h1) fun v2 h3 =>
  (xrc h3 (some l0) 12 31).bind fun a7 =>
  xb (X12_throwsIf F a7 v2 1 h3) fun v5 h6 =>
  if v5 = 0 then
    xb (X12_noTime F l1 l2 h6) fun v9 h10 =>
    (xrc h10 (some l0) 12 31).bind fun a13 =>
    xb (X12_throwsIf F a13 v9 2 h10) fun v11 h12 =>
    if v11 = 0 then
      (xrc h12 (some l0) 12 31).bind fun a17 =>
      xb (X12_plans F a17 l1 l2 h12) fun v15 h16 =>
      X12_which_L42 F F l0 l3 0 h16
    else
      some (0, h12)
  else
    some (0, h6)
set_option maxRecDepth 100000 in
theorem SX12_which {K : Ctx} {F : Nat} {r : Int} {hf : HP}     (l0 : Nat) (l1 : Int) (l2 : Int) (l3 : Int)  (h : HP) (E : X12_which F   l0 l1 l2 l3 h = some (r, hf)) : Go K MX12_which (QM K (some (vi r)) hf) hf 0 [(0, vr (some l0)), (1, vi l1), (2, vi l2), (3, vi l3)] [] h := by
  unfold X12_which at E
  refine go_aload_n (j := 0) (n := 1) rfl rfl dX12_which_0 rfl ?_
  refine go_iconst (z := 0) (n := 2) ⟨by decide, by decide⟩ dX12_which_1 rfl ?_
  replace E := Option.bind_eq_some_iff.mp E; obtain ⟨h1, eh1, E⟩ := E
  refine go_putI (n := 5) eh1 fl_RX12_3 rfl dX12_which_2 rfl ?_
  refine go_aload_n (j := 0) (n := 6) rfl rfl dX12_which_5 rfl ?_
  refine go_aload_n (j := 0) (n := 7) rfl rfl dX12_which_6 rfl ?_
  refine go_iload_n (j := 3) (n := 8) rfl rfl dX12_which_7 rfl ?_
  replace E := Option.bind_eq_some_iff.mp E; obtain ⟨a4, ea4, E⟩ := E
  obtain ⟨fa4, ga4⟩ := xrc_some ea4
  replace E := xb_some E; obtain ⟨v2, h3, ev2, E⟩ := E
  refine go_callV (y := yX12_noJob) (n := 11) (st := [vr (some l0)]) (as := [vi l3]) (stk9 := [vi v2, vr (some l0)]) (OX12_noJob ev2) yw_X12_noJob ci_12 ga4 wml_RX12_247 wim_X12_noJob wse_X12_noJob (Nat.le_of_ble_eq_true rfl) rfl ⟨Nat.le_of_ble_eq_true rfl, Nat.le_of_ble_eq_true rfl⟩ (Nat.le_of_ble_eq_true rfl) dX12_which_8 rfl (by cases fa4; rfl) rfl ?_
  refine go_iconst (z := 1) (n := 12) ⟨by decide, by decide⟩ dX12_which_11 rfl ?_
  replace E := Option.bind_eq_some_iff.mp E; obtain ⟨a7, ea7, E⟩ := E
  obtain ⟨fa7, ga7⟩ := xrc_some ea7
  replace E := xb_some E; obtain ⟨v5, h6, ev5, E⟩ := E
  refine go_callV (y := yX12_throwsIf) (n := 15) (st := []) (as := [vi v2, vi 1]) (stk9 := [vi v5]) (OX12_throwsIf ev5) yw_X12_throwsIf ci_12 ga7 wml_RX12_65 wim_X12_throwsIf wse_X12_throwsIf (Nat.le_of_ble_eq_true rfl) rfl ⟨Nat.le_of_ble_eq_true rfl, Nat.le_of_ble_eq_true rfl⟩ (Nat.le_of_ble_eq_true rfl) dX12_which_12 rfl (by cases fa7; rfl) rfl ?_
  refine go_if_ne (tgt := 31) (n := 18) dX12_which_15 rfl rfl (fun c8 => ?_) (fun c8 => ?_)
  · rw [if_neg c8] at E
    refine go_iconst (z := 0) (n := 32) ⟨by decide, by decide⟩ dX12_which_31 rfl ?_
    cases E
    exact go_ireturn rfl dX12_which_32
  · rw [if_pos c8] at E
    refine go_aload_n (j := 0) (n := 19) rfl rfl dX12_which_18 rfl ?_
    refine go_iload_n (j := 1) (n := 20) rfl rfl dX12_which_19 rfl ?_
    refine go_iload_n (j := 2) (n := 21) rfl rfl dX12_which_20 rfl ?_
    replace E := xb_some E; obtain ⟨v9, h10, ev9, E⟩ := E
    refine go_callS (y := yX12_noTime) (n := 24) (st := [vr (some l0)]) (as := [vi l1, vi l2]) (stk9 := [vi v9, vr (some l0)]) (OX12_noTime ev9) yw_X12_noTime wml_RX12_395 wst_X12_noTime (Nat.le_of_ble_eq_true rfl) rfl ⟨Nat.le_of_ble_eq_true rfl, Nat.le_of_ble_eq_true rfl⟩ (Nat.le_of_ble_eq_true rfl) dX12_which_21 rfl rfl rfl ?_
    refine go_iconst (z := 2) (n := 25) ⟨by decide, by decide⟩ dX12_which_24 rfl ?_
    replace E := Option.bind_eq_some_iff.mp E; obtain ⟨a13, ea13, E⟩ := E
    obtain ⟨fa13, ga13⟩ := xrc_some ea13
    replace E := xb_some E; obtain ⟨v11, h12, ev11, E⟩ := E
    refine go_callV (y := yX12_throwsIf) (n := 28) (st := []) (as := [vi v9, vi 2]) (stk9 := [vi v11]) (OX12_throwsIf ev11) yw_X12_throwsIf ci_12 ga13 wml_RX12_65 wim_X12_throwsIf wse_X12_throwsIf (Nat.le_of_ble_eq_true rfl) rfl ⟨Nat.le_of_ble_eq_true rfl, Nat.le_of_ble_eq_true rfl⟩ (Nat.le_of_ble_eq_true rfl) dX12_which_25 rfl (by cases fa13; rfl) rfl ?_
    refine go_if_eq (tgt := 33) (n := 31) dX12_which_28 rfl rfl (fun c14 => ?_) (fun c14 => ?_)
    · rw [if_pos c14] at E
      refine go_aload_n (j := 0) (n := 34) rfl rfl dX12_which_33 rfl ?_
      refine go_iload_n (j := 1) (n := 35) rfl rfl dX12_which_34 rfl ?_
      refine go_iload_n (j := 2) (n := 36) rfl rfl dX12_which_35 rfl ?_
      replace E := Option.bind_eq_some_iff.mp E; obtain ⟨a17, ea17, E⟩ := E
      obtain ⟨fa17, ga17⟩ := xrc_some ea17
      replace E := xb_some E; obtain ⟨v15, h16, ev15, E⟩ := E
      refine go_callV (y := yX12_plans) (n := 39) (st := []) (as := [vi l1, vi l2]) (stk9 := []) (OX12_plans ev15) yw_X12_plans ci_12 ga17 wml_RX12_398 wim_X12_plans wse_X12_plans (Nat.le_of_ble_eq_true rfl) rfl ⟨Nat.le_of_ble_eq_true rfl, Nat.le_of_ble_eq_true rfl⟩ (Nat.le_of_ble_eq_true rfl) dX12_which_36 rfl (by cases fa17; rfl) rfl ?_
      refine go_iconst (z := 0) (n := 40) ⟨by decide, by decide⟩ dX12_which_39 rfl ?_
      refine go_istore (n := 42) (lv' := [(4, vi 0), (0, vr (some l0)), (1, vi l1), (2, vi l2), (3, vi l3)]) dX12_which_40 rfl (Nat.le_of_ble_eq_true rfl) rfl ?_
      refine go_pick (lv' := [(0, vr (some l0)), (3, vi l3), (4, vi 0)]) [1, 4, 0] rfl ?_
      exact SX12_which_L42     F _ _ _ _ E
    · rw [if_neg c14] at E
      refine go_iconst (z := 0) (n := 32) ⟨by decide, by decide⟩ dX12_which_31 rfl ?_
      cases E
      exact go_ireturn rfl dX12_which_32
theorem OX12_which {F : Nat} {l0 : Nat} {l1 : Int} {l2 : Int} {l3 : Int} {h hf : HP} {r : Int} (e : X12_which F l0 l1 l2 l3 h = some (r, hf)) : Ok MX12_which [vr (some l0), vi l1, vi l2, vi l3] (some (vi r)) h hf := fun K _ _ _ => SX12_which l0 l1 l2 l3 h e
theorem fl_RX12_54 : FL RX12 54 12 31 30 true := ⟨RX12, TX12, ci_12, by decide, bw_of 1783 (by decide +kernel) rfl, rfl, rfl⟩
theorem fl_RX12_51 : FL RX12 51 12 31 29 true := ⟨RX12, TX12, ci_12, by decide, bw_of 1782 (by decide +kernel) rfl, rfl, rfl⟩
abbrev MX12_beside : MI := (RX12, cX12_beside, 8, (some .int), 7, none, "beside")
noncomputable def X12_beside_L174 (F : Nat)  (rc77 : Nat → Int → Int → HP → Option (Int × HP)) (rc130 : Nat → Int → Int → Int → Int → Int → Int → HP → Option (Int × HP)) (l0 : Nat) (l2 : Int) (l3 : Int) (l4 : Int) (l5 : Int) (l7 : Int) (s0 : Int) (h : HP) : Option (Int × HP) :=
  rc130 l0 l2 l3 l4 l5 s0 (w32 (l7 + 1)) h
set_option maxRecDepth 100000 in
theorem SX12_beside_L174 {K : Ctx} {F : Nat} {r : Int} {hf : HP}   (rc77 : Nat → Int → Int → HP → Option (Int × HP)) (rc130 : Nat → Int → Int → Int → Int → Int → Int → HP → Option (Int × HP)) (hrc77 : ∀ l0 l2 l3 h, rc77 l0 l2 l3 h = some (r, hf) → Go K MX12_beside (QM K (some (vi r)) hf) hf 77 [(0, vr (some l0)), (2, vi l2), (3, vi l3)] [] h) (hrc130 : ∀ l0 l2 l3 l4 l5 l6 l7 h, rc130 l0 l2 l3 l4 l5 l6 l7 h = some (r, hf) → Go K MX12_beside (QM K (some (vi r)) hf) hf 130 [(0, vr (some l0)), (2, vi l2), (3, vi l3), (4, vi l4), (5, vi l5), (6, vi l6), (7, vi l7)] [] h) (l0 : Nat) (l2 : Int) (l3 : Int) (l4 : Int) (l5 : Int) (l7 : Int) (s0 : Int) (h : HP) (E : X12_beside_L174 F  rc77 rc130 l0 l2 l3 l4 l5 l7 s0 h = some (r, hf)) : Go K MX12_beside (QM K (some (vi r)) hf) hf 174 [(0, vr (some l0)), (2, vi l2), (3, vi l3), (4, vi l4), (5, vi l5), (7, vi l7)] [vi s0] h := by
  unfold X12_beside_L174 at E
  refine go_istore (n := 176) (lv' := [(6, vi s0), (0, vr (some l0)), (2, vi l2), (3, vi l3), (4, vi l4), (5, vi l5), (7, vi l7)]) dX12_beside_174 rfl (Nat.le_of_ble_eq_true rfl) rfl ?_
  refine go_iinc (j := 6) (n := 179) (lv' := [(7, vi (w32 (l7 + 1))), (6, vi s0), (0, vr (some l0)), (2, vi l2), (3, vi l3), (4, vi l4), (5, vi l5)]) rfl dX12_beside_176 rfl (Nat.le_of_ble_eq_true rfl) rfl ?_
  refine go_goto (tgt := 130) dX12_beside_179 rfl ?_
  refine go_pick (lv' := [(0, vr (some l0)), (2, vi l2), (3, vi l3), (4, vi l4), (5, vi l5), (6, vi s0), (7, vi (w32 (l7 + 1)))]) [2, 3, 4, 5, 6, 1, 0] rfl ?_
  exact hrc130 _ _ _ _ _ _ _ _ E
noncomputable def X12_beside_L130 (F : Nat)  (rc77 : Nat → Int → Int → HP → Option (Int × HP)) (k : Nat) : Nat → Int → Int → Int → Int → Int → Int → HP → Option (Int × HP) :=
  Nat.rec (motive := fun _ => Nat → Int → Int → Int → Int → Int → Int → HP → Option (Int × HP)) (fun _ _ _ _ _ _ _ _ => none) (fun _ rc130 l0 l2 l3 l4 l5 l6 l7 h =>
    (xgP h (some l0) 12 31 1).bind fun v1 =>
    (xaI h v1 100 8).bind fun v2 =>
    if v2 ≤ l7 then
      (xgP h (some l0) 12 31 29).bind fun v4 =>
      (xrc h (some l0) 12 31).bind fun a7 =>
      xb (X12_its F a7 l4 0 h) fun v5 h6 =>
      (xsI h6 v4 l4 (w32 (l6 + v5))).bind fun h8 =>
      (xgP h8 (some l0) 12 31 30).bind fun v9 =>
      (xgP h8 (some l0) 12 31 29).bind fun v10 =>
      (xaI h8 v10 100 l4).bind fun v11 =>
      (xsI h8 v9 l5 v11).bind fun h12 =>
      (xgP h12 (some l0) 12 31 29).bind fun v13 =>
      (xaI h12 v13 100 l4).bind fun v14 =>
      rc77 l0 (max l2 v14) (w32 (l3 + 1)) h12
    else
      (xrc h (some l0) 12 31).bind fun a17 =>
      xb (X12_leansOf F a17 l4 h) fun v15 h16 =>
      if (xand (xshr v15 l7) 1) = 1 then
        (xgP h16 (some l0) 12 31 29).bind fun v19 =>
        (xaI h16 v19 100 l7).bind fun v20 =>
        X12_beside_L174 F rc77 rc130 l0 l2 l3 l4 l5 l7 (max l6 v20) h16
      else
        X12_beside_L174 F rc77 rc130 l0 l2 l3 l4 l5 l7 l6 h16) k
theorem X12_beside_L130_s (F : Nat)  (rc77 : Nat → Int → Int → HP → Option (Int × HP)) (k : Nat) (l0 : Nat) (l2 : Int) (l3 : Int) (l4 : Int) (l5 : Int) (l6 : Int) (l7 : Int)  (h : HP) : X12_beside_L130 F  rc77 (k + 1) l0 l2 l3 l4 l5 l6 l7 h =
    (xgP h (some l0) 12 31 1).bind fun v1 =>
    (xaI h v1 100 8).bind fun v2 =>
    if v2 ≤ l7 then
      (xgP h (some l0) 12 31 29).bind fun v4 =>
      (xrc h (some l0) 12 31).bind fun a7 =>
      xb (X12_its F a7 l4 0 h) fun v5 h6 =>
      (xsI h6 v4 l4 (w32 (l6 + v5))).bind fun h8 =>
      (xgP h8 (some l0) 12 31 30).bind fun v9 =>
      (xgP h8 (some l0) 12 31 29).bind fun v10 =>
      (xaI h8 v10 100 l4).bind fun v11 =>
      (xsI h8 v9 l5 v11).bind fun h12 =>
      (xgP h12 (some l0) 12 31 29).bind fun v13 =>
      (xaI h12 v13 100 l4).bind fun v14 =>
      rc77 l0 (max l2 v14) (w32 (l3 + 1)) h12
    else
      (xrc h (some l0) 12 31).bind fun a17 =>
      xb (X12_leansOf F a17 l4 h) fun v15 h16 =>
      if (xand (xshr v15 l7) 1) = 1 then
        (xgP h16 (some l0) 12 31 29).bind fun v19 =>
        (xaI h16 v19 100 l7).bind fun v20 =>
        X12_beside_L174 F rc77 (X12_beside_L130 F rc77 k) l0 l2 l3 l4 l5 l7 (max l6 v20) h16
      else
        X12_beside_L174 F rc77 (X12_beside_L130 F rc77 k) l0 l2 l3 l4 l5 l7 l6 h16 := rfl
set_option maxRecDepth 100000 in
theorem SX12_beside_L130 {K : Ctx} {F : Nat} {r : Int} {hf : HP}   (rc77 : Nat → Int → Int → HP → Option (Int × HP)) (hrc77 : ∀ l0 l2 l3 h, rc77 l0 l2 l3 h = some (r, hf) → Go K MX12_beside (QM K (some (vi r)) hf) hf 77 [(0, vr (some l0)), (2, vi l2), (3, vi l3)] [] h) : ∀ (k : Nat) (l0 : Nat) (l2 : Int) (l3 : Int) (l4 : Int) (l5 : Int) (l6 : Int) (l7 : Int)  (h : HP), X12_beside_L130 F  rc77 k l0 l2 l3 l4 l5 l6 l7 h = some (r, hf) → Go K MX12_beside (QM K (some (vi r)) hf) hf 130 [(0, vr (some l0)), (2, vi l2), (3, vi l3), (4, vi l4), (5, vi l5), (6, vi l6), (7, vi l7)] [] h := by
  intro k
  induction k with
  | zero => intro l0 l2 l3 l4 l5 l6 l7 h E; exact nomatch E
  | succ k hrc130 =>
    intro l0 l2 l3 l4 l5 l6 l7 h E
    rw [X12_beside_L130_s] at E
    refine go_iload (j := 6) (n := 132) rfl dX12_beside_130 rfl ?_
    refine go_aload_n (j := 0) (n := 133) rfl rfl dX12_beside_132 rfl ?_
    replace E := Option.bind_eq_some_iff.mp E; obtain ⟨v1, ev1, E⟩ := E
    refine go_getP (n := 136) ev1 fl_RX12_14 rfl dX12_beside_133 rfl ?_
    refine go_bipush (z := 8) (n := 138) ⟨by decide, by decide⟩ dX12_beside_136 rfl ?_
    replace E := Option.bind_eq_some_iff.mp E; obtain ⟨v2, ev2, E⟩ := E
    refine go_iaload (n := 139) ev2 dX12_beside_138 rfl ?_
    refine go_icmp_ge (tgt := 182) (n := 142) dX12_beside_139 rfl rfl (fun c3 => ?_) (fun c3 => ?_)
    · rw [if_pos c3] at E
      refine go_aload_n (j := 0) (n := 183) rfl rfl dX12_beside_182 rfl ?_
      replace E := Option.bind_eq_some_iff.mp E; obtain ⟨v4, ev4, E⟩ := E
      refine go_getP (n := 186) ev4 fl_RX12_51 rfl dX12_beside_183 rfl ?_
      refine go_iload (j := 3) (n := 188) rfl dX12_beside_186 rfl ?_
      refine go_iload (j := 5) (n := 190) rfl dX12_beside_188 rfl ?_
      refine go_aload_n (j := 0) (n := 191) rfl rfl dX12_beside_190 rfl ?_
      refine go_iload (j := 3) (n := 193) rfl dX12_beside_191 rfl ?_
      refine go_iconst (z := 0) (n := 194) ⟨by decide, by decide⟩ dX12_beside_193 rfl ?_
      replace E := Option.bind_eq_some_iff.mp E; obtain ⟨a7, ea7, E⟩ := E
      obtain ⟨fa7, ga7⟩ := xrc_some ea7
      replace E := xb_some E; obtain ⟨v5, h6, ev5, E⟩ := E
      refine go_callV (y := yX12_its) (n := 197) (st := [vi l6, vi l4, vr v4]) (as := [vi l4, vi 0]) (stk9 := [vi v5, vi l6, vi l4, vr v4]) (OX12_its ev5) yw_X12_its ci_12 ga7 wml_RX12_250 wim_X12_its wse_X12_its (Nat.le_of_ble_eq_true rfl) rfl ⟨Nat.le_of_ble_eq_true rfl, Nat.le_of_ble_eq_true rfl⟩ (Nat.le_of_ble_eq_true rfl) dX12_beside_194 rfl (by cases fa7; rfl) rfl ?_
      refine go_iadd (n := 198) dX12_beside_197 rfl ?_
      replace E := Option.bind_eq_some_iff.mp E; obtain ⟨h8, eh8, E⟩ := E
      refine go_iastore (n := 199) eh8 dX12_beside_198 rfl ?_
      refine go_aload_n (j := 0) (n := 200) rfl rfl dX12_beside_199 rfl ?_
      replace E := Option.bind_eq_some_iff.mp E; obtain ⟨v9, ev9, E⟩ := E
      refine go_getP (n := 203) ev9 fl_RX12_54 rfl dX12_beside_200 rfl ?_
      refine go_iload (j := 4) (n := 205) rfl dX12_beside_203 rfl ?_
      refine go_aload_n (j := 0) (n := 206) rfl rfl dX12_beside_205 rfl ?_
      replace E := Option.bind_eq_some_iff.mp E; obtain ⟨v10, ev10, E⟩ := E
      refine go_getP (n := 209) ev10 fl_RX12_51 rfl dX12_beside_206 rfl ?_
      refine go_iload (j := 3) (n := 211) rfl dX12_beside_209 rfl ?_
      replace E := Option.bind_eq_some_iff.mp E; obtain ⟨v11, ev11, E⟩ := E
      refine go_iaload (n := 212) ev11 dX12_beside_211 rfl ?_
      replace E := Option.bind_eq_some_iff.mp E; obtain ⟨h12, eh12, E⟩ := E
      refine go_iastore (n := 213) eh12 dX12_beside_212 rfl ?_
      refine go_iload_n (j := 1) (n := 214) rfl rfl dX12_beside_213 rfl ?_
      refine go_aload_n (j := 0) (n := 215) rfl rfl dX12_beside_214 rfl ?_
      replace E := Option.bind_eq_some_iff.mp E; obtain ⟨v13, ev13, E⟩ := E
      refine go_getP (n := 218) ev13 fl_RX12_51 rfl dX12_beside_215 rfl ?_
      refine go_iload (j := 3) (n := 220) rfl dX12_beside_218 rfl ?_
      replace E := Option.bind_eq_some_iff.mp E; obtain ⟨v14, ev14, E⟩ := E
      refine go_iaload (n := 221) ev14 dX12_beside_220 rfl ?_
      refine go_mmax (n := 224) wml_RX12_345 jm_max_i (Nat.le_of_ble_eq_true rfl) (Nat.le_of_ble_eq_true rfl) dX12_beside_221 rfl ?_
      refine go_istore_n (n := 225) (lv' := [(2, vi (max l2 v14)), (0, vr (some l0)), (3, vi l3), (4, vi l4), (5, vi l5), (6, vi l6), (7, vi l7)]) rfl dX12_beside_224 rfl (Nat.le_of_ble_eq_true rfl) rfl ?_
      refine go_iinc (j := 2) (n := 228) (lv' := [(3, vi (w32 (l3 + 1))), (2, vi (max l2 v14)), (0, vr (some l0)), (4, vi l4), (5, vi l5), (6, vi l6), (7, vi l7)]) rfl dX12_beside_225 rfl (Nat.le_of_ble_eq_true rfl) rfl ?_
      refine go_goto (tgt := 77) dX12_beside_228 rfl ?_
      refine go_pick (lv' := [(0, vr (some l0)), (2, vi (max l2 v14)), (3, vi (w32 (l3 + 1)))]) [2, 1, 0] rfl ?_
      exact hrc77 _ _ _ _ E
    · rw [if_neg c3] at E
      refine go_aload_n (j := 0) (n := 143) rfl rfl dX12_beside_142 rfl ?_
      refine go_iload (j := 3) (n := 145) rfl dX12_beside_143 rfl ?_
      replace E := Option.bind_eq_some_iff.mp E; obtain ⟨a17, ea17, E⟩ := E
      obtain ⟨fa17, ga17⟩ := xrc_some ea17
      replace E := xb_some E; obtain ⟨v15, h16, ev15, E⟩ := E
      refine go_callV (y := yX12_leansOf) (n := 148) (st := []) (as := [vi l4]) (stk9 := [vi v15]) (OX12_leansOf ev15) yw_X12_leansOf ci_12 ga17 wml_RX12_259 wim_X12_leansOf wse_X12_leansOf (Nat.le_of_ble_eq_true rfl) rfl ⟨Nat.le_of_ble_eq_true rfl, Nat.le_of_ble_eq_true rfl⟩ (Nat.le_of_ble_eq_true rfl) dX12_beside_145 rfl (by cases fa17; rfl) rfl ?_
      refine go_iload (j := 6) (n := 150) rfl dX12_beside_148 rfl ?_
      refine go_ishr (n := 151) dX12_beside_150 rfl ?_
      refine go_iconst (z := 1) (n := 152) ⟨by decide, by decide⟩ dX12_beside_151 rfl ?_
      refine go_iand (n := 153) dX12_beside_152 rfl ?_
      refine go_iconst (z := 1) (n := 154) ⟨by decide, by decide⟩ dX12_beside_153 rfl ?_
      refine go_icmp_ne (tgt := 172) (n := 157) dX12_beside_154 rfl rfl (fun c18 => ?_) (fun c18 => ?_)
      · rw [if_neg c18] at E
        refine go_iload (j := 5) (n := 174) rfl dX12_beside_172 rfl ?_
        refine go_pick (lv' := [(0, vr (some l0)), (2, vi l2), (3, vi l3), (4, vi l4), (5, vi l5), (7, vi l7)]) [0, 1, 2, 3, 4, 6] rfl ?_
        exact SX12_beside_L174   _ _ hrc77 hrc130 _ _ _ _ _ _ _ _ E
      · rw [if_pos c18] at E
        refine go_iload (j := 5) (n := 159) rfl dX12_beside_157 rfl ?_
        refine go_aload_n (j := 0) (n := 160) rfl rfl dX12_beside_159 rfl ?_
        replace E := Option.bind_eq_some_iff.mp E; obtain ⟨v19, ev19, E⟩ := E
        refine go_getP (n := 163) ev19 fl_RX12_51 rfl dX12_beside_160 rfl ?_
        refine go_iload (j := 6) (n := 165) rfl dX12_beside_163 rfl ?_
        replace E := Option.bind_eq_some_iff.mp E; obtain ⟨v20, ev20, E⟩ := E
        refine go_iaload (n := 166) ev20 dX12_beside_165 rfl ?_
        refine go_mmax (n := 169) wml_RX12_345 jm_max_i (Nat.le_of_ble_eq_true rfl) (Nat.le_of_ble_eq_true rfl) dX12_beside_166 rfl ?_
        refine go_goto (tgt := 174) dX12_beside_169 rfl ?_
        refine go_pick (lv' := [(0, vr (some l0)), (2, vi l2), (3, vi l3), (4, vi l4), (5, vi l5), (7, vi l7)]) [0, 1, 2, 3, 4, 6] rfl ?_
        exact SX12_beside_L174   _ _ hrc77 hrc130 _ _ _ _ _ _ _ _ E
noncomputable def X12_beside_L116 (F : Nat)  (rc77 : Nat → Int → Int → HP → Option (Int × HP)) (l0 : Nat) (l2 : Int) (l3 : Int) (l4 : Int) (s0 : Int) (h : HP) : Option (Int × HP) :=
  (xgP h (some l0) 12 31 30).bind fun v1 =>
  (xaI h v1 100 s0).bind fun v2 =>
  X12_beside_L130 F rc77 F l0 l2 l3 l4 s0 v2 0 h
set_option maxRecDepth 100000 in
theorem SX12_beside_L116 {K : Ctx} {F : Nat} {r : Int} {hf : HP}   (rc77 : Nat → Int → Int → HP → Option (Int × HP)) (hrc77 : ∀ l0 l2 l3 h, rc77 l0 l2 l3 h = some (r, hf) → Go K MX12_beside (QM K (some (vi r)) hf) hf 77 [(0, vr (some l0)), (2, vi l2), (3, vi l3)] [] h) (l0 : Nat) (l2 : Int) (l3 : Int) (l4 : Int) (s0 : Int) (h : HP) (E : X12_beside_L116 F  rc77 l0 l2 l3 l4 s0 h = some (r, hf)) : Go K MX12_beside (QM K (some (vi r)) hf) hf 116 [(0, vr (some l0)), (2, vi l2), (3, vi l3), (4, vi l4)] [vi s0] h := by
  unfold X12_beside_L116 at E
  refine go_istore (n := 118) (lv' := [(5, vi s0), (0, vr (some l0)), (2, vi l2), (3, vi l3), (4, vi l4)]) dX12_beside_116 rfl (Nat.le_of_ble_eq_true rfl) rfl ?_
  refine go_aload_n (j := 1) (n := 119) rfl rfl dX12_beside_118 rfl ?_
  replace E := Option.bind_eq_some_iff.mp E; obtain ⟨v1, ev1, E⟩ := E
  refine go_getP (n := 122) ev1 fl_RX12_54 rfl dX12_beside_119 rfl ?_
  refine go_iload (j := 0) (n := 124) rfl dX12_beside_122 rfl ?_
  replace E := Option.bind_eq_some_iff.mp E; obtain ⟨v2, ev2, E⟩ := E
  refine go_iaload (n := 125) ev2 dX12_beside_124 rfl ?_
  refine go_istore (n := 127) (lv' := [(6, vi v2), (5, vi s0), (0, vr (some l0)), (2, vi l2), (3, vi l3), (4, vi l4)]) dX12_beside_125 rfl (Nat.le_of_ble_eq_true rfl) rfl ?_
  refine go_iconst (z := 0) (n := 128) ⟨by decide, by decide⟩ dX12_beside_127 rfl ?_
  refine go_istore (n := 130) (lv' := [(7, vi 0), (6, vi v2), (5, vi s0), (0, vr (some l0)), (2, vi l2), (3, vi l3), (4, vi l4)]) dX12_beside_128 rfl (Nat.le_of_ble_eq_true rfl) rfl ?_
  refine go_pick (lv' := [(0, vr (some l0)), (2, vi l2), (3, vi l3), (4, vi l4), (5, vi s0), (6, vi v2), (7, vi 0)]) [3, 4, 5, 6, 2, 1, 0] rfl ?_
  exact SX12_beside_L130   _ hrc77 F _ _ _ _ _ _ _ _ E
noncomputable def X12_beside_L77 (F : Nat)   (k : Nat) : Nat → Int → Int → HP → Option (Int × HP) :=
  Nat.rec (motive := fun _ => Nat → Int → Int → HP → Option (Int × HP)) (fun _ _ _ _ => none) (fun _ rc77 l0 l2 l3 h =>
    (xgP h (some l0) 12 31 1).bind fun v1 =>
    (xaI h v1 100 8).bind fun v2 =>
    if v2 ≤ l3 then
      some (l2, h)
    else
      (xgP h (some l0) 12 31 16).bind fun v4 =>
      (xaI h v4 100 l3).bind fun v5 =>
      (xgP h (some l0) 12 31 30).bind fun v6 =>
      (xaI h v6 100 1).bind fun v7 =>
      (xgP h (some l0) 12 31 30).bind fun v8 =>
      (xaI h v8 100 0).bind fun v9 =>
      X12_beside_L116 F rc77 l0 l2 l3 v5 (if v9 ≤ v7 then 0 else 1) h) k
theorem X12_beside_L77_s (F : Nat)   (k : Nat) (l0 : Nat) (l2 : Int) (l3 : Int)  (h : HP) : X12_beside_L77 F   (k + 1) l0 l2 l3 h =
    (xgP h (some l0) 12 31 1).bind fun v1 =>
    (xaI h v1 100 8).bind fun v2 =>
    if v2 ≤ l3 then
      some (l2, h)
    else
      (xgP h (some l0) 12 31 16).bind fun v4 =>
      (xaI h v4 100 l3).bind fun v5 =>
      (xgP h (some l0) 12 31 30).bind fun v6 =>
      (xaI h v6 100 1).bind fun v7 =>
      (xgP h (some l0) 12 31 30).bind fun v8 =>
      (xaI h v8 100 0).bind fun v9 =>
      X12_beside_L116 F (X12_beside_L77 F k) l0 l2 l3 v5 (if v9 ≤ v7 then 0 else 1) h := rfl
set_option maxRecDepth 100000 in
theorem SX12_beside_L77 {K : Ctx} {F : Nat} {r : Int} {hf : HP}     : ∀ (k : Nat) (l0 : Nat) (l2 : Int) (l3 : Int)  (h : HP), X12_beside_L77 F   k l0 l2 l3 h = some (r, hf) → Go K MX12_beside (QM K (some (vi r)) hf) hf 77 [(0, vr (some l0)), (2, vi l2), (3, vi l3)] [] h := by
  intro k
  induction k with
  | zero => intro l0 l2 l3 h E; exact nomatch E
  | succ k hrc77 =>
    intro l0 l2 l3 h E
    rw [X12_beside_L77_s] at E
    refine go_iload_n (j := 2) (n := 78) rfl rfl dX12_beside_77 rfl ?_
    refine go_aload_n (j := 0) (n := 79) rfl rfl dX12_beside_78 rfl ?_
    replace E := Option.bind_eq_some_iff.mp E; obtain ⟨v1, ev1, E⟩ := E
    refine go_getP (n := 82) ev1 fl_RX12_14 rfl dX12_beside_79 rfl ?_
    refine go_bipush (z := 8) (n := 84) ⟨by decide, by decide⟩ dX12_beside_82 rfl ?_
    replace E := Option.bind_eq_some_iff.mp E; obtain ⟨v2, ev2, E⟩ := E
    refine go_iaload (n := 85) ev2 dX12_beside_84 rfl ?_
    refine go_icmp_ge (tgt := 231) (n := 88) dX12_beside_85 rfl rfl (fun c3 => ?_) (fun c3 => ?_)
    · rw [if_pos c3] at E
      refine go_iload_n (j := 1) (n := 232) rfl rfl dX12_beside_231 rfl ?_
      cases E
      exact go_ireturn rfl dX12_beside_232
    · rw [if_neg c3] at E
      refine go_aload_n (j := 0) (n := 89) rfl rfl dX12_beside_88 rfl ?_
      replace E := Option.bind_eq_some_iff.mp E; obtain ⟨v4, ev4, E⟩ := E
      refine go_getP (n := 92) ev4 fl_RX12_34 rfl dX12_beside_89 rfl ?_
      refine go_iload_n (j := 2) (n := 93) rfl rfl dX12_beside_92 rfl ?_
      replace E := Option.bind_eq_some_iff.mp E; obtain ⟨v5, ev5, E⟩ := E
      refine go_iaload (n := 94) ev5 dX12_beside_93 rfl ?_
      refine go_istore (n := 96) (lv' := [(4, vi v5), (0, vr (some l0)), (2, vi l2), (3, vi l3)]) dX12_beside_94 rfl (Nat.le_of_ble_eq_true rfl) rfl ?_
      refine go_aload_n (j := 1) (n := 97) rfl rfl dX12_beside_96 rfl ?_
      replace E := Option.bind_eq_some_iff.mp E; obtain ⟨v6, ev6, E⟩ := E
      refine go_getP (n := 100) ev6 fl_RX12_54 rfl dX12_beside_97 rfl ?_
      refine go_iconst (z := 1) (n := 101) ⟨by decide, by decide⟩ dX12_beside_100 rfl ?_
      replace E := Option.bind_eq_some_iff.mp E; obtain ⟨v7, ev7, E⟩ := E
      refine go_iaload (n := 102) ev7 dX12_beside_101 rfl ?_
      refine go_aload_n (j := 1) (n := 103) rfl rfl dX12_beside_102 rfl ?_
      replace E := Option.bind_eq_some_iff.mp E; obtain ⟨v8, ev8, E⟩ := E
      refine go_getP (n := 106) ev8 fl_RX12_54 rfl dX12_beside_103 rfl ?_
      refine go_iconst (z := 0) (n := 107) ⟨by decide, by decide⟩ dX12_beside_106 rfl ?_
      replace E := Option.bind_eq_some_iff.mp E; obtain ⟨v9, ev9, E⟩ := E
      refine go_iaload (n := 108) ev9 dX12_beside_107 rfl ?_
      refine go_icmp_ge (tgt := 115) (n := 111) dX12_beside_108 rfl rfl (fun c10 => ?_) (fun c10 => ?_)
      · simp only [if_pos c10] at E
        refine go_iconst (z := 0) (n := 116) ⟨by decide, by decide⟩ dX12_beside_115 rfl ?_
        refine go_pick (lv' := [(0, vr (some l0)), (2, vi l2), (3, vi l3), (4, vi v5)]) [1, 2, 3, 0] rfl ?_
        exact SX12_beside_L116   _ hrc77 _ _ _ _ _ _ E
      · simp only [if_neg c10] at E
        refine go_iconst (z := 1) (n := 112) ⟨by decide, by decide⟩ dX12_beside_111 rfl ?_
        refine go_goto (tgt := 116) dX12_beside_112 rfl ?_
        refine go_pick (lv' := [(0, vr (some l0)), (2, vi l2), (3, vi l3), (4, vi v5)]) [1, 2, 3, 0] rfl ?_
        exact SX12_beside_L116   _ hrc77 _ _ _ _ _ _ E
noncomputable def X12_beside_L13 (F : Nat)   (k : Nat) : Nat → Int → Int → HP → Option (Int × HP) :=
  Nat.rec (motive := fun _ => Nat → Int → Int → HP → Option (Int × HP)) (fun _ _ _ _ => none) (fun _ rc13 l0 l2 l3 h =>
    (xgP h (some l0) 12 31 1).bind fun v1 =>
    (xaI h v1 100 8).bind fun v2 =>
    if v2 ≤ l3 then
      some (l2, h)
    else
      (xrc h (some l0) 12 31).bind fun a6 =>
      xb (X12_its F a6 l3 2 h) fun v4 h5 =>
      if v4 = 0 then
        some ((-1), h5)
      else
        (xrc h5 (some l0) 12 31).bind fun a10 =>
        xb (X12_its F a10 l3 2 h5) fun v8 h9 =>
        rc13 l0 (w32 (l2 + v8)) (w32 (l3 + 1)) h9) k
theorem X12_beside_L13_s (F : Nat)   (k : Nat) (l0 : Nat) (l2 : Int) (l3 : Int)  (h : HP) : X12_beside_L13 F   (k + 1) l0 l2 l3 h =
    (xgP h (some l0) 12 31 1).bind fun v1 =>
    (xaI h v1 100 8).bind fun v2 =>
    if v2 ≤ l3 then
      some (l2, h)
    else
      (xrc h (some l0) 12 31).bind fun a6 =>
      xb (X12_its F a6 l3 2 h) fun v4 h5 =>
      if v4 = 0 then
        some ((-1), h5)
      else
        (xrc h5 (some l0) 12 31).bind fun a10 =>
        xb (X12_its F a10 l3 2 h5) fun v8 h9 =>
        (X12_beside_L13 F k) l0 (w32 (l2 + v8)) (w32 (l3 + 1)) h9 := rfl
set_option maxRecDepth 100000 in
theorem SX12_beside_L13 {K : Ctx} {F : Nat} {r : Int} {hf : HP}     : ∀ (k : Nat) (l0 : Nat) (l2 : Int) (l3 : Int)  (h : HP), X12_beside_L13 F   k l0 l2 l3 h = some (r, hf) → Go K MX12_beside (QM K (some (vi r)) hf) hf 13 [(0, vr (some l0)), (2, vi l2), (3, vi l3)] [] h := by
  intro k
  induction k with
  | zero => intro l0 l2 l3 h E; exact nomatch E
  | succ k hrc13 =>
    intro l0 l2 l3 h E
    rw [X12_beside_L13_s] at E
    refine go_iload_n (j := 2) (n := 14) rfl rfl dX12_beside_13 rfl ?_
    refine go_aload_n (j := 0) (n := 15) rfl rfl dX12_beside_14 rfl ?_
    replace E := Option.bind_eq_some_iff.mp E; obtain ⟨v1, ev1, E⟩ := E
    refine go_getP (n := 18) ev1 fl_RX12_14 rfl dX12_beside_15 rfl ?_
    refine go_bipush (z := 8) (n := 20) ⟨by decide, by decide⟩ dX12_beside_18 rfl ?_
    replace E := Option.bind_eq_some_iff.mp E; obtain ⟨v2, ev2, E⟩ := E
    refine go_iaload (n := 21) ev2 dX12_beside_20 rfl ?_
    refine go_icmp_ge (tgt := 50) (n := 24) dX12_beside_21 rfl rfl (fun c3 => ?_) (fun c3 => ?_)
    · rw [if_pos c3] at E
      refine go_iload_n (j := 1) (n := 51) rfl rfl dX12_beside_50 rfl ?_
      cases E
      exact go_ireturn rfl dX12_beside_51
    · rw [if_neg c3] at E
      refine go_aload_n (j := 0) (n := 25) rfl rfl dX12_beside_24 rfl ?_
      refine go_iload_n (j := 2) (n := 26) rfl rfl dX12_beside_25 rfl ?_
      refine go_iconst (z := 2) (n := 27) ⟨by decide, by decide⟩ dX12_beside_26 rfl ?_
      replace E := Option.bind_eq_some_iff.mp E; obtain ⟨a6, ea6, E⟩ := E
      obtain ⟨fa6, ga6⟩ := xrc_some ea6
      replace E := xb_some E; obtain ⟨v4, h5, ev4, E⟩ := E
      refine go_callV (y := yX12_its) (n := 30) (st := []) (as := [vi l3, vi 2]) (stk9 := [vi v4]) (OX12_its ev4) yw_X12_its ci_12 ga6 wml_RX12_250 wim_X12_its wse_X12_its (Nat.le_of_ble_eq_true rfl) rfl ⟨Nat.le_of_ble_eq_true rfl, Nat.le_of_ble_eq_true rfl⟩ (Nat.le_of_ble_eq_true rfl) dX12_beside_27 rfl (by cases fa6; rfl) rfl ?_
      refine go_if_ne (tgt := 35) (n := 33) dX12_beside_30 rfl rfl (fun c7 => ?_) (fun c7 => ?_)
      · rw [if_neg c7] at E
        refine go_iload_n (j := 1) (n := 36) rfl rfl dX12_beside_35 rfl ?_
        refine go_aload_n (j := 0) (n := 37) rfl rfl dX12_beside_36 rfl ?_
        refine go_iload_n (j := 2) (n := 38) rfl rfl dX12_beside_37 rfl ?_
        refine go_iconst (z := 2) (n := 39) ⟨by decide, by decide⟩ dX12_beside_38 rfl ?_
        replace E := Option.bind_eq_some_iff.mp E; obtain ⟨a10, ea10, E⟩ := E
        obtain ⟨fa10, ga10⟩ := xrc_some ea10
        replace E := xb_some E; obtain ⟨v8, h9, ev8, E⟩ := E
        refine go_callV (y := yX12_its) (n := 42) (st := [vi l2]) (as := [vi l3, vi 2]) (stk9 := [vi v8, vi l2]) (OX12_its ev8) yw_X12_its ci_12 ga10 wml_RX12_250 wim_X12_its wse_X12_its (Nat.le_of_ble_eq_true rfl) rfl ⟨Nat.le_of_ble_eq_true rfl, Nat.le_of_ble_eq_true rfl⟩ (Nat.le_of_ble_eq_true rfl) dX12_beside_39 rfl (by cases fa10; rfl) rfl ?_
        refine go_iadd (n := 43) dX12_beside_42 rfl ?_
        refine go_istore_n (n := 44) (lv' := [(2, vi (w32 (l2 + v8))), (0, vr (some l0)), (3, vi l3)]) rfl dX12_beside_43 rfl (Nat.le_of_ble_eq_true rfl) rfl ?_
        refine go_iinc (j := 2) (n := 47) (lv' := [(3, vi (w32 (l3 + 1))), (2, vi (w32 (l2 + v8))), (0, vr (some l0))]) rfl dX12_beside_44 rfl (Nat.le_of_ble_eq_true rfl) rfl ?_
        refine go_goto (tgt := 13) dX12_beside_47 rfl ?_
        refine go_pick (lv' := [(0, vr (some l0)), (2, vi (w32 (l2 + v8))), (3, vi (w32 (l3 + 1)))]) [2, 1, 0] rfl ?_
        exact hrc13 _ _ _ _ E
      · rw [if_pos c7] at E
        refine go_iconst (z := (-1)) (n := 34) ⟨by decide, by decide⟩ dX12_beside_33 rfl ?_
        cases E
        exact go_ireturn rfl dX12_beside_34
noncomputable def X12_beside (F : Nat)   (l0 : Nat) (l1 : Int)  (h : HP) : Option (Int × HP) :=
  (xpI h (some l0) 12 31 0 0).bind fun h1 =>
  if l1 = 0 then
    X12_beside_L13 F F l0 0 0 h1
  else
    (xrc h1 (some l0) 12 31).bind fun a5 =>
    xb (X12_orders F a5 h1) fun v3 h4 =>
    if v3 = 0 then
      some ((-1), h4)
    else
      (xgP h4 (some l0) 12 31 30).bind fun v7 =>
      (xsI h4 v7 0 0).bind fun h8 =>
      (xgP h8 (some l0) 12 31 30).bind fun v9 =>
      (xsI h8 v9 1 0).bind fun h10 =>
      X12_beside_L77 F F l0 0 0 h10
set_option maxRecDepth 100000 in
theorem SX12_beside {K : Ctx} {F : Nat} {r : Int} {hf : HP}     (l0 : Nat) (l1 : Int)  (h : HP) (E : X12_beside F   l0 l1 h = some (r, hf)) : Go K MX12_beside (QM K (some (vi r)) hf) hf 0 [(0, vr (some l0)), (1, vi l1)] [] h := by
  unfold X12_beside at E
  refine go_aload_n (j := 0) (n := 1) rfl rfl dX12_beside_0 rfl ?_
  refine go_iconst (z := 0) (n := 2) ⟨by decide, by decide⟩ dX12_beside_1 rfl ?_
  replace E := Option.bind_eq_some_iff.mp E; obtain ⟨h1, eh1, E⟩ := E
  refine go_putI (n := 5) eh1 fl_RX12_3 rfl dX12_beside_2 rfl ?_
  refine go_iconst (z := 0) (n := 6) ⟨by decide, by decide⟩ dX12_beside_5 rfl ?_
  refine go_istore_n (n := 7) (lv' := [(2, vi 0), (0, vr (some l0)), (1, vi l1)]) rfl dX12_beside_6 rfl (Nat.le_of_ble_eq_true rfl) rfl ?_
  refine go_iload_n (j := 2) (n := 8) rfl rfl dX12_beside_7 rfl ?_
  refine go_if_ne (tgt := 52) (n := 11) dX12_beside_8 rfl rfl (fun c2 => ?_) (fun c2 => ?_)
  · rw [if_neg c2] at E
    refine go_aload_n (j := 1) (n := 53) rfl rfl dX12_beside_52 rfl ?_
    replace E := Option.bind_eq_some_iff.mp E; obtain ⟨a5, ea5, E⟩ := E
    obtain ⟨fa5, ga5⟩ := xrc_some ea5
    replace E := xb_some E; obtain ⟨v3, h4, ev3, E⟩ := E
    refine go_callV (y := yX12_orders) (n := 56) (st := []) (as := []) (stk9 := [vi v3]) (OX12_orders ev3) yw_X12_orders ci_12 ga5 wml_RX12_263 wim_X12_orders wse_X12_orders (Nat.le_of_ble_eq_true rfl) rfl ⟨Nat.le_of_ble_eq_true rfl, Nat.le_of_ble_eq_true rfl⟩ (Nat.le_of_ble_eq_true rfl) dX12_beside_53 rfl (by cases fa5; rfl) rfl ?_
    refine go_if_ne (tgt := 61) (n := 59) dX12_beside_56 rfl rfl (fun c6 => ?_) (fun c6 => ?_)
    · rw [if_neg c6] at E
      refine go_aload_n (j := 1) (n := 62) rfl rfl dX12_beside_61 rfl ?_
      replace E := Option.bind_eq_some_iff.mp E; obtain ⟨v7, ev7, E⟩ := E
      refine go_getP (n := 65) ev7 fl_RX12_54 rfl dX12_beside_62 rfl ?_
      refine go_iconst (z := 0) (n := 66) ⟨by decide, by decide⟩ dX12_beside_65 rfl ?_
      refine go_iconst (z := 0) (n := 67) ⟨by decide, by decide⟩ dX12_beside_66 rfl ?_
      replace E := Option.bind_eq_some_iff.mp E; obtain ⟨h8, eh8, E⟩ := E
      refine go_iastore (n := 68) eh8 dX12_beside_67 rfl ?_
      refine go_aload_n (j := 1) (n := 69) rfl rfl dX12_beside_68 rfl ?_
      replace E := Option.bind_eq_some_iff.mp E; obtain ⟨v9, ev9, E⟩ := E
      refine go_getP (n := 72) ev9 fl_RX12_54 rfl dX12_beside_69 rfl ?_
      refine go_iconst (z := 1) (n := 73) ⟨by decide, by decide⟩ dX12_beside_72 rfl ?_
      refine go_iconst (z := 0) (n := 74) ⟨by decide, by decide⟩ dX12_beside_73 rfl ?_
      replace E := Option.bind_eq_some_iff.mp E; obtain ⟨h10, eh10, E⟩ := E
      refine go_iastore (n := 75) eh10 dX12_beside_74 rfl ?_
      refine go_iconst (z := 0) (n := 76) ⟨by decide, by decide⟩ dX12_beside_75 rfl ?_
      refine go_istore_n (n := 77) (lv' := [(3, vi 0), (2, vi 0), (0, vr (some l0)), (1, vi l1)]) rfl dX12_beside_76 rfl (Nat.le_of_ble_eq_true rfl) rfl ?_
      refine go_pick (lv' := [(0, vr (some l0)), (2, vi 0), (3, vi 0)]) [2, 1, 0] rfl ?_
      exact SX12_beside_L77     F _ _ _ _ E
    · rw [if_pos c6] at E
      refine go_iconst (z := (-1)) (n := 60) ⟨by decide, by decide⟩ dX12_beside_59 rfl ?_
      cases E
      exact go_ireturn rfl dX12_beside_60
  · rw [if_pos c2] at E
    refine go_iconst (z := 0) (n := 12) ⟨by decide, by decide⟩ dX12_beside_11 rfl ?_
    refine go_istore_n (n := 13) (lv' := [(3, vi 0), (2, vi 0), (0, vr (some l0)), (1, vi l1)]) rfl dX12_beside_12 rfl (Nat.le_of_ble_eq_true rfl) rfl ?_
    refine go_pick (lv' := [(0, vr (some l0)), (2, vi 0), (3, vi 0)]) [2, 1, 0] rfl ?_
    exact SX12_beside_L13     F _ _ _ _ E
theorem OX12_beside {F : Nat} {l0 : Nat} {l1 : Int} {h hf : HP} {r : Int} (e : X12_beside F l0 l1 h = some (r, hf)) : Ok MX12_beside [vr (some l0), vi l1] (some (vi r)) h hf := fun K _ _ _ => SX12_beside l0 l1 h e
