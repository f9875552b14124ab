/-! the methods, decompiled: written by dec.py -/
abbrev MX0_partByShops : MI := (RX0, cX0_partByShops, 4, none, 4, none, "partByShops")
noncomputable def X0_partByShops_L16 (F : Nat)  (rc2 : Nat → Option Nat → Int → HP → Option (Unit × HP)) (k : Nat) : Nat → Option Nat → Int → Int → HP → Option (Unit × HP) :=
  Nat.rec (motive := fun _ => Nat → Option Nat → Int → Int → HP → Option (Unit × HP)) (fun _ _ _ _ _ => none) (fun _ rc16 l0 l1 l2 l3 h =>
    if 4 ≤ l3 then
      rc2 l0 l1 (w32 (l2 + 1)) h
    else
      (xgP h (some l0) 0 10 8).bind fun v2 =>
      (xaJ h v2 l2).bind fun v3 =>
      xb (X0_wantedBy F l1 l2 l3 h) fun v4 h5 =>
      (xgP h5 (some l0) 0 10 2).bind fun v6 =>
      (xaI h5 v6 100 l3).bind fun v7 =>
      (xsJ h5 v2 l2 (w64 (v3 + (w64 (v4 * v7))))).bind fun h8 =>
      rc16 l0 l1 l2 (w32 (l3 + 1)) h8) k
theorem X0_partByShops_L16_s (F : Nat)  (rc2 : Nat → Option Nat → Int → HP → Option (Unit × HP)) (k : Nat) (l0 : Nat) (l1 : Option Nat) (l2 : Int) (l3 : Int)  (h : HP) : X0_partByShops_L16 F  rc2 (k + 1) l0 l1 l2 l3 h =
    if 4 ≤ l3 then
      rc2 l0 l1 (w32 (l2 + 1)) h
    else
      (xgP h (some l0) 0 10 8).bind fun v2 =>
      (xaJ h v2 l2).bind fun v3 =>
      xb (X0_wantedBy F l1 l2 l3 h) fun v4 h5 =>
      (xgP h5 (some l0) 0 10 2).bind fun v6 =>
      (xaI h5 v6 100 l3).bind fun v7 =>
      (xsJ h5 v2 l2 (w64 (v3 + (w64 (v4 * v7))))).bind fun h8 =>
      (X0_partByShops_L16 F rc2 k) l0 l1 l2 (w32 (l3 + 1)) h8 := rfl
set_option maxRecDepth 100000 in
theorem SX0_partByShops_L16 {K : Ctx} {F : Nat} {r : Unit} {hf : HP}   (rc2 : Nat → Option Nat → Int → HP → Option (Unit × HP)) (hrc2 : ∀ l0 l1 l2 h, rc2 l0 l1 l2 h = some (r, hf) → Go K MX0_partByShops (QM K none hf) hf 2 [(0, vr (some l0)), (1, vr l1), (2, vi l2)] [] h) : ∀ (k : Nat) (l0 : Nat) (l1 : Option Nat) (l2 : Int) (l3 : Int)  (h : HP), X0_partByShops_L16 F  rc2 k l0 l1 l2 l3 h = some (r, hf) → Go K MX0_partByShops (QM K none hf) hf 16 [(0, vr (some l0)), (1, vr l1), (2, vi l2), (3, vi l3)] [] h := by
  intro k
  induction k with
  | zero => intro l0 l1 l2 l3 h E; exact nomatch E
  | succ k hrc16 =>
    intro l0 l1 l2 l3 h E
    rw [X0_partByShops_L16_s] at E
    refine go_iload_n (j := 3) (n := 17) rfl rfl dX0_partByShops_16 rfl ?_
    refine go_iconst (z := 4) (n := 18) ⟨by decide, by decide⟩ dX0_partByShops_17 rfl ?_
    refine go_icmp_ge (tgt := 50) (n := 21) dX0_partByShops_18 rfl rfl (fun c1 => ?_) (fun c1 => ?_)
    · rw [if_pos c1] at E
      refine go_iinc (j := 2) (n := 53) (lv' := [(2, vi (w32 (l2 + 1))), (0, vr (some l0)), (1, vr l1), (3, vi l3)]) rfl dX0_partByShops_50 rfl (Nat.le_of_ble_eq_true rfl) rfl ?_
      refine go_goto (tgt := 2) dX0_partByShops_53 rfl ?_
      refine go_pick (lv' := [(0, vr (some l0)), (1, vr l1), (2, vi (w32 (l2 + 1)))]) [1, 2, 0] rfl ?_
      exact hrc2 _ _ _ _ E
    · rw [if_neg c1] at E
      refine go_aload_n (j := 0) (n := 22) rfl rfl dX0_partByShops_21 rfl ?_
      replace E := Option.bind_eq_some_iff.mp E; obtain ⟨v2, ev2, E⟩ := E
      refine go_getP (n := 25) ev2 fl_RX0_30 rfl dX0_partByShops_22 rfl ?_
      refine go_iload_n (j := 2) (n := 26) rfl rfl dX0_partByShops_25 rfl ?_
      refine go_dup2 (n := 27) rfl rfl dX0_partByShops_26 rfl ?_
      replace E := Option.bind_eq_some_iff.mp E; obtain ⟨v3, ev3, E⟩ := E
      refine go_laload (n := 28) ev3 dX0_partByShops_27 rfl ?_
      refine go_aload_n (j := 1) (n := 29) rfl rfl dX0_partByShops_28 rfl ?_
      refine go_iload_n (j := 2) (n := 30) rfl rfl dX0_partByShops_29 rfl ?_
      refine go_iload_n (j := 3) (n := 31) rfl rfl dX0_partByShops_30 rfl ?_
      replace E := xb_some E; obtain ⟨v4, h5, ev4, E⟩ := E
      refine go_callS (y := yX0_wantedBy) (n := 34) (st := [vl v3, vi l2, vr v2]) (as := [vr l1, vi l2, vi l3]) (stk9 := [vl v4, vl v3, vi l2, vr v2]) (OX0_wantedBy ev4) yw_X0_wantedBy wml_RX0_62 wst_X0_wantedBy (Nat.le_of_ble_eq_true rfl) rfl ⟨Nat.le_of_ble_eq_true rfl, Nat.le_of_ble_eq_true rfl⟩ (Nat.le_of_ble_eq_true rfl) dX0_partByShops_31 rfl rfl rfl ?_
      refine go_aload_n (j := 0) (n := 35) rfl rfl dX0_partByShops_34 rfl ?_
      replace E := Option.bind_eq_some_iff.mp E; obtain ⟨v6, ev6, E⟩ := E
      refine go_getP (n := 38) ev6 fl_RX0_18 rfl dX0_partByShops_35 rfl ?_
      refine go_iload_n (j := 3) (n := 39) rfl rfl dX0_partByShops_38 rfl ?_
      replace E := Option.bind_eq_some_iff.mp E; obtain ⟨v7, ev7, E⟩ := E
      refine go_iaload (n := 40) ev7 dX0_partByShops_39 rfl ?_
      refine go_i2l (n := 41) dX0_partByShops_40 rfl ?_
      refine go_lmul (n := 42) dX0_partByShops_41 rfl ?_
      refine go_ladd (n := 43) dX0_partByShops_42 rfl ?_
      replace E := Option.bind_eq_some_iff.mp E; obtain ⟨h8, eh8, E⟩ := E
      refine go_lastore (n := 44) eh8 dX0_partByShops_43 rfl ?_
      refine go_iinc (j := 3) (n := 47) (lv' := [(3, vi (w32 (l3 + 1))), (0, vr (some l0)), (1, vr l1), (2, vi l2)]) rfl dX0_partByShops_44 rfl (Nat.le_of_ble_eq_true rfl) rfl ?_
      refine go_goto (tgt := 16) dX0_partByShops_47 rfl ?_
      refine go_pick (lv' := [(0, vr (some l0)), (1, vr l1), (2, vi l2), (3, vi (w32 (l3 + 1)))]) [1, 2, 3, 0] rfl ?_
      exact hrc16 _ _ _ _ _ E
noncomputable def X0_partByShops_L2 (F : Nat)   (k : Nat) : Nat → Option Nat → Int → HP → Option (Unit × HP) :=
  Nat.rec (motive := fun _ => Nat → Option Nat → Int → HP → Option (Unit × HP)) (fun _ _ _ _ => none) (fun _ rc2 l0 l1 l2 h =>
    if 4 ≤ l2 then
      some ((), h)
    else
      (xgP h (some l0) 0 10 8).bind fun v2 =>
      (xsJ h v2 l2 0).bind fun h3 =>
      X0_partByShops_L16 F rc2 F l0 l1 l2 0 h3) k
theorem X0_partByShops_L2_s (F : Nat)   (k : Nat) (l0 : Nat) (l1 : Option Nat) (l2 : Int)  (h : HP) : X0_partByShops_L2 F   (k + 1) l0 l1 l2 h =
    if 4 ≤ l2 then
      some ((), h)
    else
      (xgP h (some l0) 0 10 8).bind fun v2 =>
      (xsJ h v2 l2 0).bind fun h3 =>
      X0_partByShops_L16 F (X0_partByShops_L2 F k) F l0 l1 l2 0 h3 := rfl
set_option maxRecDepth 100000 in
theorem SX0_partByShops_L2 {K : Ctx} {F : Nat} {r : Unit} {hf : HP}     : ∀ (k : Nat) (l0 : Nat) (l1 : Option Nat) (l2 : Int)  (h : HP), X0_partByShops_L2 F   k l0 l1 l2 h = some (r, hf) → Go K MX0_partByShops (QM K none hf) hf 2 [(0, vr (some l0)), (1, vr l1), (2, vi l2)] [] h := by
  intro k
  induction k with
  | zero => intro l0 l1 l2 h E; exact nomatch E
  | succ k hrc2 =>
    intro l0 l1 l2 h E
    rw [X0_partByShops_L2_s] at E
    refine go_iload_n (j := 2) (n := 3) rfl rfl dX0_partByShops_2 rfl ?_
    refine go_iconst (z := 4) (n := 4) ⟨by decide, by decide⟩ dX0_partByShops_3 rfl ?_
    refine go_icmp_ge (tgt := 56) (n := 7) dX0_partByShops_4 rfl rfl (fun c1 => ?_) (fun c1 => ?_)
    · rw [if_pos c1] at E
      cases E
      exact go_return rfl dX0_partByShops_56
    · rw [if_neg c1] at E
      refine go_aload_n (j := 0) (n := 8) rfl rfl dX0_partByShops_7 rfl ?_
      replace E := Option.bind_eq_some_iff.mp E; obtain ⟨v2, ev2, E⟩ := E
      refine go_getP (n := 11) ev2 fl_RX0_30 rfl dX0_partByShops_8 rfl ?_
      refine go_iload_n (j := 2) (n := 12) rfl rfl dX0_partByShops_11 rfl ?_
      refine go_lconst (w := 0) (n := 13) rfl dX0_partByShops_12 rfl ?_
      replace E := Option.bind_eq_some_iff.mp E; obtain ⟨h3, eh3, E⟩ := E
      refine go_lastore (n := 14) eh3 dX0_partByShops_13 rfl ?_
      refine go_iconst (z := 0) (n := 15) ⟨by decide, by decide⟩ dX0_partByShops_14 rfl ?_
      refine go_istore_n (n := 16) (lv' := [(3, vi 0), (0, vr (some l0)), (1, vr l1), (2, vi l2)]) rfl dX0_partByShops_15 rfl (Nat.le_of_ble_eq_true rfl) rfl ?_
      refine go_pick (lv' := [(0, vr (some l0)), (1, vr l1), (2, vi l2), (3, vi 0)]) [1, 2, 3, 0] rfl ?_
      exact SX0_partByShops_L16   _ hrc2 F _ _ _ _ _ E
noncomputable def X0_partByShops (F : Nat)   (l0 : Nat) (l1 : Option Nat)  (h : HP) : Option (Unit × HP) :=
  X0_partByShops_L2 F F l0 l1 0 h
set_option maxRecDepth 100000 in
theorem SX0_partByShops {K : Ctx} {F : Nat} {r : Unit} {hf : HP}     (l0 : Nat) (l1 : Option Nat)  (h : HP) (E : X0_partByShops F   l0 l1 h = some (r, hf)) : Go K MX0_partByShops (QM K none hf) hf 0 [(0, vr (some l0)), (1, vr l1)] [] h := by
  unfold X0_partByShops at E
  refine go_iconst (z := 0) (n := 1) ⟨by decide, by decide⟩ dX0_partByShops_0 rfl ?_
  refine go_istore_n (n := 2) (lv' := [(2, vi 0), (0, vr (some l0)), (1, vr l1)]) rfl dX0_partByShops_1 rfl (Nat.le_of_ble_eq_true rfl) rfl ?_
  refine go_pick (lv' := [(0, vr (some l0)), (1, vr l1), (2, vi 0)]) [1, 2, 0] rfl ?_
  exact SX0_partByShops_L2     F _ _ _ _ E
theorem OX0_partByShops {F : Nat} {l0 : Nat} {l1 : Option Nat} {h hf : HP} {r : Unit} (e : X0_partByShops F l0 l1 h = some (r, hf)) : Ok MX0_partByShops [vr (some l0), vr l1] none h hf := fun K _ _ _ => SX0_partByShops l0 l1 h e
abbrev MJ7_fill_d0a16 : MI := (RJ7, cJ7_fill_d0a16, 5, none, 2, none, "fill")
noncomputable def XJ7_fill_d0a16_L6 (F : Nat)   (k : Nat) : Option Nat → Int → Int → Int → HP → Option (Unit × HP) :=
  Nat.rec (motive := fun _ => Option Nat → Int → Int → Int → HP → Option (Unit × HP)) (fun _ _ _ _ _ => none) (fun _ rc6 l0 l1 l3 l4 h =>
    if l4 ≤ l3 then
      some ((), h)
    else
      (xsJ h l0 l3 l1).bind fun h2 =>
      rc6 l0 l1 (w32 (l3 + 1)) l4 h2) k
theorem XJ7_fill_d0a16_L6_s (F : Nat)   (k : Nat) (l0 : Option Nat) (l1 : Int) (l3 : Int) (l4 : Int)  (h : HP) : XJ7_fill_d0a16_L6 F   (k + 1) l0 l1 l3 l4 h =
    if l4 ≤ l3 then
      some ((), h)
    else
      (xsJ h l0 l3 l1).bind fun h2 =>
      (XJ7_fill_d0a16_L6 F k) l0 l1 (w32 (l3 + 1)) l4 h2 := rfl
set_option maxRecDepth 100000 in
theorem SXJ7_fill_d0a16_L6 {K : Ctx} {F : Nat} {r : Unit} {hf : HP}     : ∀ (k : Nat) (l0 : Option Nat) (l1 : Int) (l3 : Int) (l4 : Int)  (h : HP), XJ7_fill_d0a16_L6 F   k l0 l1 l3 l4 h = some (r, hf) → Go K MJ7_fill_d0a16 (QM K none hf) hf 6 [(0, vr l0), (1, vl l1), (3, vi l3), (4, vi l4)] [] h := by
  intro k
  induction k with
  | zero => intro l0 l1 l3 l4 h E; exact nomatch E
  | succ k hrc6 =>
    intro l0 l1 l3 l4 h E
    rw [XJ7_fill_d0a16_L6_s] at E
    refine go_iload_n (j := 2) (n := 7) rfl rfl dJ7_fill_d0a16_6 rfl ?_
    refine go_iload (j := 3) (n := 9) rfl dJ7_fill_d0a16_7 rfl ?_
    refine go_icmp_ge (tgt := 22) (n := 12) dJ7_fill_d0a16_9 rfl rfl (fun c1 => ?_) (fun c1 => ?_)
    · rw [if_pos c1] at E
      cases E
      exact go_return rfl dJ7_fill_d0a16_22
    · rw [if_neg c1] at E
      refine go_aload_n (j := 0) (n := 13) rfl rfl dJ7_fill_d0a16_12 rfl ?_
      refine go_iload_n (j := 2) (n := 14) rfl rfl dJ7_fill_d0a16_13 rfl ?_
      refine go_lload_n (j := 1) (n := 15) rfl rfl dJ7_fill_d0a16_14 rfl ?_
      replace E := Option.bind_eq_some_iff.mp E; obtain ⟨h2, eh2, E⟩ := E
      refine go_lastore (n := 16) eh2 dJ7_fill_d0a16_15 rfl ?_
      refine go_iinc (j := 2) (n := 19) (lv' := [(3, vi (w32 (l3 + 1))), (0, vr l0), (1, vl l1), (4, vi l4)]) rfl dJ7_fill_d0a16_16 rfl (Nat.le_of_ble_eq_true rfl) rfl ?_
      refine go_goto (tgt := 6) dJ7_fill_d0a16_19 rfl ?_
      refine go_pick (lv' := [(0, vr l0), (1, vl l1), (3, vi (w32 (l3 + 1))), (4, vi l4)]) [1, 2, 0, 3] rfl ?_
      exact hrc6 _ _ _ _ _ E
noncomputable def XJ7_fill_d0a16 (F : Nat)   (l0 : Option Nat) (l1 : Int)  (h : HP) : Option (Unit × HP) :=
  (xal h l0).bind fun v1 =>
  XJ7_fill_d0a16_L6 F F l0 l1 0 v1 h
set_option maxRecDepth 100000 in
theorem SXJ7_fill_d0a16 {K : Ctx} {F : Nat} {r : Unit} {hf : HP}     (l0 : Option Nat) (l1 : Int)  (h : HP) (E : XJ7_fill_d0a16 F   l0 l1 h = some (r, hf)) : Go K MJ7_fill_d0a16 (QM K none hf) hf 0 [(0, vr l0), (1, vl l1)] [] h := by
  unfold XJ7_fill_d0a16 at E
  refine go_iconst (z := 0) (n := 1) ⟨by decide, by decide⟩ dJ7_fill_d0a16_0 rfl ?_
  refine go_istore_n (n := 2) (lv' := [(3, vi 0), (0, vr l0), (1, vl l1)]) rfl dJ7_fill_d0a16_1 rfl (Nat.le_of_ble_eq_true rfl) rfl ?_
  refine go_aload_n (j := 1) (n := 3) rfl rfl dJ7_fill_d0a16_2 rfl ?_
  replace E := Option.bind_eq_some_iff.mp E; obtain ⟨v1, ev1, E⟩ := E
  refine go_alen (n := 4) ev1 dJ7_fill_d0a16_3 rfl ?_
  refine go_istore (n := 6) (lv' := [(4, vi v1), (3, vi 0), (0, vr l0), (1, vl l1)]) dJ7_fill_d0a16_4 rfl (Nat.le_of_ble_eq_true rfl) rfl ?_
  refine go_pick (lv' := [(0, vr l0), (1, vl l1), (3, vi 0), (4, vi v1)]) [2, 3, 1, 0] rfl ?_
  exact SXJ7_fill_d0a16_L6     F _ _ _ _ _ E
theorem OXJ7_fill_d0a16 {F : Nat} {l0 : Option Nat} {l1 : Int} {h hf : HP} {r : Unit} (e : XJ7_fill_d0a16 F l0 l1 h = some (r, hf)) : Ok MJ7_fill_d0a16 [vr l0, vl l1] none h hf := fun K _ _ _ => SXJ7_fill_d0a16 l0 l1 h e
abbrev MJ9_floorMod_7cf53 : MI := (RJ9, cJ9_floorMod_7cf53, 3, (some .int), 2, none, "floorMod")
noncomputable def XJ9_floorMod_7cf53 (F : Nat)   (l0 : Int) (l1 : Int)  (h : HP) : Option (Int × HP) :=
  (xd l1).bind fun u1 =>
  some (if 0 ≤ (xxor l0 l1) then l0.tmod l1 else if (l0.tmod l1) = 0 then l0.tmod l1 else w32 ((l0.tmod l1) + l1), h)
set_option maxRecDepth 100000 in
theorem SXJ9_floorMod_7cf53 {K : Ctx} {F : Nat} {r : Int} {hf : HP}     (l0 : Int) (l1 : Int)  (h : HP) (E : XJ9_floorMod_7cf53 F   l0 l1 h = some (r, hf)) : Go K MJ9_floorMod_7cf53 (QM K (some (vi r)) hf) hf 0 [(0, vi l0), (1, vi l1)] [] h := by
  unfold XJ9_floorMod_7cf53 at E
  refine go_iload_n (j := 0) (n := 1) rfl rfl dJ9_floorMod_7cf53_0 rfl ?_
  refine go_iload_n (j := 1) (n := 2) rfl rfl dJ9_floorMod_7cf53_1 rfl ?_
  replace E := Option.bind_eq_some_iff.mp E; obtain ⟨u1, eu1, E⟩ := E
  refine go_irem (n := 3) (xd_some eu1) dJ9_floorMod_7cf53_2 rfl ?_
  refine go_istore_n (n := 4) (lv' := [(2, vi (l0.tmod l1)), (0, vi l0), (1, vi l1)]) rfl dJ9_floorMod_7cf53_3 rfl (Nat.le_of_ble_eq_true rfl) rfl ?_
  refine go_iload_n (j := 1) (n := 5) rfl rfl dJ9_floorMod_7cf53_4 rfl ?_
  refine go_iload_n (j := 2) (n := 6) rfl rfl dJ9_floorMod_7cf53_5 rfl ?_
  refine go_ixor (n := 7) dJ9_floorMod_7cf53_6 rfl ?_
  refine go_if_ge (tgt := 18) (n := 10) dJ9_floorMod_7cf53_7 rfl rfl (fun c2 => ?_) (fun c2 => ?_)
  · simp only [if_pos c2] at E
    refine go_iload_n (j := 0) (n := 19) rfl rfl dJ9_floorMod_7cf53_18 rfl ?_
    cases E
    exact go_ireturn rfl dJ9_floorMod_7cf53_19
  · simp only [if_neg c2] at E
    refine go_iload_n (j := 0) (n := 11) rfl rfl dJ9_floorMod_7cf53_10 rfl ?_
    refine go_if_eq (tgt := 18) (n := 14) dJ9_floorMod_7cf53_11 rfl rfl (fun c3 => ?_) (fun c3 => ?_)
    · simp only [if_pos c3] at E
      refine go_iload_n (j := 0) (n := 19) rfl rfl dJ9_floorMod_7cf53_18 rfl ?_
      cases E
      exact go_ireturn rfl dJ9_floorMod_7cf53_19
    · simp only [if_neg c3] at E
      refine go_iload_n (j := 0) (n := 15) rfl rfl dJ9_floorMod_7cf53_14 rfl ?_
      refine go_iload_n (j := 2) (n := 16) rfl rfl dJ9_floorMod_7cf53_15 rfl ?_
      refine go_iadd (n := 17) dJ9_floorMod_7cf53_16 rfl ?_
      cases E
      exact go_ireturn rfl dJ9_floorMod_7cf53_17
theorem OXJ9_floorMod_7cf53 {F : Nat} {l0 : Int} {l1 : Int} {h hf : HP} {r : Int} (e : XJ9_floorMod_7cf53 F l0 l1 h = some (r, hf)) : Ok MJ9_floorMod_7cf53 [vi l0, vi l1] (some (vi r)) h hf := fun K _ _ _ => SXJ9_floorMod_7cf53 l0 l1 h e
theorem fl_RX0_34 : FL RX0 34 0 10 9 true := ⟨RX0, TX0, ci_0, by decide, bw_of 466 (by decide +kernel) rfl, rfl, rfl⟩
theorem yw_J7_fill_d0a16 : YW yJ7_fill_d0a16 cJ7_fill_d0a16 5 none 2 := ⟨bw_of 730 (by decide +kernel) rfl, bw_of 126 (by decide +kernel) rfl, ⟨by decide +kernel, by decide +kernel, by decide +kernel⟩, by decide +kernel⟩
theorem wml_RX0_89 : Cond.methodLink RX0 89 yJ7_fill_d0a16 ∈ BW := bw_of 728 (by decide +kernel) rfl
theorem wst_J7_fill_d0a16 : Cond.static yJ7_fill_d0a16 ∈ BW := bw_of 729 (by decide +kernel) rfl
theorem wml_RX0_95 : Cond.methodLink RX0 95 Lib.MathLoose.max_long.x ∈ BW := bw_of 734 (by decide +kernel) rfl
theorem jm_max_l : JM Lib.MathLoose.max_long.x Lib.MathLoose.max_long.code 4 .long := ⟨bw_of 735 (by decide +kernel) rfl, bw_of 135 (by decide +kernel) rfl, bw_of 736 (by decide +kernel) rfl⟩
theorem yw_J9_floorMod_7cf53 : YW yJ9_floorMod_7cf53 cJ9_floorMod_7cf53 3 (some .int) 2 := ⟨bw_of 733 (by decide +kernel) rfl, bw_of 135 (by decide +kernel) rfl, ⟨by decide +kernel, by decide +kernel, by decide +kernel⟩, by decide +kernel⟩
theorem wml_RX0_92 : Cond.methodLink RX0 92 yJ9_floorMod_7cf53 ∈ BW := bw_of 731 (by decide +kernel) rfl
theorem wst_J9_floorMod_7cf53 : Cond.static yJ9_floorMod_7cf53 ∈ BW := bw_of 732 (by decide +kernel) rfl
abbrev MX0_mostAbove : MI := (RX0, cX0_mostAbove, 7, (some .long), 3, none, "mostAbove")
noncomputable def X0_mostAbove_L55 (F : Nat)   (k : Nat) : Nat → Option Nat → Int → Int → HP → Option (Int × HP) :=
  Nat.rec (motive := fun _ => Nat → Option Nat → Int → Int → HP → Option (Int × HP)) (fun _ _ _ _ _ => none) (fun _ rc55 l0 l1 l4 l6 h =>
    if 3 ≤ l6 then
      some (l4, h)
    else
      (xal h l1).bind fun v2 =>
      if v2 ≤ l6 then
        some (l4, h)
      else
        (xgP h (some l0) 0 10 9).bind fun v4 =>
        (xaJ h v4 l6).bind fun v5 =>
        (xaI h l1 100 l6).bind fun v6 =>
        rc55 l0 l1 (max l4 (w64 (v5 - v6))) (w32 (l6 + 1)) h) k
theorem X0_mostAbove_L55_s (F : Nat)   (k : Nat) (l0 : Nat) (l1 : Option Nat) (l4 : Int) (l6 : Int)  (h : HP) : X0_mostAbove_L55 F   (k + 1) l0 l1 l4 l6 h =
    if 3 ≤ l6 then
      some (l4, h)
    else
      (xal h l1).bind fun v2 =>
      if v2 ≤ l6 then
        some (l4, h)
      else
        (xgP h (some l0) 0 10 9).bind fun v4 =>
        (xaJ h v4 l6).bind fun v5 =>
        (xaI h l1 100 l6).bind fun v6 =>
        (X0_mostAbove_L55 F k) l0 l1 (max l4 (w64 (v5 - v6))) (w32 (l6 + 1)) h := rfl
set_option maxRecDepth 100000 in
theorem SX0_mostAbove_L55 {K : Ctx} {F : Nat} {r : Int} {hf : HP}     : ∀ (k : Nat) (l0 : Nat) (l1 : Option Nat) (l4 : Int) (l6 : Int)  (h : HP), X0_mostAbove_L55 F   k l0 l1 l4 l6 h = some (r, hf) → Go K MX0_mostAbove (QM K (some (vl r)) hf) hf 55 [(0, vr (some l0)), (1, vr l1), (4, vl l4), (6, vi l6)] [] h := by
  intro k
  induction k with
  | zero => intro l0 l1 l4 l6 h E; exact nomatch E
  | succ k hrc55 =>
    intro l0 l1 l4 l6 h E
    rw [X0_mostAbove_L55_s] at E
    refine go_iload (j := 3) (n := 57) rfl dX0_mostAbove_55 rfl ?_
    refine go_iconst (z := 3) (n := 58) ⟨by decide, by decide⟩ dX0_mostAbove_57 rfl ?_
    refine go_icmp_ge (tgt := 94) (n := 61) dX0_mostAbove_58 rfl rfl (fun c1 => ?_) (fun c1 => ?_)
    · rw [if_pos c1] at E
      refine go_lload (j := 2) (n := 96) rfl dX0_mostAbove_94 rfl ?_
      cases E
      exact go_lreturn rfl dX0_mostAbove_96
    · rw [if_neg c1] at E
      refine go_iload (j := 3) (n := 63) rfl dX0_mostAbove_61 rfl ?_
      refine go_aload_n (j := 1) (n := 64) rfl rfl dX0_mostAbove_63 rfl ?_
      replace E := Option.bind_eq_some_iff.mp E; obtain ⟨v2, ev2, E⟩ := E
      refine go_alen (n := 65) ev2 dX0_mostAbove_64 rfl ?_
      refine go_icmp_ge (tgt := 94) (n := 68) dX0_mostAbove_65 rfl rfl (fun c3 => ?_) (fun c3 => ?_)
      · rw [if_pos c3] at E
        refine go_lload (j := 2) (n := 96) rfl dX0_mostAbove_94 rfl ?_
        cases E
        exact go_lreturn rfl dX0_mostAbove_96
      · rw [if_neg c3] at E
        refine go_lload (j := 2) (n := 70) rfl dX0_mostAbove_68 rfl ?_
        refine go_aload_n (j := 0) (n := 71) rfl rfl dX0_mostAbove_70 rfl ?_
        replace E := Option.bind_eq_some_iff.mp E; obtain ⟨v4, ev4, E⟩ := E
        refine go_getP (n := 74) ev4 fl_RX0_34 rfl dX0_mostAbove_71 rfl ?_
        refine go_iload (j := 3) (n := 76) rfl dX0_mostAbove_74 rfl ?_
        replace E := Option.bind_eq_some_iff.mp E; obtain ⟨v5, ev5, E⟩ := E
        refine go_laload (n := 77) ev5 dX0_mostAbove_76 rfl ?_
        refine go_aload_n (j := 1) (n := 78) rfl rfl dX0_mostAbove_77 rfl ?_
        refine go_iload (j := 3) (n := 80) rfl dX0_mostAbove_78 rfl ?_
        replace E := Option.bind_eq_some_iff.mp E; obtain ⟨v6, ev6, E⟩ := E
        refine go_iaload (n := 81) ev6 dX0_mostAbove_80 rfl ?_
        refine go_i2l (n := 82) dX0_mostAbove_81 rfl ?_
        refine go_lsub (n := 83) dX0_mostAbove_82 rfl ?_
        refine go_lmax (n := 86) wml_RX0_95 jm_max_l (Nat.le_of_ble_eq_true rfl) (Nat.le_of_ble_eq_true rfl) dX0_mostAbove_83 rfl ?_
        refine go_lstore (n := 88) (lv' := [(4, vl (max l4 (w64 (v5 - v6)))), (0, vr (some l0)), (1, vr l1), (6, vi l6)]) dX0_mostAbove_86 rfl (Nat.le_of_ble_eq_true rfl) rfl ?_
        refine go_iinc (j := 3) (n := 91) (lv' := [(6, vi (w32 (l6 + 1))), (4, vl (max l4 (w64 (v5 - v6)))), (0, vr (some l0)), (1, vr l1)]) rfl dX0_mostAbove_88 rfl (Nat.le_of_ble_eq_true rfl) rfl ?_
        refine go_goto (tgt := 55) dX0_mostAbove_91 rfl ?_
        refine go_pick (lv' := [(0, vr (some l0)), (1, vr l1), (4, vl (max l4 (w64 (v5 - v6)))), (6, vi (w32 (l6 + 1)))]) [2, 3, 1, 0] rfl ?_
        exact hrc55 _ _ _ _ _ E
noncomputable def X0_mostAbove_L13 (F : Nat)   (k : Nat) : Nat → Option Nat → Int → Int → HP → Option (Int × HP) :=
  Nat.rec (motive := fun _ => Nat → Option Nat → Int → Int → HP → Option (Int × HP)) (fun _ _ _ _ _ => none) (fun _ rc13 l0 l1 l3 l4 h =>
    if 4 ≤ l4 then
      X0_mostAbove_L55 F F l0 l1 0 0 h
    else
      (xgP h (some l0) 0 10 9).bind fun v2 =>
      xb (XJ9_floorMod_7cf53 F l3 3 h) fun v3 h4 =>
      (xaJ h4 v2 v3).bind fun v5 =>
      (xgP h4 (some l0) 0 10 8).bind fun v6 =>
      (xaJ h4 v6 l4).bind fun v7 =>
      (xsJ h4 v2 v3 (w64 (v5 + v7))).bind fun h8 =>
      rc13 l0 l1 (w32 (l3.tdiv 3)) (w32 (l4 + 1)) h8) k
theorem X0_mostAbove_L13_s (F : Nat)   (k : Nat) (l0 : Nat) (l1 : Option Nat) (l3 : Int) (l4 : Int)  (h : HP) : X0_mostAbove_L13 F   (k + 1) l0 l1 l3 l4 h =
    if 4 ≤ l4 then
      X0_mostAbove_L55 F F l0 l1 0 0 h
    else
      (xgP h (some l0) 0 10 9).bind fun v2 =>
      xb (XJ9_floorMod_7cf53 F l3 3 h) fun v3 h4 =>
      (xaJ h4 v2 v3).bind fun v5 =>
      (xgP h4 (some l0) 0 10 8).bind fun v6 =>
      (xaJ h4 v6 l4).bind fun v7 =>
      (xsJ h4 v2 v3 (w64 (v5 + v7))).bind fun h8 =>
      (X0_mostAbove_L13 F k) l0 l1 (w32 (l3.tdiv 3)) (w32 (l4 + 1)) h8 := rfl
set_option maxRecDepth 100000 in
theorem SX0_mostAbove_L13 {K : Ctx} {F : Nat} {r : Int} {hf : HP}     : ∀ (k : Nat) (l0 : Nat) (l1 : Option Nat) (l3 : Int) (l4 : Int)  (h : HP), X0_mostAbove_L13 F   k l0 l1 l3 l4 h = some (r, hf) → Go K MX0_mostAbove (QM K (some (vl r)) hf) hf 13 [(0, vr (some l0)), (1, vr l1), (3, vi l3), (4, vi l4)] [] h := by
  intro k
  induction k with
  | zero => intro l0 l1 l3 l4 h E; exact nomatch E
  | succ k hrc13 =>
    intro l0 l1 l3 l4 h E
    rw [X0_mostAbove_L13_s] at E
    refine go_iload (j := 3) (n := 15) rfl dX0_mostAbove_13 rfl ?_
    refine go_iconst (z := 4) (n := 16) ⟨by decide, by decide⟩ dX0_mostAbove_15 rfl ?_
    refine go_icmp_ge (tgt := 49) (n := 19) dX0_mostAbove_16 rfl rfl (fun c1 => ?_) (fun c1 => ?_)
    · rw [if_pos c1] at E
      refine go_lconst (w := 0) (n := 50) rfl dX0_mostAbove_49 rfl ?_
      refine go_lstore (n := 52) (lv' := [(4, vl 0), (0, vr (some l0)), (1, vr l1), (3, vi l3)]) dX0_mostAbove_50 rfl (Nat.le_of_ble_eq_true rfl) rfl ?_
      refine go_iconst (z := 0) (n := 53) ⟨by decide, by decide⟩ dX0_mostAbove_52 rfl ?_
      refine go_istore (n := 55) (lv' := [(6, vi 0), (4, vl 0), (0, vr (some l0)), (1, vr l1), (3, vi l3)]) dX0_mostAbove_53 rfl (Nat.le_of_ble_eq_true rfl) rfl ?_
      refine go_pick (lv' := [(0, vr (some l0)), (1, vr l1), (4, vl 0), (6, vi 0)]) [2, 3, 1, 0] rfl ?_
      exact SX0_mostAbove_L55     F _ _ _ _ _ E
    · rw [if_neg c1] at E
      refine go_aload_n (j := 0) (n := 20) rfl rfl dX0_mostAbove_19 rfl ?_
      replace E := Option.bind_eq_some_iff.mp E; obtain ⟨v2, ev2, E⟩ := E
      refine go_getP (n := 23) ev2 fl_RX0_34 rfl dX0_mostAbove_20 rfl ?_
      refine go_iload_n (j := 2) (n := 24) rfl rfl dX0_mostAbove_23 rfl ?_
      refine go_iconst (z := 3) (n := 25) ⟨by decide, by decide⟩ dX0_mostAbove_24 rfl ?_
      replace E := xb_some E; obtain ⟨v3, h4, ev3, E⟩ := E
      refine go_callS (y := yJ9_floorMod_7cf53) (n := 28) (st := [vr v2]) (as := [vi l3, vi 3]) (stk9 := [vi v3, vr v2]) (OXJ9_floorMod_7cf53 ev3) yw_J9_floorMod_7cf53 wml_RX0_92 wst_J9_floorMod_7cf53 (Nat.le_of_ble_eq_true rfl) rfl ⟨Nat.le_of_ble_eq_true rfl, Nat.le_of_ble_eq_true rfl⟩ (Nat.le_of_ble_eq_true rfl) dX0_mostAbove_25 rfl rfl rfl ?_
      refine go_dup2 (n := 29) rfl rfl dX0_mostAbove_28 rfl ?_
      replace E := Option.bind_eq_some_iff.mp E; obtain ⟨v5, ev5, E⟩ := E
      refine go_laload (n := 30) ev5 dX0_mostAbove_29 rfl ?_
      refine go_aload_n (j := 0) (n := 31) rfl rfl dX0_mostAbove_30 rfl ?_
      replace E := Option.bind_eq_some_iff.mp E; obtain ⟨v6, ev6, E⟩ := E
      refine go_getP (n := 34) ev6 fl_RX0_30 rfl dX0_mostAbove_31 rfl ?_
      refine go_iload (j := 3) (n := 36) rfl dX0_mostAbove_34 rfl ?_
      replace E := Option.bind_eq_some_iff.mp E; obtain ⟨v7, ev7, E⟩ := E
      refine go_laload (n := 37) ev7 dX0_mostAbove_36 rfl ?_
      refine go_ladd (n := 38) dX0_mostAbove_37 rfl ?_
      replace E := Option.bind_eq_some_iff.mp E; obtain ⟨h8, eh8, E⟩ := E
      refine go_lastore (n := 39) eh8 dX0_mostAbove_38 rfl ?_
      refine go_iload_n (j := 2) (n := 40) rfl rfl dX0_mostAbove_39 rfl ?_
      refine go_iconst (z := 3) (n := 41) ⟨by decide, by decide⟩ dX0_mostAbove_40 rfl ?_
      refine go_idiv (n := 42) (by decide) dX0_mostAbove_41 rfl ?_
      refine go_istore_n (n := 43) (lv' := [(3, vi (w32 (l3.tdiv 3))), (0, vr (some l0)), (1, vr l1), (4, vi l4)]) rfl dX0_mostAbove_42 rfl (Nat.le_of_ble_eq_true rfl) rfl ?_
      refine go_iinc (j := 3) (n := 46) (lv' := [(4, vi (w32 (l4 + 1))), (3, vi (w32 (l3.tdiv 3))), (0, vr (some l0)), (1, vr l1)]) rfl dX0_mostAbove_43 rfl (Nat.le_of_ble_eq_true rfl) rfl ?_
      refine go_goto (tgt := 13) dX0_mostAbove_46 rfl ?_
      refine go_pick (lv' := [(0, vr (some l0)), (1, vr l1), (3, vi (w32 (l3.tdiv 3))), (4, vi (w32 (l4 + 1)))]) [2, 3, 1, 0] rfl ?_
      exact hrc13 _ _ _ _ _ E
noncomputable def X0_mostAbove (F : Nat)   (l0 : Nat) (l1 : Option Nat) (l2 : Int)  (h : HP) : Option (Int × HP) :=
  (xgP h (some l0) 0 10 9).bind fun v1 =>
  xb (XJ7_fill_d0a16 F v1 0 h) fun v2 h3 =>
  X0_mostAbove_L13 F F l0 l1 l2 0 h3
set_option maxRecDepth 100000 in
theorem SX0_mostAbove {K : Ctx} {F : Nat} {r : Int} {hf : HP}     (l0 : Nat) (l1 : Option Nat) (l2 : Int)  (h : HP) (E : X0_mostAbove F   l0 l1 l2 h = some (r, hf)) : Go K MX0_mostAbove (QM K (some (vl r)) hf) hf 0 [(0, vr (some l0)), (1, vr l1), (2, vi l2)] [] h := by
  unfold X0_mostAbove at E
  refine go_aload_n (j := 0) (n := 1) rfl rfl dX0_mostAbove_0 rfl ?_
  replace E := Option.bind_eq_some_iff.mp E; obtain ⟨v1, ev1, E⟩ := E
  refine go_getP (n := 4) ev1 fl_RX0_34 rfl dX0_mostAbove_1 rfl ?_
  refine go_lconst (w := 0) (n := 5) rfl dX0_mostAbove_4 rfl ?_
  replace E := xb_some E; obtain ⟨v2, h3, ev2, E⟩ := E
  refine go_callS (y := yJ7_fill_d0a16) (n := 8) (st := []) (as := [vr v1, vl 0]) (stk9 := []) (OXJ7_fill_d0a16 ev2) yw_J7_fill_d0a16 wml_RX0_89 wst_J7_fill_d0a16 (Nat.le_of_ble_eq_true rfl) rfl ⟨Nat.le_of_ble_eq_true rfl, Nat.le_of_ble_eq_true rfl⟩ (Nat.le_of_ble_eq_true rfl) dX0_mostAbove_5 rfl rfl rfl ?_
  refine go_iload_n (j := 2) (n := 9) rfl rfl dX0_mostAbove_8 rfl ?_
  refine go_istore_n (n := 10) (lv' := [(3, vi l2), (0, vr (some l0)), (1, vr l1), (2, vi l2)]) rfl dX0_mostAbove_9 rfl (Nat.le_of_ble_eq_true rfl) rfl ?_
  refine go_iconst (z := 0) (n := 11) ⟨by decide, by decide⟩ dX0_mostAbove_10 rfl ?_
  refine go_istore (n := 13) (lv' := [(4, vi 0), (3, vi l2), (0, vr (some l0)), (1, vr l1), (2, vi l2)]) dX0_mostAbove_11 rfl (Nat.le_of_ble_eq_true rfl) rfl ?_
  refine go_pick (lv' := [(0, vr (some l0)), (1, vr l1), (3, vi l2), (4, vi 0)]) [2, 3, 1, 0] rfl ?_
  exact SX0_mostAbove_L13     F _ _ _ _ _ E
theorem OX0_mostAbove {F : Nat} {l0 : Nat} {l1 : Option Nat} {l2 : Int} {h hf : HP} {r : Int} (e : X0_mostAbove F l0 l1 l2 h = some (r, hf)) : Ok MX0_mostAbove [vr (some l0), vr l1, vi l2] (some (vl r)) h hf := fun K _ _ _ => SX0_mostAbove l0 l1 l2 h e
theorem yw_X0_mostAbove : YW yX0_mostAbove cX0_mostAbove 7 (some .long) 2 := ⟨bw_of 727 (by decide +kernel) rfl, bw_of 125 (by decide +kernel) rfl, ⟨by decide +kernel, by decide +kernel, by decide +kernel⟩, by decide +kernel⟩
theorem wml_RX0_81 : Cond.methodLink RX0 81 yX0_mostAbove ∈ BW := bw_of 724 (by decide +kernel) rfl
theorem wim_X0_mostAbove : Cond.instanceMethod yX0_mostAbove ∈ BW := bw_of 726 (by decide +kernel) rfl
theorem wse_X0_mostAbove : Cond.selects RX0 yX0_mostAbove yX0_mostAbove ∈ BW := bw_of 2 (by decide +kernel) rfl
theorem wml_RX0_85 : Cond.methodLink RX0 85 Lib.MathLoose.min_long.x ∈ BW := bw_of 737 (by decide +kernel) rfl
theorem jm_min_l : JM Lib.MathLoose.min_long.x Lib.MathLoose.min_long.code 4 .long := ⟨bw_of 738 (by decide +kernel) rfl, bw_of 135 (by decide +kernel) rfl, bw_of 739 (by decide +kernel) rfl⟩
abbrev MX0_leastAbove : MI := (RX0, cX0_leastAbove, 5, (some .long), 4, none, "leastAbove")
noncomputable def X0_leastAbove_L10 (F : Nat)   (k : Nat) : Nat → Option Nat → Int → Int → HP → Option (Int × HP) :=
  Nat.rec (motive := fun _ => Nat → Option Nat → Int → Int → HP → Option (Int × HP)) (fun _ _ _ _ _ => none) (fun _ rc10 l0 l1 l2 l4 h =>
    if 81 ≤ l4 then
      some (l2, h)
    else
      (xrc h (some l0) 0 10).bind fun a4 =>
      xb (X0_mostAbove F a4 l1 l4 h) fun v2 h3 =>
      rc10 l0 l1 (min l2 v2) (w32 (l4 + 1)) h3) k
theorem X0_leastAbove_L10_s (F : Nat)   (k : Nat) (l0 : Nat) (l1 : Option Nat) (l2 : Int) (l4 : Int)  (h : HP) : X0_leastAbove_L10 F   (k + 1) l0 l1 l2 l4 h =
    if 81 ≤ l4 then
      some (l2, h)
    else
      (xrc h (some l0) 0 10).bind fun a4 =>
      xb (X0_mostAbove F a4 l1 l4 h) fun v2 h3 =>
      (X0_leastAbove_L10 F k) l0 l1 (min l2 v2) (w32 (l4 + 1)) h3 := rfl
set_option maxRecDepth 100000 in
theorem SX0_leastAbove_L10 {K : Ctx} {F : Nat} {r : Int} {hf : HP}     : ∀ (k : Nat) (l0 : Nat) (l1 : Option Nat) (l2 : Int) (l4 : Int)  (h : HP), X0_leastAbove_L10 F   k l0 l1 l2 l4 h = some (r, hf) → Go K MX0_leastAbove (QM K (some (vl r)) hf) hf 10 [(0, vr (some l0)), (1, vr l1), (2, vl l2), (4, vi l4)] [] h := by
  intro k
  induction k with
  | zero => intro l0 l1 l2 l4 h E; exact nomatch E
  | succ k hrc10 =>
    intro l0 l1 l2 l4 h E
    rw [X0_leastAbove_L10_s] at E
    refine go_iload (j := 3) (n := 12) rfl dX0_leastAbove_10 rfl ?_
    refine go_bipush (z := 81) (n := 14) ⟨by decide, by decide⟩ dX0_leastAbove_12 rfl ?_
    refine go_icmp_ge (tgt := 35) (n := 17) dX0_leastAbove_14 rfl rfl (fun c1 => ?_) (fun c1 => ?_)
    · rw [if_pos c1] at E
      refine go_lload_n (j := 2) (n := 36) rfl rfl dX0_leastAbove_35 rfl ?_
      cases E
      exact go_lreturn rfl dX0_leastAbove_36
    · rw [if_neg c1] at E
      refine go_lload_n (j := 2) (n := 18) rfl rfl dX0_leastAbove_17 rfl ?_
      refine go_aload_n (j := 0) (n := 19) rfl rfl dX0_leastAbove_18 rfl ?_
      refine go_aload_n (j := 1) (n := 20) rfl rfl dX0_leastAbove_19 rfl ?_
      refine go_iload (j := 3) (n := 22) rfl dX0_leastAbove_20 rfl ?_
      replace E := Option.bind_eq_some_iff.mp E; obtain ⟨a4, ea4, E⟩ := E
      obtain ⟨fa4, ga4⟩ := xrc_some ea4
      replace E := xb_some E; obtain ⟨v2, h3, ev2, E⟩ := E
      refine go_callV (y := yX0_mostAbove) (n := 25) (st := [vl l2]) (as := [vr l1, vi l4]) (stk9 := [vl v2, vl l2]) (OX0_mostAbove ev2) yw_X0_mostAbove ci_0 ga4 wml_RX0_81 wim_X0_mostAbove wse_X0_mostAbove (Nat.le_of_ble_eq_true rfl) rfl ⟨Nat.le_of_ble_eq_true rfl, Nat.le_of_ble_eq_true rfl⟩ (Nat.le_of_ble_eq_true rfl) dX0_leastAbove_22 rfl (by cases fa4; rfl) rfl ?_
      refine go_lmin (n := 28) wml_RX0_85 jm_min_l (Nat.le_of_ble_eq_true rfl) (Nat.le_of_ble_eq_true rfl) dX0_leastAbove_25 rfl ?_
      refine go_lstore_n (n := 29) (lv' := [(2, vl (min l2 v2)), (0, vr (some l0)), (1, vr l1), (4, vi l4)]) rfl dX0_leastAbove_28 rfl (Nat.le_of_ble_eq_true rfl) rfl ?_
      refine go_iinc (j := 3) (n := 32) (lv' := [(4, vi (w32 (l4 + 1))), (2, vl (min l2 v2)), (0, vr (some l0)), (1, vr l1)]) rfl dX0_leastAbove_29 rfl (Nat.le_of_ble_eq_true rfl) rfl ?_
      refine go_goto (tgt := 10) dX0_leastAbove_32 rfl ?_
      refine go_pick (lv' := [(0, vr (some l0)), (1, vr l1), (2, vl (min l2 v2)), (4, vi (w32 (l4 + 1)))]) [2, 3, 1, 0] rfl ?_
      exact hrc10 _ _ _ _ _ E
noncomputable def X0_leastAbove (F : Nat)   (l0 : Nat) (l1 : Option Nat)  (h : HP) : Option (Int × HP) :=
  (xrc h (some l0) 0 10).bind fun a3 =>
  xb (X0_mostAbove F a3 l1 0 h) fun v1 h2 =>
  X0_leastAbove_L10 F F l0 l1 v1 1 h2
set_option maxRecDepth 100000 in
theorem SX0_leastAbove {K : Ctx} {F : Nat} {r : Int} {hf : HP}     (l0 : Nat) (l1 : Option Nat)  (h : HP) (E : X0_leastAbove F   l0 l1 h = some (r, hf)) : Go K MX0_leastAbove (QM K (some (vl r)) hf) hf 0 [(0, vr (some l0)), (1, vr l1)] [] h := by
  unfold X0_leastAbove at E
  refine go_aload_n (j := 0) (n := 1) rfl rfl dX0_leastAbove_0 rfl ?_
  refine go_aload_n (j := 1) (n := 2) rfl rfl dX0_leastAbove_1 rfl ?_
  refine go_iconst (z := 0) (n := 3) ⟨by decide, by decide⟩ dX0_leastAbove_2 rfl ?_
  replace E := Option.bind_eq_some_iff.mp E; obtain ⟨a3, ea3, E⟩ := E
  obtain ⟨fa3, ga3⟩ := xrc_some ea3
  replace E := xb_some E; obtain ⟨v1, h2, ev1, E⟩ := E
  refine go_callV (y := yX0_mostAbove) (n := 6) (st := []) (as := [vr l1, vi 0]) (stk9 := [vl v1]) (OX0_mostAbove ev1) yw_X0_mostAbove ci_0 ga3 wml_RX0_81 wim_X0_mostAbove wse_X0_mostAbove (Nat.le_of_ble_eq_true rfl) rfl ⟨Nat.le_of_ble_eq_true rfl, Nat.le_of_ble_eq_true rfl⟩ (Nat.le_of_ble_eq_true rfl) dX0_leastAbove_3 rfl (by cases fa3; rfl) rfl ?_
  refine go_lstore_n (n := 7) (lv' := [(2, vl v1), (0, vr (some l0)), (1, vr l1)]) rfl dX0_leastAbove_6 rfl (Nat.le_of_ble_eq_true rfl) rfl ?_
  refine go_iconst (z := 1) (n := 8) ⟨by decide, by decide⟩ dX0_leastAbove_7 rfl ?_
  refine go_istore (n := 10) (lv' := [(4, vi 1), (2, vl v1), (0, vr (some l0)), (1, vr l1)]) dX0_leastAbove_8 rfl (Nat.le_of_ble_eq_true rfl) rfl ?_
  refine go_pick (lv' := [(0, vr (some l0)), (1, vr l1), (2, vl v1), (4, vi 1)]) [2, 3, 1, 0] rfl ?_
  exact SX0_leastAbove_L10     F _ _ _ _ _ E
theorem OX0_leastAbove {F : Nat} {l0 : Nat} {l1 : Option Nat} {h hf : HP} {r : Int} (e : X0_leastAbove F l0 l1 h = some (r, hf)) : Ok MX0_leastAbove [vr (some l0), vr l1] (some (vl r)) h hf := fun K _ _ _ => SX0_leastAbove l0 l1 h e
theorem yw_X0_partByShops : YW yX0_partByShops cX0_partByShops 4 none 1 := ⟨bw_of 709 (by decide +kernel) rfl, bw_of 125 (by decide +kernel) rfl, ⟨by decide +kernel, by decide +kernel, by decide +kernel⟩, by decide +kernel⟩
theorem wml_RX0_78 : Cond.methodLink RX0 78 yX0_partByShops ∈ BW := bw_of 706 (by decide +kernel) rfl
theorem wim_X0_partByShops : Cond.instanceMethod yX0_partByShops ∈ BW := bw_of 708 (by decide +kernel) rfl
theorem wse_X0_partByShops : Cond.selects RX0 yX0_partByShops yX0_partByShops ∈ BW := bw_of 0 (by decide +kernel) rfl
theorem yw_X0_leastAbove : YW yX0_leastAbove cX0_leastAbove 5 (some .long) 1 := ⟨bw_of 723 (by decide +kernel) rfl, bw_of 125 (by decide +kernel) rfl, ⟨by decide +kernel, by decide +kernel, by decide +kernel⟩, by decide +kernel⟩
theorem wml_RX0_74 : Cond.methodLink RX0 74 yX0_leastAbove ∈ BW := bw_of 720 (by decide +kernel) rfl
theorem wim_X0_leastAbove : Cond.instanceMethod yX0_leastAbove ∈ BW := bw_of 722 (by decide +kernel) rfl
theorem wse_X0_leastAbove : Cond.selects RX0 yX0_leastAbove yX0_leastAbove ∈ BW := bw_of 1 (by decide +kernel) rfl
abbrev MX0_leastLoads : MI := (RX0, cX0_leastLoads, 2, (some .long), 5, none, "leastLoads")
noncomputable def X0_leastLoads (F : Nat)   (l0 : Nat) (l1 : Option Nat)  (h : HP) : Option (Int × HP) :=
  (xrc h (some l0) 0 10).bind fun a3 =>
  xb (X0_partByShops F a3 l1 h) fun v1 h2 =>
  (xgP h2 (some l0) 0 10 4).bind fun v4 =>
  (xrc h2 (some l0) 0 10).bind fun a7 =>
  xb (X0_leastAbove F a7 v4 h2) fun v5 h6 =>
  some (v5, h6)
set_option maxRecDepth 100000 in
theorem SX0_leastLoads {K : Ctx} {F : Nat} {r : Int} {hf : HP}     (l0 : Nat) (l1 : Option Nat)  (h : HP) (E : X0_leastLoads F   l0 l1 h = some (r, hf)) : Go K MX0_leastLoads (QM K (some (vl r)) hf) hf 0 [(0, vr (some l0)), (1, vr l1)] [] h := by
  unfold X0_leastLoads at E
  refine go_aload_n (j := 0) (n := 1) rfl rfl dX0_leastLoads_0 rfl ?_
  refine go_aload_n (j := 1) (n := 2) rfl rfl dX0_leastLoads_1 rfl ?_
  replace E := Option.bind_eq_some_iff.mp E; obtain ⟨a3, ea3, E⟩ := E
  obtain ⟨fa3, ga3⟩ := xrc_some ea3
  replace E := xb_some E; obtain ⟨v1, h2, ev1, E⟩ := E
  refine go_callV (y := yX0_partByShops) (n := 5) (st := []) (as := [vr l1]) (stk9 := []) (OX0_partByShops ev1) yw_X0_partByShops ci_0 ga3 wml_RX0_78 wim_X0_partByShops wse_X0_partByShops (Nat.le_of_ble_eq_true rfl) rfl ⟨Nat.le_of_ble_eq_true rfl, Nat.le_of_ble_eq_true rfl⟩ (Nat.le_of_ble_eq_true rfl) dX0_leastLoads_2 rfl (by cases fa3; rfl) rfl ?_
  refine go_aload_n (j := 0) (n := 6) rfl rfl dX0_leastLoads_5 rfl ?_
  refine go_aload_n (j := 0) (n := 7) rfl rfl dX0_leastLoads_6 rfl ?_
  replace E := Option.bind_eq_some_iff.mp E; obtain ⟨v4, ev4, E⟩ := E
  refine go_getP (n := 10) ev4 fl_RX0_24 rfl dX0_leastLoads_7 rfl ?_
  replace E := Option.bind_eq_some_iff.mp E; obtain ⟨a7, ea7, E⟩ := E
  obtain ⟨fa7, ga7⟩ := xrc_some ea7
  replace E := xb_some E; obtain ⟨v5, h6, ev5, E⟩ := E
  refine go_callV (y := yX0_leastAbove) (n := 13) (st := []) (as := [vr v4]) (stk9 := [vl v5]) (OX0_leastAbove ev5) yw_X0_leastAbove ci_0 ga7 wml_RX0_74 wim_X0_leastAbove wse_X0_leastAbove (Nat.le_of_ble_eq_true rfl) rfl ⟨Nat.le_of_ble_eq_true rfl, Nat.le_of_ble_eq_true rfl⟩ (Nat.le_of_ble_eq_true rfl) dX0_leastLoads_10 rfl (by cases fa7; rfl) rfl ?_
  cases E
  exact go_lreturn rfl dX0_leastLoads_13
theorem OX0_leastLoads {F : Nat} {l0 : Nat} {l1 : Option Nat} {h hf : HP} {r : Int} (e : X0_leastLoads F l0 l1 h = some (r, hf)) : Ok MX0_leastLoads [vr (some l0), vr l1] (some (vl r)) h hf := fun K _ _ _ => SX0_leastLoads l0 l1 h e
theorem fl_RX0_27 : FL RX0 27 0 10 5 true := ⟨RX0, TX0, ci_0, by decide, bw_of 462 (by decide +kernel) rfl, rfl, rfl⟩
abbrev MX0_ovensEnd : MI := (RX0, cX0_ovensEnd, 2, (some .long), 6, none, "ovensEnd")
noncomputable def X0_ovensEnd (F : Nat)   (l0 : Nat) (l1 : Option Nat)  (h : HP) : Option (Int × HP) :=
  (xrc h (some l0) 0 10).bind fun a3 =>
  xb (X0_partByMinutes F a3 l1 h) fun v1 h2 =>
  (xgP h2 (some l0) 0 10 5).bind fun v4 =>
  (xrc h2 (some l0) 0 10).bind fun a7 =>
  xb (X0_leastAbove F a7 v4 h2) fun v5 h6 =>
  some (v5, h6)
set_option maxRecDepth 100000 in
theorem SX0_ovensEnd {K : Ctx} {F : Nat} {r : Int} {hf : HP}     (l0 : Nat) (l1 : Option Nat)  (h : HP) (E : X0_ovensEnd F   l0 l1 h = some (r, hf)) : Go K MX0_ovensEnd (QM K (some (vl r)) hf) hf 0 [(0, vr (some l0)), (1, vr l1)] [] h := by
  unfold X0_ovensEnd at E
  refine go_aload_n (j := 0) (n := 1) rfl rfl dX0_ovensEnd_0 rfl ?_
  refine go_aload_n (j := 1) (n := 2) rfl rfl dX0_ovensEnd_1 rfl ?_
  replace E := Option.bind_eq_some_iff.mp E; obtain ⟨a3, ea3, E⟩ := E
  obtain ⟨fa3, ga3⟩ := xrc_some ea3
  replace E := xb_some E; obtain ⟨v1, h2, ev1, E⟩ := E
  refine go_callV (y := yX0_partByMinutes) (n := 5) (st := []) (as := [vr l1]) (stk9 := []) (OX0_partByMinutes ev1) yw_X0_partByMinutes ci_0 ga3 wml_RX0_70 wim_X0_partByMinutes wse_X0_partByMinutes (Nat.le_of_ble_eq_true rfl) rfl ⟨Nat.le_of_ble_eq_true rfl, Nat.le_of_ble_eq_true rfl⟩ (Nat.le_of_ble_eq_true rfl) dX0_ovensEnd_2 rfl (by cases fa3; rfl) rfl ?_
  refine go_aload_n (j := 0) (n := 6) rfl rfl dX0_ovensEnd_5 rfl ?_
  refine go_aload_n (j := 0) (n := 7) rfl rfl dX0_ovensEnd_6 rfl ?_
  replace E := Option.bind_eq_some_iff.mp E; obtain ⟨v4, ev4, E⟩ := E
  refine go_getP (n := 10) ev4 fl_RX0_27 rfl dX0_ovensEnd_7 rfl ?_
  replace E := Option.bind_eq_some_iff.mp E; obtain ⟨a7, ea7, E⟩ := E
  obtain ⟨fa7, ga7⟩ := xrc_some ea7
  replace E := xb_some E; obtain ⟨v5, h6, ev5, E⟩ := E
  refine go_callV (y := yX0_leastAbove) (n := 13) (st := []) (as := [vr v4]) (stk9 := [vl v5]) (OX0_leastAbove ev5) yw_X0_leastAbove ci_0 ga7 wml_RX0_74 wim_X0_leastAbove wse_X0_leastAbove (Nat.le_of_ble_eq_true rfl) rfl ⟨Nat.le_of_ble_eq_true rfl, Nat.le_of_ble_eq_true rfl⟩ (Nat.le_of_ble_eq_true rfl) dX0_ovensEnd_10 rfl (by cases fa7; rfl) rfl ?_
  cases E
  exact go_lreturn rfl dX0_ovensEnd_13
theorem OX0_ovensEnd {F : Nat} {l0 : Nat} {l1 : Option Nat} {h hf : HP} {r : Int} (e : X0_ovensEnd F l0 l1 h = some (r, hf)) : Ok MX0_ovensEnd [vr (some l0), vr l1] (some (vl r)) h hf := fun K _ _ _ => SX0_ovensEnd l0 l1 h e
theorem yw_X0_ovensEnd : YW yX0_ovensEnd cX0_ovensEnd 2 (some .long) 1 := ⟨bw_of 743 (by decide +kernel) rfl, bw_of 125 (by decide +kernel) rfl, ⟨by decide +kernel, by decide +kernel, by decide +kernel⟩, by decide +kernel⟩
theorem wml_RX11_249 : Cond.methodLink RX11 249 yX0_ovensEnd ∈ BW := bw_of 740 (by decide +kernel) rfl
theorem wim_X0_ovensEnd : Cond.instanceMethod yX0_ovensEnd ∈ BW := bw_of 741 (by decide +kernel) rfl
theorem wse_X0_ovensEnd : Cond.selects RX0 yX0_ovensEnd yX0_ovensEnd ∈ BW := bw_of 742 (by decide +kernel) rfl
theorem yw_X0_leastLoads : YW yX0_leastLoads cX0_leastLoads 2 (some .long) 1 := ⟨bw_of 705 (by decide +kernel) rfl, bw_of 125 (by decide +kernel) rfl, ⟨by decide +kernel, by decide +kernel, by decide +kernel⟩, by decide +kernel⟩
theorem wml_RX11_245 : Cond.methodLink RX11 245 yX0_leastLoads ∈ BW := bw_of 702 (by decide +kernel) rfl
theorem wim_X0_leastLoads : Cond.instanceMethod yX0_leastLoads ∈ BW := bw_of 703 (by decide +kernel) rfl
theorem wse_X0_leastLoads : Cond.selects RX0 yX0_leastLoads yX0_leastLoads ∈ BW := bw_of 704 (by decide +kernel) rfl
abbrev MX11_fill : MI := (RX11, cX11_fill, 2, (some .long), 7, none, "fill")
noncomputable def X11_fill (F : Nat)   (l0 : Nat) (l1 : Int)  (h : HP) : Option (Int × HP) :=
  if l1 = 0 then
    (xgP h (some l0) 11 6 2).bind fun v2 =>
    (xgP h v2 4 12 4).bind fun v3 =>
    (xgP h (some l0) 11 6 2).bind fun v4 =>
    (xgP h v4 4 12 1).bind fun v5 =>
    (xrc h v3 0 10).bind fun a8 =>
    xb (X0_ovensEnd F a8 v5 h) fun v6 h7 =>
    some (v6, h7)
  else
    (xgP h (some l0) 11 6 2).bind fun v9 =>
    (xgP h v9 4 12 4).bind fun v10 =>
    (xgP h (some l0) 11 6 2).bind fun v11 =>
    (xgP h v11 4 12 1).bind fun v12 =>
    (xrc h v10 0 10).bind fun a15 =>
    xb (X0_leastLoads F a15 v12 h) fun v13 h14 =>
    some (v13, h14)
set_option maxRecDepth 100000 in
theorem SX11_fill {K : Ctx} {F : Nat} {r : Int} {hf : HP}     (l0 : Nat) (l1 : Int)  (h : HP) (E : X11_fill F   l0 l1 h = some (r, hf)) : Go K MX11_fill (QM K (some (vl r)) hf) hf 0 [(0, vr (some l0)), (1, vi l1)] [] h := by
  unfold X11_fill at E
  refine go_iload_n (j := 1) (n := 1) rfl rfl dX11_fill_0 rfl ?_
  refine go_if_eq (tgt := 24) (n := 4) dX11_fill_1 rfl rfl (fun c1 => ?_) (fun c1 => ?_)
  · rw [if_pos c1] at E
    refine go_aload_n (j := 0) (n := 25) rfl rfl dX11_fill_24 rfl ?_
    replace E := Option.bind_eq_some_iff.mp E; obtain ⟨v2, ev2, E⟩ := E
    refine go_getP (n := 28) ev2 fl_RX11_23 rfl dX11_fill_25 rfl ?_
    replace E := Option.bind_eq_some_iff.mp E; obtain ⟨v3, ev3, E⟩ := E
    refine go_getP (n := 31) ev3 fl_RX11_230 rfl dX11_fill_28 rfl ?_
    refine go_aload_n (j := 0) (n := 32) rfl rfl dX11_fill_31 rfl ?_
    replace E := Option.bind_eq_some_iff.mp E; obtain ⟨v4, ev4, E⟩ := E
    refine go_getP (n := 35) ev4 fl_RX11_23 rfl dX11_fill_32 rfl ?_
    replace E := Option.bind_eq_some_iff.mp E; obtain ⟨v5, ev5, E⟩ := E
    refine go_getP (n := 38) ev5 fl_RX11_60 rfl dX11_fill_35 rfl ?_
    replace E := Option.bind_eq_some_iff.mp E; obtain ⟨a8, ea8, E⟩ := E
    obtain ⟨fa8, ga8⟩ := xrc_some ea8
    replace E := xb_some E; obtain ⟨v6, h7, ev6, E⟩ := E
    refine go_callV (y := yX0_ovensEnd) (n := 41) (st := []) (as := [vr v5]) (stk9 := [vl v6]) (OX0_ovensEnd ev6) yw_X0_ovensEnd ci_0 ga8 wml_RX11_249 wim_X0_ovensEnd wse_X0_ovensEnd (Nat.le_of_ble_eq_true rfl) rfl ⟨Nat.le_of_ble_eq_true rfl, Nat.le_of_ble_eq_true rfl⟩ (Nat.le_of_ble_eq_true rfl) dX11_fill_38 rfl (by cases fa8; rfl) rfl ?_
    cases E
    exact go_lreturn rfl dX11_fill_41
  · rw [if_neg c1] at E
    refine go_aload_n (j := 0) (n := 5) rfl rfl dX11_fill_4 rfl ?_
    replace E := Option.bind_eq_some_iff.mp E; obtain ⟨v9, ev9, E⟩ := E
    refine go_getP (n := 8) ev9 fl_RX11_23 rfl dX11_fill_5 rfl ?_
    replace E := Option.bind_eq_some_iff.mp E; obtain ⟨v10, ev10, E⟩ := E
    refine go_getP (n := 11) ev10 fl_RX11_230 rfl dX11_fill_8 rfl ?_
    refine go_aload_n (j := 0) (n := 12) rfl rfl dX11_fill_11 rfl ?_
    replace E := Option.bind_eq_some_iff.mp E; obtain ⟨v11, ev11, E⟩ := E
    refine go_getP (n := 15) ev11 fl_RX11_23 rfl dX11_fill_12 rfl ?_
    replace E := Option.bind_eq_some_iff.mp E; obtain ⟨v12, ev12, E⟩ := E
    refine go_getP (n := 18) ev12 fl_RX11_60 rfl dX11_fill_15 rfl ?_
    replace E := Option.bind_eq_some_iff.mp E; obtain ⟨a15, ea15, E⟩ := E
    obtain ⟨fa15, ga15⟩ := xrc_some ea15
    replace E := xb_some E; obtain ⟨v13, h14, ev13, E⟩ := E
    refine go_callV (y := yX0_leastLoads) (n := 21) (st := []) (as := [vr v12]) (stk9 := [vl v13]) (OX0_leastLoads ev13) yw_X0_leastLoads ci_0 ga15 wml_RX11_245 wim_X0_leastLoads wse_X0_leastLoads (Nat.le_of_ble_eq_true rfl) rfl ⟨Nat.le_of_ble_eq_true rfl, Nat.le_of_ble_eq_true rfl⟩ (Nat.le_of_ble_eq_true rfl) dX11_fill_18 rfl (by cases fa15; rfl) rfl ?_
    refine go_goto (tgt := 41) dX11_fill_21 rfl ?_
    cases E
    exact go_lreturn rfl dX11_fill_41
theorem OX11_fill {F : Nat} {l0 : Nat} {l1 : Int} {h hf : HP} {r : Int} (e : X11_fill F l0 l1 h = some (r, hf)) : Ok MX11_fill [vr (some l0), vi l1] (some (vl r)) h hf := fun K _ _ _ => SX11_fill l0 l1 h e
abbrev MX0_setFleet : MI := (RX0, cX0_setFleet, 6, none, 2, none, "setFleet")
noncomputable def X0_setFleet (F : Nat)   (l0 : Nat) (l1 : Int) (l2 : Int) (l3 : Int) (l4 : Int) (l5 : Int)  (h : HP) : Option (Unit × HP) :=
  (xgP h (some l0) 0 10 4).bind fun v1 =>
  (xsI h v1 0 l1).bind fun h2 =>
  (xgP h2 (some l0) 0 10 4).bind fun v3 =>
  (xsI h2 v3 1 l2).bind fun h4 =>
  (xgP h4 (some l0) 0 10 4).bind fun v5 =>
  (xsI h4 v5 2 l3).bind fun h6 =>
  (xpI h6 (some l0) 0 10 6 l4).bind fun h7 =>
  (xpI h7 (some l0) 0 10 7 l5).bind fun h8 =>
  some ((), h8)
set_option maxRecDepth 100000 in
theorem SX0_setFleet {K : Ctx} {F : Nat} {r : Unit} {hf : HP}     (l0 : Nat) (l1 : Int) (l2 : Int) (l3 : Int) (l4 : Int) (l5 : Int)  (h : HP) (E : X0_setFleet F   l0 l1 l2 l3 l4 l5 h = some (r, hf)) : Go K MX0_setFleet (QM K none hf) hf 0 [(0, vr (some l0)), (1, vi l1), (2, vi l2), (3, vi l3), (4, vi l4), (5, vi l5)] [] h := by
  unfold X0_setFleet at E
  refine go_aload_n (j := 0) (n := 1) rfl rfl dX0_setFleet_0 rfl ?_
  replace E := Option.bind_eq_some_iff.mp E; obtain ⟨v1, ev1, E⟩ := E
  refine go_getP (n := 4) ev1 fl_RX0_24 rfl dX0_setFleet_1 rfl ?_
  refine go_iconst (z := 0) (n := 5) ⟨by decide, by decide⟩ dX0_setFleet_4 rfl ?_
  refine go_iload_n (j := 1) (n := 6) rfl rfl dX0_setFleet_5 rfl ?_
  replace E := Option.bind_eq_some_iff.mp E; obtain ⟨h2, eh2, E⟩ := E
  refine go_iastore (n := 7) eh2 dX0_setFleet_6 rfl ?_
  refine go_aload_n (j := 0) (n := 8) rfl rfl dX0_setFleet_7 rfl ?_
  replace E := Option.bind_eq_some_iff.mp E; obtain ⟨v3, ev3, E⟩ := E
  refine go_getP (n := 11) ev3 fl_RX0_24 rfl dX0_setFleet_8 rfl ?_
  refine go_iconst (z := 1) (n := 12) ⟨by decide, by decide⟩ dX0_setFleet_11 rfl ?_
  refine go_iload_n (j := 2) (n := 13) rfl rfl dX0_setFleet_12 rfl ?_
  replace E := Option.bind_eq_some_iff.mp E; obtain ⟨h4, eh4, E⟩ := E
  refine go_iastore (n := 14) eh4 dX0_setFleet_13 rfl ?_
  refine go_aload_n (j := 0) (n := 15) rfl rfl dX0_setFleet_14 rfl ?_
  replace E := Option.bind_eq_some_iff.mp E; obtain ⟨v5, ev5, E⟩ := E
  refine go_getP (n := 18) ev5 fl_RX0_24 rfl dX0_setFleet_15 rfl ?_
  refine go_iconst (z := 2) (n := 19) ⟨by decide, by decide⟩ dX0_setFleet_18 rfl ?_
  refine go_iload_n (j := 3) (n := 20) rfl rfl dX0_setFleet_19 rfl ?_
  replace E := Option.bind_eq_some_iff.mp E; obtain ⟨h6, eh6, E⟩ := E
  refine go_iastore (n := 21) eh6 dX0_setFleet_20 rfl ?_
  refine go_aload_n (j := 0) (n := 22) rfl rfl dX0_setFleet_21 rfl ?_
  refine go_iload (j := 4) (n := 24) rfl dX0_setFleet_22 rfl ?_
  replace E := Option.bind_eq_some_iff.mp E; obtain ⟨h7, eh7, E⟩ := E
  refine go_putI (n := 27) eh7 fl_RX0_43 rfl dX0_setFleet_24 rfl ?_
  refine go_aload_n (j := 0) (n := 28) rfl rfl dX0_setFleet_27 rfl ?_
  refine go_iload (j := 5) (n := 30) rfl dX0_setFleet_28 rfl ?_
  replace E := Option.bind_eq_some_iff.mp E; obtain ⟨h8, eh8, E⟩ := E
  refine go_putI (n := 33) eh8 fl_RX0_47 rfl dX0_setFleet_30 rfl ?_
  cases E
  exact go_return rfl dX0_setFleet_33
theorem OX0_setFleet {F : Nat} {l0 : Nat} {l1 : Int} {l2 : Int} {l3 : Int} {l4 : Int} {l5 : Int} {h hf : HP} {r : Unit} (e : X0_setFleet F l0 l1 l2 l3 l4 l5 h = some (r, hf)) : Ok MX0_setFleet [vr (some l0), vi l1, vi l2, vi l3, vi l4, vi l5] none h hf := fun K _ _ _ => SX0_setFleet l0 l1 l2 l3 l4 l5 h e
theorem wk_RX11_240 : Cond.constant RX11 240 (Int32.ofInt 100000000) ∈ BW := bw_of 1618 (by decide +kernel) rfl
theorem wk_RX11_241 : Cond.constant RX11 241 (Int32.ofInt 1000000) ∈ BW := bw_of 1619 (by decide +kernel) rfl
theorem yw_X0_setFleet : YW yX0_setFleet cX0_setFleet 6 none 5 := ⟨bw_of 1623 (by decide +kernel) rfl, bw_of 125 (by decide +kernel) rfl, ⟨by decide +kernel, by decide +kernel, by decide +kernel⟩, by decide +kernel⟩
theorem wml_RX11_242 : Cond.methodLink RX11 242 yX0_setFleet ∈ BW := bw_of 1620 (by decide +kernel) rfl
theorem wim_X0_setFleet : Cond.instanceMethod yX0_setFleet ∈ BW := bw_of 1621 (by decide +kernel) rfl
theorem wse_X0_setFleet : Cond.selects RX0 yX0_setFleet yX0_setFleet ∈ BW := bw_of 1622 (by decide +kernel) rfl
abbrev MX11_fleet : MI := (RX11, cX11_fleet, 6, none, 13, some [], "fleet")
noncomputable def X11_fleet (F : Nat)   (l0 : Nat) (l1 : Int) (l2 : Int) (l3 : Int) (l4 : Int) (l5 : Int)  (h : HP) : Option ((String ⊕ Unit) × HP) :=
  xth (X11_needNumber F l1 0 100000000 h) fun v1 h2 =>
  xth (X11_needNumber F l2 0 100000000 h2) fun v3 h4 =>
  xth (X11_needNumber F l3 0 100000000 h4) fun v5 h6 =>
  xth (X11_needNumber F l4 0 1000000 h6) fun v7 h8 =>
  xth (X11_needNumber F l5 0 1000000 h8) fun v9 h10 =>
  (xgP h10 (some l0) 11 6 2).bind fun v11 =>
  (xgP h10 v11 4 12 4).bind fun v12 =>
  (xrc h10 v12 0 10).bind fun a15 =>
  xb (X0_setFleet F a15 l1 l2 l3 l4 l5 h10) fun v13 h14 =>
  some (.inr (), h14)
set_option maxRecDepth 100000 in
theorem SX11_fleet {K : Ctx} {F : Nat} {r : String ⊕ Unit} {hf : HP}     (l0 : Nat) (l1 : Int) (l2 : Int) (l3 : Int) (l4 : Int) (l5 : Int)  (h : HP) (E : X11_fleet F   l0 l1 l2 l3 l4 l5 h = some (r, hf)) : Go K MX11_fleet (QMX K (rU r) hf) hf 0 [(0, vr (some l0)), (1, vi l1), (2, vi l2), (3, vi l3), (4, vi l4), (5, vi l5)] [] h := by
  unfold X11_fleet at E
  refine go_iload_n (j := 1) (n := 1) rfl rfl dX11_fleet_0 rfl ?_
  refine go_iconst (z := 0) (n := 2) ⟨by decide, by decide⟩ dX11_fleet_1 rfl ?_
  refine go_ldc (z := 100000000) (n := 4) ⟨by decide, by decide⟩ wk_RX11_240 dX11_fleet_2 rfl ?_
  replace E := xth_some E; rcases E with ⟨x20, ev1, rfl⟩ | ⟨v1, h2, ev1, E⟩
  · exact go_callXSt (y := yX11_needNumber) (as := [vi l1, vi 0, vi 100000000]) (st := []) (OXX11_needNumber ev1) yw_X11_needNumber wml_RX11_44 wst_X11_needNumber (Nat.le_of_ble_eq_true rfl) rfl ⟨Nat.le_of_ble_eq_true rfl, Nat.le_of_ble_eq_true rfl⟩ (Nat.le_of_ble_eq_true rfl) dX11_fleet_4 rfl rfl
  refine go_callXSr (y := yX11_needNumber) (n := 7) (st := []) (as := [vi l1, vi 0, vi 100000000]) (stk9 := []) (OXX11_needNumber ev1) yw_X11_needNumber wml_RX11_44 wst_X11_needNumber (Nat.le_of_ble_eq_true rfl) rfl ⟨Nat.le_of_ble_eq_true rfl, Nat.le_of_ble_eq_true rfl⟩ (Nat.le_of_ble_eq_true rfl) dX11_fleet_4 rfl rfl rfl ?_
  refine go_iload_n (j := 2) (n := 8) rfl rfl dX11_fleet_7 rfl ?_
  refine go_iconst (z := 0) (n := 9) ⟨by decide, by decide⟩ dX11_fleet_8 rfl ?_
  refine go_ldc (z := 100000000) (n := 11) ⟨by decide, by decide⟩ wk_RX11_240 dX11_fleet_9 rfl ?_
  replace E := xth_some E; rcases E with ⟨x19, ev3, rfl⟩ | ⟨v3, h4, ev3, E⟩
  · exact go_callXSt (y := yX11_needNumber) (as := [vi l2, vi 0, vi 100000000]) (st := []) (OXX11_needNumber ev3) yw_X11_needNumber wml_RX11_44 wst_X11_needNumber (Nat.le_of_ble_eq_true rfl) rfl ⟨Nat.le_of_ble_eq_true rfl, Nat.le_of_ble_eq_true rfl⟩ (Nat.le_of_ble_eq_true rfl) dX11_fleet_11 rfl rfl
  refine go_callXSr (y := yX11_needNumber) (n := 14) (st := []) (as := [vi l2, vi 0, vi 100000000]) (stk9 := []) (OXX11_needNumber ev3) yw_X11_needNumber wml_RX11_44 wst_X11_needNumber (Nat.le_of_ble_eq_true rfl) rfl ⟨Nat.le_of_ble_eq_true rfl, Nat.le_of_ble_eq_true rfl⟩ (Nat.le_of_ble_eq_true rfl) dX11_fleet_11 rfl rfl rfl ?_
  refine go_iload_n (j := 3) (n := 15) rfl rfl dX11_fleet_14 rfl ?_
  refine go_iconst (z := 0) (n := 16) ⟨by decide, by decide⟩ dX11_fleet_15 rfl ?_
  refine go_ldc (z := 100000000) (n := 18) ⟨by decide, by decide⟩ wk_RX11_240 dX11_fleet_16 rfl ?_
  replace E := xth_some E; rcases E with ⟨x18, ev5, rfl⟩ | ⟨v5, h6, ev5, E⟩
  · exact go_callXSt (y := yX11_needNumber) (as := [vi l3, vi 0, vi 100000000]) (st := []) (OXX11_needNumber ev5) yw_X11_needNumber wml_RX11_44 wst_X11_needNumber (Nat.le_of_ble_eq_true rfl) rfl ⟨Nat.le_of_ble_eq_true rfl, Nat.le_of_ble_eq_true rfl⟩ (Nat.le_of_ble_eq_true rfl) dX11_fleet_18 rfl rfl
  refine go_callXSr (y := yX11_needNumber) (n := 21) (st := []) (as := [vi l3, vi 0, vi 100000000]) (stk9 := []) (OXX11_needNumber ev5) yw_X11_needNumber wml_RX11_44 wst_X11_needNumber (Nat.le_of_ble_eq_true rfl) rfl ⟨Nat.le_of_ble_eq_true rfl, Nat.le_of_ble_eq_true rfl⟩ (Nat.le_of_ble_eq_true rfl) dX11_fleet_18 rfl rfl rfl ?_
  refine go_iload (j := 4) (n := 23) rfl dX11_fleet_21 rfl ?_
  refine go_iconst (z := 0) (n := 24) ⟨by decide, by decide⟩ dX11_fleet_23 rfl ?_
  refine go_ldc (z := 1000000) (n := 26) ⟨by decide, by decide⟩ wk_RX11_241 dX11_fleet_24 rfl ?_
  replace E := xth_some E; rcases E with ⟨x17, ev7, rfl⟩ | ⟨v7, h8, ev7, E⟩
  · exact go_callXSt (y := yX11_needNumber) (as := [vi l4, vi 0, vi 1000000]) (st := []) (OXX11_needNumber ev7) yw_X11_needNumber wml_RX11_44 wst_X11_needNumber (Nat.le_of_ble_eq_true rfl) rfl ⟨Nat.le_of_ble_eq_true rfl, Nat.le_of_ble_eq_true rfl⟩ (Nat.le_of_ble_eq_true rfl) dX11_fleet_26 rfl rfl
  refine go_callXSr (y := yX11_needNumber) (n := 29) (st := []) (as := [vi l4, vi 0, vi 1000000]) (stk9 := []) (OXX11_needNumber ev7) yw_X11_needNumber wml_RX11_44 wst_X11_needNumber (Nat.le_of_ble_eq_true rfl) rfl ⟨Nat.le_of_ble_eq_true rfl, Nat.le_of_ble_eq_true rfl⟩ (Nat.le_of_ble_eq_true rfl) dX11_fleet_26 rfl rfl rfl ?_
  refine go_iload (j := 5) (n := 31) rfl dX11_fleet_29 rfl ?_
  refine go_iconst (z := 0) (n := 32) ⟨by decide, by decide⟩ dX11_fleet_31 rfl ?_
  refine go_ldc (z := 1000000) (n := 34) ⟨by decide, by decide⟩ wk_RX11_241 dX11_fleet_32 rfl ?_
  replace E := xth_some E; rcases E with ⟨x16, ev9, rfl⟩ | ⟨v9, h10, ev9, E⟩
  · exact go_callXSt (y := yX11_needNumber) (as := [vi l5, vi 0, vi 1000000]) (st := []) (OXX11_needNumber ev9) yw_X11_needNumber wml_RX11_44 wst_X11_needNumber (Nat.le_of_ble_eq_true rfl) rfl ⟨Nat.le_of_ble_eq_true rfl, Nat.le_of_ble_eq_true rfl⟩ (Nat.le_of_ble_eq_true rfl) dX11_fleet_34 rfl rfl
  refine go_callXSr (y := yX11_needNumber) (n := 37) (st := []) (as := [vi l5, vi 0, vi 1000000]) (stk9 := []) (OXX11_needNumber ev9) yw_X11_needNumber wml_RX11_44 wst_X11_needNumber (Nat.le_of_ble_eq_true rfl) rfl ⟨Nat.le_of_ble_eq_true rfl, Nat.le_of_ble_eq_true rfl⟩ (Nat.le_of_ble_eq_true rfl) dX11_fleet_34 rfl rfl rfl ?_
  refine go_aload_n (j := 0) (n := 38) rfl rfl dX11_fleet_37 rfl ?_
  replace E := Option.bind_eq_some_iff.mp E; obtain ⟨v11, ev11, E⟩ := E
  refine go_getP (n := 41) ev11 fl_RX11_23 rfl dX11_fleet_38 rfl ?_
  replace E := Option.bind_eq_some_iff.mp E; obtain ⟨v12, ev12, E⟩ := E
  refine go_getP (n := 44) ev12 fl_RX11_230 rfl dX11_fleet_41 rfl ?_
  refine go_iload_n (j := 1) (n := 45) rfl rfl dX11_fleet_44 rfl ?_
  refine go_iload_n (j := 2) (n := 46) rfl rfl dX11_fleet_45 rfl ?_
  refine go_iload_n (j := 3) (n := 47) rfl rfl dX11_fleet_46 rfl ?_
  refine go_iload (j := 4) (n := 49) rfl dX11_fleet_47 rfl ?_
  refine go_iload (j := 5) (n := 51) rfl dX11_fleet_49 rfl ?_
  replace E := Option.bind_eq_some_iff.mp E; obtain ⟨a15, ea15, E⟩ := E
  obtain ⟨fa15, ga15⟩ := xrc_some ea15
  replace E := xb_some E; obtain ⟨v13, h14, ev13, E⟩ := E
  refine go_callV (y := yX0_setFleet) (n := 54) (st := []) (as := [vi l1, vi l2, vi l3, vi l4, vi l5]) (stk9 := []) (OX0_setFleet ev13) yw_X0_setFleet ci_0 ga15 wml_RX11_242 wim_X0_setFleet wse_X0_setFleet (Nat.le_of_ble_eq_true rfl) rfl ⟨Nat.le_of_ble_eq_true rfl, Nat.le_of_ble_eq_true rfl⟩ (Nat.le_of_ble_eq_true rfl) dX11_fleet_51 rfl (by cases fa15; rfl) rfl ?_
  cases E
  exact go_ret (go_return rfl dX11_fleet_54)
theorem OXX11_fleet {F : Nat} {l0 : Nat} {l1 : Int} {l2 : Int} {l3 : Int} {l4 : Int} {l5 : Int} {h hf : HP} {r : String ⊕ Unit} (e : X11_fleet F l0 l1 l2 l3 l4 l5 h = some (r, hf)) : OkX MX11_fleet [vr (some l0), vi l1, vi l2, vi l3, vi l4, vi l5] (rU r) h hf := fun K _ _ _ => SX11_fleet l0 l1 l2 l3 l4 l5 h e
abbrev MX10_foretold : MI := (RX10, cX10_foretold, 3, (some .int), 2, none, "foretold")
noncomputable def X10_foretold (F : Nat)   (l0 : Nat) (l1 : Int) (l2 : Int)  (h : HP) : Option (Int × HP) :=
  if l2 = 0 then
    (xgI h (some l0) 10 10 5).bind fun v1 =>
    if 0 < v1 then
      (xgI h (some l0) 10 10 6).bind fun v3 =>
      (xgI h (some l0) 10 10 5).bind fun v4 =>
      (xd v4).bind fun u5 =>
      (xgI h (some l0) 10 10 7).bind fun v6 =>
      (xgI h (some l0) 10 10 5).bind fun v7 =>
      (xd v7).bind fun u8 =>
      some (max 0 (w32 ((w32 (v3.tdiv v4)) + (w32 (2 * (w32 (l1 - (w32 (v6.tdiv v7)))))))), h)
    else
      some ((-1), h)
  else
    if l2 = 1 then
      (xgI h (some l0) 10 10 8).bind fun v9 =>
      some (v9, h)
    else
      if l2 = 2 then
        (xgI h (some l0) 10 10 9).bind fun v10 =>
        some (v10, h)
      else
        (xgI h (some l0) 10 10 5).bind fun v11 =>
        some (v11, h)
set_option maxRecDepth 100000 in
theorem SX10_foretold {K : Ctx} {F : Nat} {r : Int} {hf : HP}     (l0 : Nat) (l1 : Int) (l2 : Int)  (h : HP) (E : X10_foretold F   l0 l1 l2 h = some (r, hf)) : Go K MX10_foretold (QM K (some (vi r)) hf) hf 0 [(0, vr (some l0)), (1, vi l1), (2, vi l2)] [] h := by
  unfold X10_foretold at E
  refine go_iload_n (j := 2) (n := 1) rfl rfl dX10_foretold_0 rfl ?_
  by_cases c12 : l2 = 0
  · rw [if_pos c12] at E
    refine go_tableIn (tgt := 28) dX10_foretold_1 (by omega) (by omega) (by rw [c12]; rfl) rfl ?_
    refine go_aload_n (j := 0) (n := 29) rfl rfl dX10_foretold_28 rfl ?_
    replace E := Option.bind_eq_some_iff.mp E; obtain ⟨v1, ev1, E⟩ := E
    refine go_getI (n := 32) ev1 fl_RX10_28 rfl dX10_foretold_29 rfl ?_
    refine go_if_gt (tgt := 39) (n := 35) dX10_foretold_32 rfl rfl (fun c2 => ?_) (fun c2 => ?_)
    · rw [if_pos c2] at E
      refine go_iconst (z := 0) (n := 40) ⟨by decide, by decide⟩ dX10_foretold_39 rfl ?_
      refine go_aload_n (j := 0) (n := 41) rfl rfl dX10_foretold_40 rfl ?_
      replace E := Option.bind_eq_some_iff.mp E; obtain ⟨v3, ev3, E⟩ := E
      refine go_getI (n := 44) ev3 fl_RX10_31 rfl dX10_foretold_41 rfl ?_
      refine go_aload_n (j := 0) (n := 45) rfl rfl dX10_foretold_44 rfl ?_
      replace E := Option.bind_eq_some_iff.mp E; obtain ⟨v4, ev4, E⟩ := E
      refine go_getI (n := 48) ev4 fl_RX10_28 rfl dX10_foretold_45 rfl ?_
      replace E := Option.bind_eq_some_iff.mp E; obtain ⟨u5, eu5, E⟩ := E
      refine go_idiv (n := 49) (xd_some eu5) dX10_foretold_48 rfl ?_
      refine go_iconst (z := 2) (n := 50) ⟨by decide, by decide⟩ dX10_foretold_49 rfl ?_
      refine go_iload_n (j := 1) (n := 51) rfl rfl dX10_foretold_50 rfl ?_
      refine go_aload_n (j := 0) (n := 52) rfl rfl dX10_foretold_51 rfl ?_
      replace E := Option.bind_eq_some_iff.mp E; obtain ⟨v6, ev6, E⟩ := E
      refine go_getI (n := 55) ev6 fl_RX10_34 rfl dX10_foretold_52 rfl ?_
      refine go_aload_n (j := 0) (n := 56) rfl rfl dX10_foretold_55 rfl ?_
      replace E := Option.bind_eq_some_iff.mp E; obtain ⟨v7, ev7, E⟩ := E
      refine go_getI (n := 59) ev7 fl_RX10_28 rfl dX10_foretold_56 rfl ?_
      replace E := Option.bind_eq_some_iff.mp E; obtain ⟨u8, eu8, E⟩ := E
      refine go_idiv (n := 60) (xd_some eu8) dX10_foretold_59 rfl ?_
      refine go_isub (n := 61) dX10_foretold_60 rfl ?_
      refine go_imul (n := 62) dX10_foretold_61 rfl ?_
      refine go_iadd (n := 63) dX10_foretold_62 rfl ?_
      refine go_mmax (n := 66) wml_RX10_49 jm_max_i (Nat.le_of_ble_eq_true rfl) (Nat.le_of_ble_eq_true rfl) dX10_foretold_63 rfl ?_
      cases E
      exact go_ireturn rfl dX10_foretold_66
    · rw [if_neg c2] at E
      refine go_iconst (z := (-1)) (n := 36) ⟨by decide, by decide⟩ dX10_foretold_35 rfl ?_
      refine go_goto (tgt := 66) dX10_foretold_36 rfl ?_
      cases E
      exact go_ireturn rfl dX10_foretold_66
  rw [if_neg c12] at E
  by_cases c13 : l2 = 1
  · rw [if_pos c13] at E
    refine go_tableIn (tgt := 67) dX10_foretold_1 (by omega) (by omega) (by rw [c13]; rfl) rfl ?_
    refine go_aload_n (j := 0) (n := 68) rfl rfl dX10_foretold_67 rfl ?_
    replace E := Option.bind_eq_some_iff.mp E; obtain ⟨v9, ev9, E⟩ := E
    refine go_getI (n := 71) ev9 fl_RX10_37 rfl dX10_foretold_68 rfl ?_
    cases E
    exact go_ireturn rfl dX10_foretold_71
  rw [if_neg c13] at E
  by_cases c14 : l2 = 2
  · rw [if_pos c14] at E
    refine go_tableIn (tgt := 72) dX10_foretold_1 (by omega) (by omega) (by rw [c14]; rfl) rfl ?_
    refine go_aload_n (j := 0) (n := 73) rfl rfl dX10_foretold_72 rfl ?_
    replace E := Option.bind_eq_some_iff.mp E; obtain ⟨v10, ev10, E⟩ := E
    refine go_getI (n := 76) ev10 fl_RX10_40 rfl dX10_foretold_73 rfl ?_
    cases E
    exact go_ireturn rfl dX10_foretold_76
  rw [if_neg c14] at E
  refine go_tableOut (tgt := 77) dX10_foretold_1 (by omega) rfl ?_
  refine go_aload_n (j := 0) (n := 78) rfl rfl dX10_foretold_77 rfl ?_
  replace E := Option.bind_eq_some_iff.mp E; obtain ⟨v11, ev11, E⟩ := E
  refine go_getI (n := 81) ev11 fl_RX10_28 rfl dX10_foretold_78 rfl ?_
  cases E
  exact go_ireturn rfl dX10_foretold_81
theorem OX10_foretold {F : Nat} {l0 : Nat} {l1 : Int} {l2 : Int} {h hf : HP} {r : Int} (e : X10_foretold F l0 l1 l2 h = some (r, hf)) : Ok MX10_foretold [vr (some l0), vi l1, vi l2] (some (vi r)) h hf := fun K _ _ _ => SX10_foretold l0 l1 l2 h e
theorem yw_X10_foretold : YW yX10_foretold cX10_foretold 3 (some .int) 2 := ⟨bw_of 1588 (by decide +kernel) rfl, bw_of 124 (by decide +kernel) rfl, ⟨by decide +kernel, by decide +kernel, by decide +kernel⟩, by decide +kernel⟩
theorem wml_RX11_224 : Cond.methodLink RX11 224 yX10_foretold ∈ BW := bw_of 1585 (by decide +kernel) rfl
theorem wim_X10_foretold : Cond.instanceMethod yX10_foretold ∈ BW := bw_of 1586 (by decide +kernel) rfl
theorem wse_X10_foretold : Cond.selects RX10 yX10_foretold yX10_foretold ∈ BW := bw_of 1587 (by decide +kernel) rfl
abbrev MX11_foretell : MI := (RX11, cX11_foretell, 4, (some .int), 13, some [], "foretell")
noncomputable def X11_foretell (F : Nat)   (l0 : Nat) (l1 : Int) (l2 : Int) (l3 : Int)  (h : HP) : Option ((String ⊕ Int) × HP) :=
  xth (X11_needPlace F l1 4 h) fun v1 h2 =>
  xth (X11_needPlace F l2 4 h2) fun v3 h4 =>
  xth (X11_needWhat F l3 3 h4) fun v5 h6 =>
  (xgP h6 (some l0) 11 6 2).bind fun v7 =>
  (xgP h6 v7 4 12 3).bind fun v8 =>
  (xgP h6 (some l0) 11 6 2).bind fun v9 =>
  (xgI h6 v9 4 12 7).bind fun v10 =>
  (xrc h6 v8 10 10).bind fun a13 =>
  xb (X10_find F a13 (w32 ((w32 (4 * l1)) + l2)) v10 h6) fun v11 h12 =>
  (xgP h12 (some l0) 11 6 2).bind fun v14 =>
  (xgP h12 v14 4 12 3).bind fun v15 =>
  (xgP h12 (some l0) 11 6 2).bind fun v16 =>
  (xgI h12 v16 4 12 8).bind fun v17 =>
  (xrc h12 v15 10 10).bind fun a20 =>
  xb (X10_foretold F a20 v17 l3 h12) fun v18 h19 =>
  some (.inr v18, h19)
set_option maxRecDepth 100000 in
theorem SX11_foretell {K : Ctx} {F : Nat} {r : String ⊕ Int} {hf : HP}     (l0 : Nat) (l1 : Int) (l2 : Int) (l3 : Int)  (h : HP) (E : X11_foretell F   l0 l1 l2 l3 h = some (r, hf)) : Go K MX11_foretell (QMX K (rI r) hf) hf 0 [(0, vr (some l0)), (1, vi l1), (2, vi l2), (3, vi l3)] [] h := by
  unfold X11_foretell at E
  refine go_iload_n (j := 1) (n := 1) rfl rfl dX11_foretell_0 rfl ?_
  refine go_iconst (z := 4) (n := 2) ⟨by decide, by decide⟩ dX11_foretell_1 rfl ?_
  replace E := xth_some E; rcases E with ⟨x23, ev1, rfl⟩ | ⟨v1, h2, ev1, E⟩
  · exact go_callXSt (y := yX11_needPlace) (as := [vi l1, vi 4]) (st := []) (OXX11_needPlace ev1) yw_X11_needPlace wml_RX11_54 wst_X11_needPlace (Nat.le_of_ble_eq_true rfl) rfl ⟨Nat.le_of_ble_eq_true rfl, Nat.le_of_ble_eq_true rfl⟩ (Nat.le_of_ble_eq_true rfl) dX11_foretell_2 rfl rfl
  refine go_callXSr (y := yX11_needPlace) (n := 5) (st := []) (as := [vi l1, vi 4]) (stk9 := []) (OXX11_needPlace ev1) yw_X11_needPlace wml_RX11_54 wst_X11_needPlace (Nat.le_of_ble_eq_true rfl) rfl ⟨Nat.le_of_ble_eq_true rfl, Nat.le_of_ble_eq_true rfl⟩ (Nat.le_of_ble_eq_true rfl) dX11_foretell_2 rfl rfl rfl ?_
  refine go_iload_n (j := 2) (n := 6) rfl rfl dX11_foretell_5 rfl ?_
  refine go_iconst (z := 4) (n := 7) ⟨by decide, by decide⟩ dX11_foretell_6 rfl ?_
  replace E := xth_some E; rcases E with ⟨x22, ev3, rfl⟩ | ⟨v3, h4, ev3, E⟩
  · exact go_callXSt (y := yX11_needPlace) (as := [vi l2, vi 4]) (st := []) (OXX11_needPlace ev3) yw_X11_needPlace wml_RX11_54 wst_X11_needPlace (Nat.le_of_ble_eq_true rfl) rfl ⟨Nat.le_of_ble_eq_true rfl, Nat.le_of_ble_eq_true rfl⟩ (Nat.le_of_ble_eq_true rfl) dX11_foretell_7 rfl rfl
  refine go_callXSr (y := yX11_needPlace) (n := 10) (st := []) (as := [vi l2, vi 4]) (stk9 := []) (OXX11_needPlace ev3) yw_X11_needPlace wml_RX11_54 wst_X11_needPlace (Nat.le_of_ble_eq_true rfl) rfl ⟨Nat.le_of_ble_eq_true rfl, Nat.le_of_ble_eq_true rfl⟩ (Nat.le_of_ble_eq_true rfl) dX11_foretell_7 rfl rfl rfl ?_
  refine go_iload_n (j := 3) (n := 11) rfl rfl dX11_foretell_10 rfl ?_
  refine go_iconst (z := 3) (n := 12) ⟨by decide, by decide⟩ dX11_foretell_11 rfl ?_
  replace E := xth_some E; rcases E with ⟨x21, ev5, rfl⟩ | ⟨v5, h6, ev5, E⟩
  · exact go_callXSt (y := yX11_needWhat) (as := [vi l3, vi 3]) (st := []) (OXX11_needWhat ev5) yw_X11_needWhat wml_RX11_184 wst_X11_needWhat (Nat.le_of_ble_eq_true rfl) rfl ⟨Nat.le_of_ble_eq_true rfl, Nat.le_of_ble_eq_true rfl⟩ (Nat.le_of_ble_eq_true rfl) dX11_foretell_12 rfl rfl
  refine go_callXSr (y := yX11_needWhat) (n := 15) (st := []) (as := [vi l3, vi 3]) (stk9 := []) (OXX11_needWhat ev5) yw_X11_needWhat wml_RX11_184 wst_X11_needWhat (Nat.le_of_ble_eq_true rfl) rfl ⟨Nat.le_of_ble_eq_true rfl, Nat.le_of_ble_eq_true rfl⟩ (Nat.le_of_ble_eq_true rfl) dX11_foretell_12 rfl rfl rfl ?_
  refine go_aload_n (j := 0) (n := 16) rfl rfl dX11_foretell_15 rfl ?_
  replace E := Option.bind_eq_some_iff.mp E; obtain ⟨v7, ev7, E⟩ := E
  refine go_getP (n := 19) ev7 fl_RX11_23 rfl dX11_foretell_16 rfl ?_
  replace E := Option.bind_eq_some_iff.mp E; obtain ⟨v8, ev8, E⟩ := E
  refine go_getP (n := 22) ev8 fl_RX11_211 rfl dX11_foretell_19 rfl ?_
  refine go_iconst (z := 4) (n := 23) ⟨by decide, by decide⟩ dX11_foretell_22 rfl ?_
  refine go_iload_n (j := 1) (n := 24) rfl rfl dX11_foretell_23 rfl ?_
  refine go_imul (n := 25) dX11_foretell_24 rfl ?_
  refine go_iload_n (j := 2) (n := 26) rfl rfl dX11_foretell_25 rfl ?_
  refine go_iadd (n := 27) dX11_foretell_26 rfl ?_
  refine go_aload_n (j := 0) (n := 28) rfl rfl dX11_foretell_27 rfl ?_
  replace E := Option.bind_eq_some_iff.mp E; obtain ⟨v9, ev9, E⟩ := E
  refine go_getP (n := 31) ev9 fl_RX11_23 rfl dX11_foretell_28 rfl ?_
  replace E := Option.bind_eq_some_iff.mp E; obtain ⟨v10, ev10, E⟩ := E
  refine go_getI (n := 34) ev10 fl_RX11_48 rfl dX11_foretell_31 rfl ?_
  replace E := Option.bind_eq_some_iff.mp E; obtain ⟨a13, ea13, E⟩ := E
  obtain ⟨fa13, ga13⟩ := xrc_some ea13
  replace E := xb_some E; obtain ⟨v11, h12, ev11, E⟩ := E
  refine go_callV (y := yX10_find) (n := 37) (st := []) (as := [vi (w32 ((w32 (4 * l1)) + l2)), vi v10]) (stk9 := []) (OX10_find ev11) yw_X10_find ci_10 ga13 wml_RX11_221 wim_X10_find wse_X10_find (Nat.le_of_ble_eq_true rfl) rfl ⟨Nat.le_of_ble_eq_true rfl, Nat.le_of_ble_eq_true rfl⟩ (Nat.le_of_ble_eq_true rfl) dX11_foretell_34 rfl (by cases fa13; rfl) rfl ?_
  refine go_aload_n (j := 0) (n := 38) rfl rfl dX11_foretell_37 rfl ?_
  replace E := Option.bind_eq_some_iff.mp E; obtain ⟨v14, ev14, E⟩ := E
  refine go_getP (n := 41) ev14 fl_RX11_23 rfl dX11_foretell_38 rfl ?_
  replace E := Option.bind_eq_some_iff.mp E; obtain ⟨v15, ev15, E⟩ := E
  refine go_getP (n := 44) ev15 fl_RX11_211 rfl dX11_foretell_41 rfl ?_
  refine go_aload_n (j := 0) (n := 45) rfl rfl dX11_foretell_44 rfl ?_
  replace E := Option.bind_eq_some_iff.mp E; obtain ⟨v16, ev16, E⟩ := E
  refine go_getP (n := 48) ev16 fl_RX11_23 rfl dX11_foretell_45 rfl ?_
  replace E := Option.bind_eq_some_iff.mp E; obtain ⟨v17, ev17, E⟩ := E
  refine go_getI (n := 51) ev17 fl_RX11_51 rfl dX11_foretell_48 rfl ?_
  refine go_iload_n (j := 3) (n := 52) rfl rfl dX11_foretell_51 rfl ?_
  replace E := Option.bind_eq_some_iff.mp E; obtain ⟨a20, ea20, E⟩ := E
  obtain ⟨fa20, ga20⟩ := xrc_some ea20
  replace E := xb_some E; obtain ⟨v18, h19, ev18, E⟩ := E
  refine go_callV (y := yX10_foretold) (n := 55) (st := []) (as := [vi v17, vi l3]) (stk9 := [vi v18]) (OX10_foretold ev18) yw_X10_foretold ci_10 ga20 wml_RX11_224 wim_X10_foretold wse_X10_foretold (Nat.le_of_ble_eq_true rfl) rfl ⟨Nat.le_of_ble_eq_true rfl, Nat.le_of_ble_eq_true rfl⟩ (Nat.le_of_ble_eq_true rfl) dX11_foretell_52 rfl (by cases fa20; rfl) rfl ?_
  cases E
  exact go_ret (go_ireturn rfl dX11_foretell_55)
theorem OXX11_foretell {F : Nat} {l0 : Nat} {l1 : Int} {l2 : Int} {l3 : Int} {h hf : HP} {r : String ⊕ Int} (e : X11_foretell F l0 l1 l2 l3 h = some (r, hf)) : OkX MX11_foretell [vr (some l0), vi l1, vi l2, vi l3] (rI r) h hf := fun K _ _ _ => SX11_foretell l0 l1 l2 l3 h e
abbrev MX0_setGood : MI := (RX0, cX0_setGood, 6, none, 2, none, "setGood")
noncomputable def X0_setGood (F : Nat)   (l0 : Nat) (l1 : Int) (l2 : Int) (l3 : Int) (l4 : Int) (l5 : Int)  (h : HP) : Option (Unit × HP) :=
  if l1 < 0 then
    some ((), h)
  else
    if 4 ≤ l1 then
      some ((), h)
    else
      (xgP h (some l0) 0 10 0).bind fun v3 =>
      (xsI h v3 l1 l2).bind fun h4 =>
      (xgP h4 (some l0) 0 10 1).bind fun v5 =>
      (xsI h4 v5 l1 l3).bind fun h6 =>
      (xgP h6 (some l0) 0 10 2).bind fun v7 =>
      (xsI h6 v7 l1 l4).bind fun h8 =>
      (xgP h8 (some l0) 0 10 3).bind fun v9 =>
      (xsI h8 v9 l1 l5).bind fun h10 =>
      some ((), h10)
set_option maxRecDepth 100000 in
theorem SX0_setGood {K : Ctx} {F : Nat} {r : Unit} {hf : HP}     (l0 : Nat) (l1 : Int) (l2 : Int) (l3 : Int) (l4 : Int) (l5 : Int)  (h : HP) (E : X0_setGood F   l0 l1 l2 l3 l4 l5 h = some (r, hf)) : Go K MX0_setGood (QM K none hf) hf 0 [(0, vr (some l0)), (1, vi l1), (2, vi l2), (3, vi l3), (4, vi l4), (5, vi l5)] [] h := by
  unfold X0_setGood at E
  refine go_iload_n (j := 1) (n := 1) rfl rfl dX0_setGood_0 rfl ?_
  refine go_if_lt (tgt := 39) (n := 4) dX0_setGood_1 rfl rfl (fun c1 => ?_) (fun c1 => ?_)
  · rw [if_pos c1] at E
    cases E
    exact go_return rfl dX0_setGood_39
  · rw [if_neg c1] at E
    refine go_iload_n (j := 1) (n := 5) rfl rfl dX0_setGood_4 rfl ?_
    refine go_iconst (z := 4) (n := 6) ⟨by decide, by decide⟩ dX0_setGood_5 rfl ?_
    refine go_icmp_ge (tgt := 39) (n := 9) dX0_setGood_6 rfl rfl (fun c2 => ?_) (fun c2 => ?_)
    · rw [if_pos c2] at E
      cases E
      exact go_return rfl dX0_setGood_39
    · rw [if_neg c2] at E
      refine go_aload_n (j := 0) (n := 10) rfl rfl dX0_setGood_9 rfl ?_
      replace E := Option.bind_eq_some_iff.mp E; obtain ⟨v3, ev3, E⟩ := E
      refine go_getP (n := 13) ev3 fl_RX0_9 rfl dX0_setGood_10 rfl ?_
      refine go_iload_n (j := 1) (n := 14) rfl rfl dX0_setGood_13 rfl ?_
      refine go_iload_n (j := 2) (n := 15) rfl rfl dX0_setGood_14 rfl ?_
      replace E := Option.bind_eq_some_iff.mp E; obtain ⟨h4, eh4, E⟩ := E
      refine go_iastore (n := 16) eh4 dX0_setGood_15 rfl ?_
      refine go_aload_n (j := 0) (n := 17) rfl rfl dX0_setGood_16 rfl ?_
      replace E := Option.bind_eq_some_iff.mp E; obtain ⟨v5, ev5, E⟩ := E
      refine go_getP (n := 20) ev5 fl_RX0_15 rfl dX0_setGood_17 rfl ?_
      refine go_iload_n (j := 1) (n := 21) rfl rfl dX0_setGood_20 rfl ?_
      refine go_iload_n (j := 3) (n := 22) rfl rfl dX0_setGood_21 rfl ?_
      replace E := Option.bind_eq_some_iff.mp E; obtain ⟨h6, eh6, E⟩ := E
      refine go_iastore (n := 23) eh6 dX0_setGood_22 rfl ?_
      refine go_aload_n (j := 0) (n := 24) rfl rfl dX0_setGood_23 rfl ?_
      replace E := Option.bind_eq_some_iff.mp E; obtain ⟨v7, ev7, E⟩ := E
      refine go_getP (n := 27) ev7 fl_RX0_18 rfl dX0_setGood_24 rfl ?_
      refine go_iload_n (j := 1) (n := 28) rfl rfl dX0_setGood_27 rfl ?_
      refine go_iload (j := 4) (n := 30) rfl dX0_setGood_28 rfl ?_
      replace E := Option.bind_eq_some_iff.mp E; obtain ⟨h8, eh8, E⟩ := E
      refine go_iastore (n := 31) eh8 dX0_setGood_30 rfl ?_
      refine go_aload_n (j := 0) (n := 32) rfl rfl dX0_setGood_31 rfl ?_
      replace E := Option.bind_eq_some_iff.mp E; obtain ⟨v9, ev9, E⟩ := E
      refine go_getP (n := 35) ev9 fl_RX0_21 rfl dX0_setGood_32 rfl ?_
      refine go_iload_n (j := 1) (n := 36) rfl rfl dX0_setGood_35 rfl ?_
      refine go_iload (j := 5) (n := 38) rfl dX0_setGood_36 rfl ?_
      replace E := Option.bind_eq_some_iff.mp E; obtain ⟨h10, eh10, E⟩ := E
      refine go_iastore (n := 39) eh10 dX0_setGood_38 rfl ?_
      cases E
      exact go_return rfl dX0_setGood_39
theorem OX0_setGood {F : Nat} {l0 : Nat} {l1 : Int} {l2 : Int} {l3 : Int} {l4 : Int} {l5 : Int} {h hf : HP} {r : Unit} (e : X0_setGood F l0 l1 l2 l3 l4 l5 h = some (r, hf)) : Ok MX0_setGood [vr (some l0), vi l1, vi l2, vi l3, vi l4, vi l5] none h hf := fun K _ _ _ => SX0_setGood l0 l1 l2 l3 l4 l5 h e
theorem yw_X0_setGood : YW yX0_setGood cX0_setGood 6 none 5 := ⟨bw_of 1610 (by decide +kernel) rfl, bw_of 125 (by decide +kernel) rfl, ⟨by decide +kernel, by decide +kernel, by decide +kernel⟩, by decide +kernel⟩
theorem wml_RX11_234 : Cond.methodLink RX11 234 yX0_setGood ∈ BW := bw_of 1607 (by decide +kernel) rfl
theorem wim_X0_setGood : Cond.instanceMethod yX0_setGood ∈ BW := bw_of 1608 (by decide +kernel) rfl
theorem wse_X0_setGood : Cond.selects RX0 yX0_setGood yX0_setGood ∈ BW := bw_of 1609 (by decide +kernel) rfl
abbrev MX11_good : MI := (RX11, cX11_good, 6, none, 13, some [], "good")
noncomputable def X11_good (F : Nat)   (l0 : Nat) (l1 : Int) (l2 : Int) (l3 : Int) (l4 : Int) (l5 : Int)  (h : HP) : Option ((String ⊕ Unit) × HP) :=
  xth (X11_needPlace F l1 4 h) fun v1 h2 =>
  xth (X11_needNumber F l2 1 9999 h2) fun v3 h4 =>
  xth (X11_needNumber F l3 1 100 h4) fun v5 h6 =>
  xth (X11_needNumber F l4 1 100 h6) fun v7 h8 =>
  xth (X11_needNumber F l5 0 9999 h8) fun v9 h10 =>
  (xgP h10 (some l0) 11 6 2).bind fun v11 =>
  (xgP h10 v11 4 12 4).bind fun v12 =>
  (xrc h10 v12 0 10).bind fun a15 =>
  xb (X0_setGood F a15 l1 l2 l3 l4 l5 h10) fun v13 h14 =>
  some (.inr (), h14)
set_option maxRecDepth 100000 in
theorem SX11_good {K : Ctx} {F : Nat} {r : String ⊕ Unit} {hf : HP}     (l0 : Nat) (l1 : Int) (l2 : Int) (l3 : Int) (l4 : Int) (l5 : Int)  (h : HP) (E : X11_good F   l0 l1 l2 l3 l4 l5 h = some (r, hf)) : Go K MX11_good (QMX K (rU r) hf) hf 0 [(0, vr (some l0)), (1, vi l1), (2, vi l2), (3, vi l3), (4, vi l4), (5, vi l5)] [] h := by
  unfold X11_good at E
  refine go_iload_n (j := 1) (n := 1) rfl rfl dX11_good_0 rfl ?_
  refine go_iconst (z := 4) (n := 2) ⟨by decide, by decide⟩ dX11_good_1 rfl ?_
  replace E := xth_some E; rcases E with ⟨x20, ev1, rfl⟩ | ⟨v1, h2, ev1, E⟩
  · exact go_callXSt (y := yX11_needPlace) (as := [vi l1, vi 4]) (st := []) (OXX11_needPlace ev1) yw_X11_needPlace wml_RX11_54 wst_X11_needPlace (Nat.le_of_ble_eq_true rfl) rfl ⟨Nat.le_of_ble_eq_true rfl, Nat.le_of_ble_eq_true rfl⟩ (Nat.le_of_ble_eq_true rfl) dX11_good_2 rfl rfl
  refine go_callXSr (y := yX11_needPlace) (n := 5) (st := []) (as := [vi l1, vi 4]) (stk9 := []) (OXX11_needPlace ev1) yw_X11_needPlace wml_RX11_54 wst_X11_needPlace (Nat.le_of_ble_eq_true rfl) rfl ⟨Nat.le_of_ble_eq_true rfl, Nat.le_of_ble_eq_true rfl⟩ (Nat.le_of_ble_eq_true rfl) dX11_good_2 rfl rfl rfl ?_
  refine go_iload_n (j := 2) (n := 6) rfl rfl dX11_good_5 rfl ?_
  refine go_iconst (z := 1) (n := 7) ⟨by decide, by decide⟩ dX11_good_6 rfl ?_
  refine go_sipush (z := 9999) (n := 10) ⟨by decide, by decide⟩ dX11_good_7 rfl ?_
  replace E := xth_some E; rcases E with ⟨x19, ev3, rfl⟩ | ⟨v3, h4, ev3, E⟩
  · exact go_callXSt (y := yX11_needNumber) (as := [vi l2, vi 1, vi 9999]) (st := []) (OXX11_needNumber ev3) yw_X11_needNumber wml_RX11_44 wst_X11_needNumber (Nat.le_of_ble_eq_true rfl) rfl ⟨Nat.le_of_ble_eq_true rfl, Nat.le_of_ble_eq_true rfl⟩ (Nat.le_of_ble_eq_true rfl) dX11_good_10 rfl rfl
  refine go_callXSr (y := yX11_needNumber) (n := 13) (st := []) (as := [vi l2, vi 1, vi 9999]) (stk9 := []) (OXX11_needNumber ev3) yw_X11_needNumber wml_RX11_44 wst_X11_needNumber (Nat.le_of_ble_eq_true rfl) rfl ⟨Nat.le_of_ble_eq_true rfl, Nat.le_of_ble_eq_true rfl⟩ (Nat.le_of_ble_eq_true rfl) dX11_good_10 rfl rfl rfl ?_
  refine go_iload_n (j := 3) (n := 14) rfl rfl dX11_good_13 rfl ?_
  refine go_iconst (z := 1) (n := 15) ⟨by decide, by decide⟩ dX11_good_14 rfl ?_
  refine go_bipush (z := 100) (n := 17) ⟨by decide, by decide⟩ dX11_good_15 rfl ?_
  replace E := xth_some E; rcases E with ⟨x18, ev5, rfl⟩ | ⟨v5, h6, ev5, E⟩
  · exact go_callXSt (y := yX11_needNumber) (as := [vi l3, vi 1, vi 100]) (st := []) (OXX11_needNumber ev5) yw_X11_needNumber wml_RX11_44 wst_X11_needNumber (Nat.le_of_ble_eq_true rfl) rfl ⟨Nat.le_of_ble_eq_true rfl, Nat.le_of_ble_eq_true rfl⟩ (Nat.le_of_ble_eq_true rfl) dX11_good_17 rfl rfl
  refine go_callXSr (y := yX11_needNumber) (n := 20) (st := []) (as := [vi l3, vi 1, vi 100]) (stk9 := []) (OXX11_needNumber ev5) yw_X11_needNumber wml_RX11_44 wst_X11_needNumber (Nat.le_of_ble_eq_true rfl) rfl ⟨Nat.le_of_ble_eq_true rfl, Nat.le_of_ble_eq_true rfl⟩ (Nat.le_of_ble_eq_true rfl) dX11_good_17 rfl rfl rfl ?_
  refine go_iload (j := 4) (n := 22) rfl dX11_good_20 rfl ?_
  refine go_iconst (z := 1) (n := 23) ⟨by decide, by decide⟩ dX11_good_22 rfl ?_
  refine go_bipush (z := 100) (n := 25) ⟨by decide, by decide⟩ dX11_good_23 rfl ?_
  replace E := xth_some E; rcases E with ⟨x17, ev7, rfl⟩ | ⟨v7, h8, ev7, E⟩
  · exact go_callXSt (y := yX11_needNumber) (as := [vi l4, vi 1, vi 100]) (st := []) (OXX11_needNumber ev7) yw_X11_needNumber wml_RX11_44 wst_X11_needNumber (Nat.le_of_ble_eq_true rfl) rfl ⟨Nat.le_of_ble_eq_true rfl, Nat.le_of_ble_eq_true rfl⟩ (Nat.le_of_ble_eq_true rfl) dX11_good_25 rfl rfl
  refine go_callXSr (y := yX11_needNumber) (n := 28) (st := []) (as := [vi l4, vi 1, vi 100]) (stk9 := []) (OXX11_needNumber ev7) yw_X11_needNumber wml_RX11_44 wst_X11_needNumber (Nat.le_of_ble_eq_true rfl) rfl ⟨Nat.le_of_ble_eq_true rfl, Nat.le_of_ble_eq_true rfl⟩ (Nat.le_of_ble_eq_true rfl) dX11_good_25 rfl rfl rfl ?_
  refine go_iload (j := 5) (n := 30) rfl dX11_good_28 rfl ?_
  refine go_iconst (z := 0) (n := 31) ⟨by decide, by decide⟩ dX11_good_30 rfl ?_
  refine go_sipush (z := 9999) (n := 34) ⟨by decide, by decide⟩ dX11_good_31 rfl ?_
  replace E := xth_some E; rcases E with ⟨x16, ev9, rfl⟩ | ⟨v9, h10, ev9, E⟩
  · exact go_callXSt (y := yX11_needNumber) (as := [vi l5, vi 0, vi 9999]) (st := []) (OXX11_needNumber ev9) yw_X11_needNumber wml_RX11_44 wst_X11_needNumber (Nat.le_of_ble_eq_true rfl) rfl ⟨Nat.le_of_ble_eq_true rfl, Nat.le_of_ble_eq_true rfl⟩ (Nat.le_of_ble_eq_true rfl) dX11_good_34 rfl rfl
  refine go_callXSr (y := yX11_needNumber) (n := 37) (st := []) (as := [vi l5, vi 0, vi 9999]) (stk9 := []) (OXX11_needNumber ev9) yw_X11_needNumber wml_RX11_44 wst_X11_needNumber (Nat.le_of_ble_eq_true rfl) rfl ⟨Nat.le_of_ble_eq_true rfl, Nat.le_of_ble_eq_true rfl⟩ (Nat.le_of_ble_eq_true rfl) dX11_good_34 rfl rfl rfl ?_
  refine go_aload_n (j := 0) (n := 38) rfl rfl dX11_good_37 rfl ?_
  replace E := Option.bind_eq_some_iff.mp E; obtain ⟨v11, ev11, E⟩ := E
  refine go_getP (n := 41) ev11 fl_RX11_23 rfl dX11_good_38 rfl ?_
  replace E := Option.bind_eq_some_iff.mp E; obtain ⟨v12, ev12, E⟩ := E
  refine go_getP (n := 44) ev12 fl_RX11_230 rfl dX11_good_41 rfl ?_
  refine go_iload_n (j := 1) (n := 45) rfl rfl dX11_good_44 rfl ?_
  refine go_iload_n (j := 2) (n := 46) rfl rfl dX11_good_45 rfl ?_
  refine go_iload_n (j := 3) (n := 47) rfl rfl dX11_good_46 rfl ?_
  refine go_iload (j := 4) (n := 49) rfl dX11_good_47 rfl ?_
  refine go_iload (j := 5) (n := 51) rfl dX11_good_49 rfl ?_
  replace E := Option.bind_eq_some_iff.mp E; obtain ⟨a15, ea15, E⟩ := E
  obtain ⟨fa15, ga15⟩ := xrc_some ea15
  replace E := xb_some E; obtain ⟨v13, h14, ev13, E⟩ := E
  refine go_callV (y := yX0_setGood) (n := 54) (st := []) (as := [vi l1, vi l2, vi l3, vi l4, vi l5]) (stk9 := []) (OX0_setGood ev13) yw_X0_setGood ci_0 ga15 wml_RX11_234 wim_X0_setGood wse_X0_setGood (Nat.le_of_ble_eq_true rfl) rfl ⟨Nat.le_of_ble_eq_true rfl, Nat.le_of_ble_eq_true rfl⟩ (Nat.le_of_ble_eq_true rfl) dX11_good_51 rfl (by cases fa15; rfl) rfl ?_
  cases E
  exact go_ret (go_return rfl dX11_good_54)
theorem OXX11_good {F : Nat} {l0 : Nat} {l1 : Int} {l2 : Int} {l3 : Int} {l4 : Int} {l5 : Int} {h hf : HP} {r : String ⊕ Unit} (e : X11_good F l0 l1 l2 l3 l4 l5 h = some (r, hf)) : OkX MX11_good [vr (some l0), vi l1, vi l2, vi l3, vi l4, vi l5] (rU r) h hf := fun K _ _ _ => SX11_good l0 l1 l2 l3 l4 l5 h e
abbrev MX11_image : MI := (RX11, cX11_image, 1, none, 5, none, "image")
noncomputable def X11_image (F : Nat)   (l0 : Nat)  (h : HP) : Option (Unit × HP) :=
  (xgP h (some l0) 11 6 3).bind fun v1 =>
  (xgP h (some l0) 11 6 2).bind fun v2 =>
  (xrc h v1 4 12).bind fun a5 =>
  xb (X4_copyFrom F a5 v2 h) fun v3 h4 =>
  (xpZ h4 (some l0) 11 6 4 1).bind fun h6 =>
  some ((), h6)
set_option maxRecDepth 100000 in
theorem SX11_image {K : Ctx} {F : Nat} {r : Unit} {hf : HP}     (l0 : Nat)  (h : HP) (E : X11_image F   l0 h = some (r, hf)) : Go K MX11_image (QM K none hf) hf 0 [(0, vr (some l0))] [] h := by
  unfold X11_image at E
  refine go_aload_n (j := 0) (n := 1) rfl rfl dX11_image_0 rfl ?_
  replace E := Option.bind_eq_some_iff.mp E; obtain ⟨v1, ev1, E⟩ := E
  refine go_getP (n := 4) ev1 fl_RX11_27 rfl dX11_image_1 rfl ?_
  refine go_aload_n (j := 0) (n := 5) rfl rfl dX11_image_4 rfl ?_
  replace E := Option.bind_eq_some_iff.mp E; obtain ⟨v2, ev2, E⟩ := E
  refine go_getP (n := 8) ev2 fl_RX11_23 rfl dX11_image_5 rfl ?_
  replace E := Option.bind_eq_some_iff.mp E; obtain ⟨a5, ea5, E⟩ := E
  obtain ⟨fa5, ga5⟩ := xrc_some ea5
  replace E := xb_some E; obtain ⟨v3, h4, ev3, E⟩ := E
  refine go_callV (y := yX4_copyFrom) (n := 11) (st := []) (as := [vr v2]) (stk9 := []) (OX4_copyFrom ev3) yw_X4_copyFrom ci_4 ga5 wml_RX11_316 wim_X4_copyFrom wse_X4_copyFrom (Nat.le_of_ble_eq_true rfl) rfl ⟨Nat.le_of_ble_eq_true rfl, Nat.le_of_ble_eq_true rfl⟩ (Nat.le_of_ble_eq_true rfl) dX11_image_8 rfl (by cases fa5; rfl) rfl ?_
  refine go_aload_n (j := 0) (n := 12) rfl rfl dX11_image_11 rfl ?_
  refine go_iconst (z := 1) (n := 13) ⟨by decide, by decide⟩ dX11_image_12 rfl ?_
  replace E := Option.bind_eq_some_iff.mp E; obtain ⟨h6, eh6, E⟩ := E
  refine go_putZ (n := 16) eh6 fl_RX11_320 rfl dX11_image_13 rfl ?_
  cases E
  exact go_return rfl dX11_image_16
theorem OX11_image {F : Nat} {l0 : Nat} {h hf : HP} {r : Unit} (e : X11_image F l0 h = some (r, hf)) : Ok MX11_image [vr (some l0)] none h hf := fun K _ _ _ => SX11_image l0 h e
abbrev MX8_byteAt : MI := (RX8, cX8_byteAt, 2, (some .int), 2, none, "byteAt")
noncomputable def X8_byteAt (F : Nat)   (l0 : Nat) (l1 : Int)  (h : HP) : Option (Int × HP) :=
  if l1 < 0 then
    some ((-1), h)
  else
    if 400 ≤ l1 then
      some ((-1), h)
    else
      (xgP h (some l0) 8 17 0).bind fun v3 =>
      (xaI h v3 100 l1).bind fun v4 =>
      some (v4, h)
set_option maxRecDepth 100000 in
theorem SX8_byteAt {K : Ctx} {F : Nat} {r : Int} {hf : HP}     (l0 : Nat) (l1 : Int)  (h : HP) (E : X8_byteAt F   l0 l1 h = some (r, hf)) : Go K MX8_byteAt (QM K (some (vi r)) hf) hf 0 [(0, vr (some l0)), (1, vi l1)] [] h := by
  unfold X8_byteAt at E
  refine go_iload_n (j := 1) (n := 1) rfl rfl dX8_byteAt_0 rfl ?_
  refine go_if_lt (tgt := 20) (n := 4) dX8_byteAt_1 rfl rfl (fun c1 => ?_) (fun c1 => ?_)
  · rw [if_pos c1] at E
    refine go_iconst (z := (-1)) (n := 21) ⟨by decide, by decide⟩ dX8_byteAt_20 rfl ?_
    cases E
    exact go_ireturn rfl dX8_byteAt_21
  · rw [if_neg c1] at E
    refine go_iload_n (j := 1) (n := 5) rfl rfl dX8_byteAt_4 rfl ?_
    refine go_sipush (z := 400) (n := 8) ⟨by decide, by decide⟩ dX8_byteAt_5 rfl ?_
    refine go_icmp_ge (tgt := 20) (n := 11) dX8_byteAt_8 rfl rfl (fun c2 => ?_) (fun c2 => ?_)
    · rw [if_pos c2] at E
      refine go_iconst (z := (-1)) (n := 21) ⟨by decide, by decide⟩ dX8_byteAt_20 rfl ?_
      cases E
      exact go_ireturn rfl dX8_byteAt_21
    · rw [if_neg c2] at E
      refine go_aload_n (j := 0) (n := 12) rfl rfl dX8_byteAt_11 rfl ?_
      replace E := Option.bind_eq_some_iff.mp E; obtain ⟨v3, ev3, E⟩ := E
      refine go_getP (n := 15) ev3 fl_RX8_9 rfl dX8_byteAt_12 rfl ?_
      refine go_iload_n (j := 1) (n := 16) rfl rfl dX8_byteAt_15 rfl ?_
      replace E := Option.bind_eq_some_iff.mp E; obtain ⟨v4, ev4, E⟩ := E
      refine go_iaload (n := 17) ev4 dX8_byteAt_16 rfl ?_
      refine go_goto (tgt := 21) dX8_byteAt_17 rfl ?_
      cases E
      exact go_ireturn rfl dX8_byteAt_21
theorem OX8_byteAt {F : Nat} {l0 : Nat} {l1 : Int} {h hf : HP} {r : Int} (e : X8_byteAt F l0 l1 h = some (r, hf)) : Ok MX8_byteAt [vr (some l0), vi l1] (some (vi r)) h hf := fun K _ _ _ => SX8_byteAt l0 l1 h e
abbrev MX8_isDigit : MI := (RX8, cX8_isDigit, 1, (some .boolean), 2, none, "isDigit")
noncomputable def X8_isDigit (F : Nat)   (l0 : Int)  (h : HP) : Option (Int × HP) :=
  some (if l0 < 48 then 0 else if 57 < l0 then 0 else 1, h)
set_option maxRecDepth 100000 in
theorem SX8_isDigit {K : Ctx} {F : Nat} {r : Int} {hf : HP}     (l0 : Int)  (h : HP) (E : X8_isDigit F   l0 h = some (r, hf)) : Go K MX8_isDigit (QM K (some (vi r)) hf) hf 0 [(0, vi l0)] [] h := by
  unfold X8_isDigit at E
  refine go_iload_n (j := 0) (n := 1) rfl rfl dX8_isDigit_0 rfl ?_
  refine go_bipush (z := 48) (n := 3) ⟨by decide, by decide⟩ dX8_isDigit_1 rfl ?_
  refine go_icmp_lt (tgt := 16) (n := 6) dX8_isDigit_3 rfl rfl (fun c1 => ?_) (fun c1 => ?_)
  · simp only [if_pos c1] at E
    refine go_iconst (z := 0) (n := 17) ⟨by decide, by decide⟩ dX8_isDigit_16 rfl ?_
    cases E
    exact go_zreturn rfl (Or.inl rfl) dX8_isDigit_17
  · simp only [if_neg c1] at E
    refine go_iload_n (j := 0) (n := 7) rfl rfl dX8_isDigit_6 rfl ?_
    refine go_bipush (z := 57) (n := 9) ⟨by decide, by decide⟩ dX8_isDigit_7 rfl ?_
    refine go_icmp_gt (tgt := 16) (n := 12) dX8_isDigit_9 rfl rfl (fun c2 => ?_) (fun c2 => ?_)
    · simp only [if_pos c2] at E
      refine go_iconst (z := 0) (n := 17) ⟨by decide, by decide⟩ dX8_isDigit_16 rfl ?_
      cases E
      exact go_zreturn rfl (Or.inl rfl) dX8_isDigit_17
    · simp only [if_neg c2] at E
      refine go_iconst (z := 1) (n := 13) ⟨by decide, by decide⟩ dX8_isDigit_12 rfl ?_
      refine go_goto (tgt := 17) dX8_isDigit_13 rfl ?_
      cases E
      exact go_zreturn rfl (Or.inr rfl) dX8_isDigit_17
theorem OX8_isDigit {F : Nat} {l0 : Int} {h hf : HP} {r : Int} (e : X8_isDigit F l0 h = some (r, hf)) : Ok MX8_isDigit [vi l0] (some (vi r)) h hf := fun K _ _ _ => SX8_isDigit l0 h e
abbrev MX8_isLetter : MI := (RX8, cX8_isLetter, 1, (some .boolean), 2, none, "isLetter")
noncomputable def X8_isLetter (F : Nat)   (l0 : Int)  (h : HP) : Option (Int × HP) :=
  some (if l0 < 97 then 0 else if 122 < l0 then 0 else 1, h)
set_option maxRecDepth 100000 in
theorem SX8_isLetter {K : Ctx} {F : Nat} {r : Int} {hf : HP}     (l0 : Int)  (h : HP) (E : X8_isLetter F   l0 h = some (r, hf)) : Go K MX8_isLetter (QM K (some (vi r)) hf) hf 0 [(0, vi l0)] [] h := by
  unfold X8_isLetter at E
  refine go_iload_n (j := 0) (n := 1) rfl rfl dX8_isLetter_0 rfl ?_
  refine go_bipush (z := 97) (n := 3) ⟨by decide, by decide⟩ dX8_isLetter_1 rfl ?_
  refine go_icmp_lt (tgt := 16) (n := 6) dX8_isLetter_3 rfl rfl (fun c1 => ?_) (fun c1 => ?_)
  · simp only [if_pos c1] at E
    refine go_iconst (z := 0) (n := 17) ⟨by decide, by decide⟩ dX8_isLetter_16 rfl ?_
    cases E
    exact go_zreturn rfl (Or.inl rfl) dX8_isLetter_17
  · simp only [if_neg c1] at E
    refine go_iload_n (j := 0) (n := 7) rfl rfl dX8_isLetter_6 rfl ?_
    refine go_bipush (z := 122) (n := 9) ⟨by decide, by decide⟩ dX8_isLetter_7 rfl ?_
    refine go_icmp_gt (tgt := 16) (n := 12) dX8_isLetter_9 rfl rfl (fun c2 => ?_) (fun c2 => ?_)
    · simp only [if_pos c2] at E
      refine go_iconst (z := 0) (n := 17) ⟨by decide, by decide⟩ dX8_isLetter_16 rfl ?_
      cases E
      exact go_zreturn rfl (Or.inl rfl) dX8_isLetter_17
    · simp only [if_neg c2] at E
      refine go_iconst (z := 1) (n := 13) ⟨by decide, by decide⟩ dX8_isLetter_12 rfl ?_
      refine go_goto (tgt := 17) dX8_isLetter_13 rfl ?_
      cases E
      exact go_zreturn rfl (Or.inr rfl) dX8_isLetter_17
theorem OX8_isLetter {F : Nat} {l0 : Int} {h hf : HP} {r : Int} (e : X8_isLetter F l0 h = some (r, hf)) : Ok MX8_isLetter [vi l0] (some (vi r)) h hf := fun K _ _ _ => SX8_isLetter l0 h e
theorem yw_X8_byteAt : YW yX8_byteAt cX8_byteAt 2 (some .int) 1 := ⟨bw_of 1083 (by decide +kernel) rfl, bw_of 118 (by decide +kernel) rfl, ⟨by decide +kernel, by decide +kernel, by decide +kernel⟩, by decide +kernel⟩
theorem wml_RX8_161 : Cond.methodLink RX8 161 yX8_byteAt ∈ BW := bw_of 1080 (by decide +kernel) rfl
theorem wim_X8_byteAt : Cond.instanceMethod yX8_byteAt ∈ BW := bw_of 1082 (by decide +kernel) rfl
theorem wse_X8_byteAt : Cond.selects RX8 yX8_byteAt yX8_byteAt ∈ BW := bw_of 11 (by decide +kernel) rfl
theorem yw_X8_isDigit : YW yX8_isDigit cX8_isDigit 1 (some .boolean) 1 := ⟨bw_of 1086 (by decide +kernel) rfl, bw_of 118 (by decide +kernel) rfl, ⟨by decide +kernel, by decide +kernel, by decide +kernel⟩, by decide +kernel⟩
theorem wml_RX8_172 : Cond.methodLink RX8 172 yX8_isDigit ∈ BW := bw_of 1084 (by decide +kernel) rfl
theorem wst_X8_isDigit : Cond.static yX8_isDigit ∈ BW := bw_of 1085 (by decide +kernel) rfl
theorem yw_X8_isLetter : YW yX8_isLetter cX8_isLetter 1 (some .boolean) 1 := ⟨bw_of 1089 (by decide +kernel) rfl, bw_of 118 (by decide +kernel) rfl, ⟨by decide +kernel, by decide +kernel, by decide +kernel⟩, by decide +kernel⟩
theorem wml_RX8_175 : Cond.methodLink RX8 175 yX8_isLetter ∈ BW := bw_of 1087 (by decide +kernel) rfl
theorem wst_X8_isLetter : Cond.static yX8_isLetter ∈ BW := bw_of 1088 (by decide +kernel) rfl
abbrev MX8_endOfThing : MI := (RX8, cX8_endOfThing, 4, (some .int), 3, none, "endOfThing")
noncomputable def X8_endOfThing_L48 (F : Nat)   (k : Nat) : Nat → Int → Int → HP → Option (Int × HP) :=
  Nat.rec (motive := fun _ => Nat → Int → Int → HP → Option (Int × HP)) (fun _ _ _ _ => none) (fun _ rc48 l0 l2 l3 h =>
    if l2 ≤ l3 then
      some (l3, h)
    else
      (xrc h (some l0) 8 17).bind fun a4 =>
      xb (X8_byteAt F a4 l3 h) fun v2 h3 =>
      xb (X8_isLetter F v2 h3) fun v5 h6 =>
      if v5 = 0 then
        some (l3, h6)
      else
        rc48 l0 l2 (w32 (l3 + 1)) h6) k
theorem X8_endOfThing_L48_s (F : Nat)   (k : Nat) (l0 : Nat) (l2 : Int) (l3 : Int)  (h : HP) : X8_endOfThing_L48 F   (k + 1) l0 l2 l3 h =
    if l2 ≤ l3 then
      some (l3, h)
    else
      (xrc h (some l0) 8 17).bind fun a4 =>
      xb (X8_byteAt F a4 l3 h) fun v2 h3 =>
      xb (X8_isLetter F v2 h3) fun v5 h6 =>
      if v5 = 0 then
        some (l3, h6)
      else
        (X8_endOfThing_L48 F k) l0 l2 (w32 (l3 + 1)) h6 := rfl
set_option maxRecDepth 100000 in
theorem SX8_endOfThing_L48 {K : Ctx} {F : Nat} {r : Int} {hf : HP}     : ∀ (k : Nat) (l0 : Nat) (l2 : Int) (l3 : Int)  (h : HP), X8_endOfThing_L48 F   k l0 l2 l3 h = some (r, hf) → Go K MX8_endOfThing (QM K (some (vi r)) hf) hf 48 [(0, vr (some l0)), (2, vi l2), (3, vi l3)] [] h := by
  intro k
  induction k with
  | zero => intro l0 l2 l3 h E; exact nomatch E
  | succ k hrc48 =>
    intro l0 l2 l3 h E
    rw [X8_endOfThing_L48_s] at E
    refine go_iload_n (j := 2) (n := 49) rfl rfl dX8_endOfThing_48 rfl ?_
    refine go_iload_n (j := 1) (n := 50) rfl rfl dX8_endOfThing_49 rfl ?_
    refine go_icmp_ge (tgt := 70) (n := 53) dX8_endOfThing_50 rfl rfl (fun c1 => ?_) (fun c1 => ?_)
    · rw [if_pos c1] at E
      refine go_iload_n (j := 2) (n := 71) rfl rfl dX8_endOfThing_70 rfl ?_
      cases E
      exact go_ireturn rfl dX8_endOfThing_71
    · rw [if_neg c1] at E
      refine go_aload_n (j := 0) (n := 54) rfl rfl dX8_endOfThing_53 rfl ?_
      refine go_iload_n (j := 2) (n := 55) rfl rfl dX8_endOfThing_54 rfl ?_
      replace E := Option.bind_eq_some_iff.mp E; obtain ⟨a4, ea4, E⟩ := E
      obtain ⟨fa4, ga4⟩ := xrc_some ea4
      replace E := xb_some E; obtain ⟨v2, h3, ev2, E⟩ := E
      refine go_callV (y := yX8_byteAt) (n := 58) (st := []) (as := [vi l3]) (stk9 := [vi v2]) (OX8_byteAt ev2) yw_X8_byteAt ci_8 ga4 wml_RX8_161 wim_X8_byteAt wse_X8_byteAt (Nat.le_of_ble_eq_true rfl) rfl ⟨Nat.le_of_ble_eq_true rfl, Nat.le_of_ble_eq_true rfl⟩ (Nat.le_of_ble_eq_true rfl) dX8_endOfThing_55 rfl (by cases fa4; rfl) rfl ?_
      replace E := xb_some E; obtain ⟨v5, h6, ev5, E⟩ := E
      refine go_callS (y := yX8_isLetter) (n := 61) (st := []) (as := [vi v2]) (stk9 := [vi v5]) (OX8_isLetter ev5) yw_X8_isLetter wml_RX8_175 wst_X8_isLetter (Nat.le_of_ble_eq_true rfl) rfl ⟨Nat.le_of_ble_eq_true rfl, Nat.le_of_ble_eq_true rfl⟩ (Nat.le_of_ble_eq_true rfl) dX8_endOfThing_58 rfl rfl rfl ?_
      refine go_if_eq (tgt := 70) (n := 64) dX8_endOfThing_61 rfl rfl (fun c7 => ?_) (fun c7 => ?_)
      · rw [if_pos c7] at E
        refine go_iload_n (j := 2) (n := 71) rfl rfl dX8_endOfThing_70 rfl ?_
        cases E
        exact go_ireturn rfl dX8_endOfThing_71
      · rw [if_neg c7] at E
        refine go_iinc (j := 2) (n := 67) (lv' := [(3, vi (w32 (l3 + 1))), (0, vr (some l0)), (2, vi l2)]) rfl dX8_endOfThing_64 rfl (Nat.le_of_ble_eq_true rfl) rfl ?_
        refine go_goto (tgt := 48) dX8_endOfThing_67 rfl ?_
        refine go_pick (lv' := [(0, vr (some l0)), (2, vi l2), (3, vi (w32 (l3 + 1)))]) [1, 2, 0] rfl ?_
        exact hrc48 _ _ _ _ E
noncomputable def X8_endOfThing_L15 (F : Nat)   (k : Nat) : Nat → Int → Int → HP → Option (Int × HP) :=
  Nat.rec (motive := fun _ => Nat → Int → Int → HP → Option (Int × HP)) (fun _ _ _ _ => none) (fun _ rc15 l0 l2 l3 h =>
    if l2 ≤ l3 then
      some (l3, h)
    else
      (xrc h (some l0) 8 17).bind fun a4 =>
      xb (X8_byteAt F a4 l3 h) fun v2 h3 =>
      xb (X8_isDigit F v2 h3) fun v5 h6 =>
      if v5 = 0 then
        some (l3, h6)
      else
        rc15 l0 l2 (w32 (l3 + 1)) h6) k
theorem X8_endOfThing_L15_s (F : Nat)   (k : Nat) (l0 : Nat) (l2 : Int) (l3 : Int)  (h : HP) : X8_endOfThing_L15 F   (k + 1) l0 l2 l3 h =
    if l2 ≤ l3 then
      some (l3, h)
    else
      (xrc h (some l0) 8 17).bind fun a4 =>
      xb (X8_byteAt F a4 l3 h) fun v2 h3 =>
      xb (X8_isDigit F v2 h3) fun v5 h6 =>
      if v5 = 0 then
        some (l3, h6)
      else
        (X8_endOfThing_L15 F k) l0 l2 (w32 (l3 + 1)) h6 := rfl
set_option maxRecDepth 100000 in
theorem SX8_endOfThing_L15 {K : Ctx} {F : Nat} {r : Int} {hf : HP}     : ∀ (k : Nat) (l0 : Nat) (l2 : Int) (l3 : Int)  (h : HP), X8_endOfThing_L15 F   k l0 l2 l3 h = some (r, hf) → Go K MX8_endOfThing (QM K (some (vi r)) hf) hf 15 [(0, vr (some l0)), (2, vi l2), (3, vi l3)] [] h := by
  intro k
  induction k with
  | zero => intro l0 l2 l3 h E; exact nomatch E
  | succ k hrc15 =>
    intro l0 l2 l3 h E
    rw [X8_endOfThing_L15_s] at E
    refine go_iload_n (j := 2) (n := 16) rfl rfl dX8_endOfThing_15 rfl ?_
    refine go_iload_n (j := 1) (n := 17) rfl rfl dX8_endOfThing_16 rfl ?_
    refine go_icmp_ge (tgt := 70) (n := 20) dX8_endOfThing_17 rfl rfl (fun c1 => ?_) (fun c1 => ?_)
    · rw [if_pos c1] at E
      refine go_iload_n (j := 2) (n := 71) rfl rfl dX8_endOfThing_70 rfl ?_
      cases E
      exact go_ireturn rfl dX8_endOfThing_71
    · rw [if_neg c1] at E
      refine go_aload_n (j := 0) (n := 21) rfl rfl dX8_endOfThing_20 rfl ?_
      refine go_iload_n (j := 2) (n := 22) rfl rfl dX8_endOfThing_21 rfl ?_
      replace E := Option.bind_eq_some_iff.mp E; obtain ⟨a4, ea4, E⟩ := E
      obtain ⟨fa4, ga4⟩ := xrc_some ea4
      replace E := xb_some E; obtain ⟨v2, h3, ev2, E⟩ := E
      refine go_callV (y := yX8_byteAt) (n := 25) (st := []) (as := [vi l3]) (stk9 := [vi v2]) (OX8_byteAt ev2) yw_X8_byteAt ci_8 ga4 wml_RX8_161 wim_X8_byteAt wse_X8_byteAt (Nat.le_of_ble_eq_true rfl) rfl ⟨Nat.le_of_ble_eq_true rfl, Nat.le_of_ble_eq_true rfl⟩ (Nat.le_of_ble_eq_true rfl) dX8_endOfThing_22 rfl (by cases fa4; rfl) rfl ?_
      replace E := xb_some E; obtain ⟨v5, h6, ev5, E⟩ := E
      refine go_callS (y := yX8_isDigit) (n := 28) (st := []) (as := [vi v2]) (stk9 := [vi v5]) (OX8_isDigit ev5) yw_X8_isDigit wml_RX8_172 wst_X8_isDigit (Nat.le_of_ble_eq_true rfl) rfl ⟨Nat.le_of_ble_eq_true rfl, Nat.le_of_ble_eq_true rfl⟩ (Nat.le_of_ble_eq_true rfl) dX8_endOfThing_25 rfl rfl rfl ?_
      refine go_if_eq (tgt := 70) (n := 31) dX8_endOfThing_28 rfl rfl (fun c7 => ?_) (fun c7 => ?_)
      · rw [if_pos c7] at E
        refine go_iload_n (j := 2) (n := 71) rfl rfl dX8_endOfThing_70 rfl ?_
        cases E
        exact go_ireturn rfl dX8_endOfThing_71
      · rw [if_neg c7] at E
        refine go_iinc (j := 2) (n := 34) (lv' := [(3, vi (w32 (l3 + 1))), (0, vr (some l0)), (2, vi l2)]) rfl dX8_endOfThing_31 rfl (Nat.le_of_ble_eq_true rfl) rfl ?_
        refine go_goto (tgt := 15) dX8_endOfThing_34 rfl ?_
        refine go_pick (lv' := [(0, vr (some l0)), (2, vi l2), (3, vi (w32 (l3 + 1)))]) [1, 2, 0] rfl ?_
        exact hrc15 _ _ _ _ E
noncomputable def X8_endOfThing (F : Nat)   (l0 : Nat) (l1 : Int) (l2 : Int)  (h : HP) : Option (Int × HP) :=
  (xrc h (some l0) 8 17).bind fun a3 =>
  xb (X8_byteAt F a3 l1 h) fun v1 h2 =>
  xb (X8_isDigit F v1 h2) fun v4 h5 =>
  if v4 = 0 then
    (xrc h5 (some l0) 8 17).bind fun a9 =>
    xb (X8_byteAt F a9 l1 h5) fun v7 h8 =>
    xb (X8_isLetter F v7 h8) fun v10 h11 =>
    if v10 = 0 then
      some (w32 (l1 + 1), h11)
    else
      X8_endOfThing_L48 F F l0 l2 (w32 (l1 + 1)) h11
  else
    X8_endOfThing_L15 F F l0 l2 (w32 (l1 + 1)) h5
set_option maxRecDepth 100000 in
theorem SX8_endOfThing {K : Ctx} {F : Nat} {r : Int} {hf : HP}     (l0 : Nat) (l1 : Int) (l2 : Int)  (h : HP) (E : X8_endOfThing F   l0 l1 l2 h = some (r, hf)) : Go K MX8_endOfThing (QM K (some (vi r)) hf) hf 0 [(0, vr (some l0)), (1, vi l1), (2, vi l2)] [] h := by
  unfold X8_endOfThing at E
  refine go_iload_n (j := 1) (n := 1) rfl rfl dX8_endOfThing_0 rfl ?_
  refine go_iconst (z := 1) (n := 2) ⟨by decide, by decide⟩ dX8_endOfThing_1 rfl ?_
  refine go_iadd (n := 3) dX8_endOfThing_2 rfl ?_
  refine go_istore_n (n := 4) (lv' := [(3, vi (w32 (l1 + 1))), (0, vr (some l0)), (1, vi l1), (2, vi l2)]) rfl dX8_endOfThing_3 rfl (Nat.le_of_ble_eq_true rfl) rfl ?_
  refine go_aload_n (j := 1) (n := 5) rfl rfl dX8_endOfThing_4 rfl ?_
  refine go_iload_n (j := 2) (n := 6) rfl rfl dX8_endOfThing_5 rfl ?_
  replace E := Option.bind_eq_some_iff.mp E; obtain ⟨a3, ea3, E⟩ := E
  obtain ⟨fa3, ga3⟩ := xrc_some ea3
  replace E := xb_some E; obtain ⟨v1, h2, ev1, E⟩ := E
  refine go_callV (y := yX8_byteAt) (n := 9) (st := []) (as := [vi l1]) (stk9 := [vi v1]) (OX8_byteAt ev1) yw_X8_byteAt ci_8 ga3 wml_RX8_161 wim_X8_byteAt wse_X8_byteAt (Nat.le_of_ble_eq_true rfl) rfl ⟨Nat.le_of_ble_eq_true rfl, Nat.le_of_ble_eq_true rfl⟩ (Nat.le_of_ble_eq_true rfl) dX8_endOfThing_6 rfl (by cases fa3; rfl) rfl ?_
  replace E := xb_some E; obtain ⟨v4, h5, ev4, E⟩ := E
  refine go_callS (y := yX8_isDigit) (n := 12) (st := []) (as := [vi v1]) (stk9 := [vi v4]) (OX8_isDigit ev4) yw_X8_isDigit wml_RX8_172 wst_X8_isDigit (Nat.le_of_ble_eq_true rfl) rfl ⟨Nat.le_of_ble_eq_true rfl, Nat.le_of_ble_eq_true rfl⟩ (Nat.le_of_ble_eq_true rfl) dX8_endOfThing_9 rfl rfl rfl ?_
  refine go_if_eq (tgt := 37) (n := 15) dX8_endOfThing_12 rfl rfl (fun c6 => ?_) (fun c6 => ?_)
  · rw [if_pos c6] at E
    refine go_aload_n (j := 1) (n := 38) rfl rfl dX8_endOfThing_37 rfl ?_
    refine go_iload_n (j := 2) (n := 39) rfl rfl dX8_endOfThing_38 rfl ?_
    replace E := Option.bind_eq_some_iff.mp E; obtain ⟨a9, ea9, E⟩ := E
    obtain ⟨fa9, ga9⟩ := xrc_some ea9
    replace E := xb_some E; obtain ⟨v7, h8, ev7, E⟩ := E
    refine go_callV (y := yX8_byteAt) (n := 42) (st := []) (as := [vi l1]) (stk9 := [vi v7]) (OX8_byteAt ev7) yw_X8_byteAt ci_8 ga9 wml_RX8_161 wim_X8_byteAt wse_X8_byteAt (Nat.le_of_ble_eq_true rfl) rfl ⟨Nat.le_of_ble_eq_true rfl, Nat.le_of_ble_eq_true rfl⟩ (Nat.le_of_ble_eq_true rfl) dX8_endOfThing_39 rfl (by cases fa9; rfl) rfl ?_
    replace E := xb_some E; obtain ⟨v10, h11, ev10, E⟩ := E
    refine go_callS (y := yX8_isLetter) (n := 45) (st := []) (as := [vi v7]) (stk9 := [vi v10]) (OX8_isLetter ev10) yw_X8_isLetter wml_RX8_175 wst_X8_isLetter (Nat.le_of_ble_eq_true rfl) rfl ⟨Nat.le_of_ble_eq_true rfl, Nat.le_of_ble_eq_true rfl⟩ (Nat.le_of_ble_eq_true rfl) dX8_endOfThing_42 rfl rfl rfl ?_
    refine go_if_eq (tgt := 70) (n := 48) dX8_endOfThing_45 rfl rfl (fun c12 => ?_) (fun c12 => ?_)
    · rw [if_pos c12] at E
      refine go_iload_n (j := 0) (n := 71) rfl rfl dX8_endOfThing_70 rfl ?_
      cases E
      exact go_ireturn rfl dX8_endOfThing_71
    · rw [if_neg c12] at E
      refine go_pick (lv' := [(0, vr (some l0)), (2, vi l2), (3, vi (w32 (l1 + 1)))]) [1, 3, 0] rfl ?_
      exact SX8_endOfThing_L48     F _ _ _ _ E
  · rw [if_neg c6] at E
    refine go_pick (lv' := [(0, vr (some l0)), (2, vi l2), (3, vi (w32 (l1 + 1)))]) [1, 3, 0] rfl ?_
    exact SX8_endOfThing_L15     F _ _ _ _ E
theorem OX8_endOfThing {F : Nat} {l0 : Nat} {l1 : Int} {l2 : Int} {h hf : HP} {r : Int} (e : X8_endOfThing F l0 l1 l2 h = some (r, hf)) : Ok MX8_endOfThing [vr (some l0), vi l1, vi l2] (some (vi r)) h hf := fun K _ _ _ => SX8_endOfThing l0 l1 l2 h e
theorem yw_J0_length_8abf5 : YW yJ0_length_8abf5 cJ0_length_8abf5 1 (some .int) 0 := ⟨bw_of 1102 (by decide +kernel) rfl, bw_of 136 (by decide +kernel) rfl, ⟨by decide +kernel, by decide +kernel, by decide +kernel⟩, by decide +kernel⟩
theorem wml_RX8_183 : Cond.methodLink RX8 183 yJ0_length_8abf5 ∈ BW := bw_of 1099 (by decide +kernel) rfl
theorem wim_J0_length_8abf5 : Cond.instanceMethod yJ0_length_8abf5 ∈ BW := bw_of 1100 (by decide +kernel) rfl
theorem wse_J0_length_8abf5 : Cond.selects RJ0 yJ0_length_8abf5 yJ0_length_8abf5 ∈ BW := bw_of 1101 (by decide +kernel) rfl
theorem yw_J0_charAt_5068e : YW yJ0_charAt_5068e cJ0_charAt_5068e 2 (some .char) 1 := ⟨bw_of 1112 (by decide +kernel) rfl, bw_of 136 (by decide +kernel) rfl, ⟨by decide +kernel, by decide +kernel, by decide +kernel⟩, by decide +kernel⟩
theorem wml_RX8_187 : Cond.methodLink RX8 187 yJ0_charAt_5068e ∈ BW := bw_of 1109 (by decide +kernel) rfl
theorem wim_J0_charAt_5068e : Cond.instanceMethod yJ0_charAt_5068e ∈ BW := bw_of 1110 (by decide +kernel) rfl
theorem wse_J0_charAt_5068e : Cond.selects RJ0 yJ0_charAt_5068e yJ0_charAt_5068e ∈ BW := bw_of 1111 (by decide +kernel) rfl
abbrev MX8_kindOfWord : MI := (RX8, cX8_kindOfWord, 7, (some .int), 8, none, "kindOfWord")
noncomputable def X8_kindOfWord_L86 (F : Nat)  (rc10 : Nat → Int → Int → Int → Int → Int → HP → Option (Int × HP)) (l0 : Nat) (l1 : Int) (l2 : Int) (l3 : Int) (l4 : Int) (l5 : Int)  (h : HP) : Option (Int × HP) :=
  rc10 l0 l1 l2 l3 l4 (w32 (l5 + 1)) h
set_option maxRecDepth 100000 in
theorem SX8_kindOfWord_L86 {K : Ctx} {F : Nat} {r : Int} {hf : HP}   (rc10 : Nat → Int → Int → Int → Int → Int → HP → Option (Int × HP)) (hrc10 : ∀ l0 l1 l2 l3 l4 l5 h, rc10 l0 l1 l2 l3 l4 l5 h = some (r, hf) → Go K MX8_kindOfWord (QM K (some (vi r)) hf) hf 10 [(0, vr (some l0)), (1, vi l1), (2, vi l2), (3, vi l3), (4, vi l4), (5, vi l5)] [] h) (l0 : Nat) (l1 : Int) (l2 : Int) (l3 : Int) (l4 : Int) (l5 : Int)  (h : HP) (E : X8_kindOfWord_L86 F  rc10 l0 l1 l2 l3 l4 l5 h = some (r, hf)) : Go K MX8_kindOfWord (QM K (some (vi r)) hf) hf 86 [(0, vr (some l0)), (1, vi l1), (2, vi l2), (3, vi l3), (4, vi l4), (5, vi l5)] [] h := by
  unfold X8_kindOfWord_L86 at E
  refine go_iinc (j := 5) (n := 89) (lv' := [(5, vi (w32 (l5 + 1))), (0, vr (some l0)), (1, vi l1), (2, vi l2), (3, vi l3), (4, vi l4)]) rfl dX8_kindOfWord_86 rfl (Nat.le_of_ble_eq_true rfl) rfl ?_
  refine go_goto (tgt := 10) dX8_kindOfWord_89 rfl ?_
  refine go_pick (lv' := [(0, vr (some l0)), (1, vi l1), (2, vi l2), (3, vi l3), (4, vi l4), (5, vi (w32 (l5 + 1)))]) [1, 2, 3, 4, 5, 0] rfl ?_
  exact hrc10 _ _ _ _ _ _ _ E
noncomputable def X8_kindOfWord_L84 (F : Nat)  (rc10 : Nat → Int → Int → Int → Int → Int → HP → Option (Int × HP)) (l0 : Nat) (l1 : Int) (l2 : Int) (l3 : Int) (l5 : Int) (s0 : Int) (h : HP) : Option (Int × HP) :=
  X8_kindOfWord_L86 F rc10 l0 l1 l2 l3 s0 l5 h
set_option maxRecDepth 100000 in
theorem SX8_kindOfWord_L84 {K : Ctx} {F : Nat} {r : Int} {hf : HP}   (rc10 : Nat → Int → Int → Int → Int → Int → HP → Option (Int × HP)) (hrc10 : ∀ l0 l1 l2 l3 l4 l5 h, rc10 l0 l1 l2 l3 l4 l5 h = some (r, hf) → Go K MX8_kindOfWord (QM K (some (vi r)) hf) hf 10 [(0, vr (some l0)), (1, vi l1), (2, vi l2), (3, vi l3), (4, vi l4), (5, vi l5)] [] h) (l0 : Nat) (l1 : Int) (l2 : Int) (l3 : Int) (l5 : Int) (s0 : Int) (h : HP) (E : X8_kindOfWord_L84 F  rc10 l0 l1 l2 l3 l5 s0 h = some (r, hf)) : Go K MX8_kindOfWord (QM K (some (vi r)) hf) hf 84 [(0, vr (some l0)), (1, vi l1), (2, vi l2), (3, vi l3), (5, vi l5)] [vi s0] h := by
  unfold X8_kindOfWord_L84 at E
  refine go_istore (n := 86) (lv' := [(4, vi s0), (0, vr (some l0)), (1, vi l1), (2, vi l2), (3, vi l3), (5, vi l5)]) dX8_kindOfWord_84 rfl (Nat.le_of_ble_eq_true rfl) rfl ?_
  refine go_pick (lv' := [(0, vr (some l0)), (1, vi l1), (2, vi l2), (3, vi l3), (4, vi s0), (5, vi l5)]) [1, 2, 3, 4, 0, 5] rfl ?_
  exact SX8_kindOfWord_L86   _ hrc10 _ _ _ _ _ _  _ E
noncomputable def X8_kindOfWord_L83 (F : Nat)  (rc10 : Nat → Int → Int → Int → Int → Int → HP → Option (Int × HP)) (l0 : Nat) (l1 : Int) (l2 : Int) (l3 : Int) (l5 : Int)  (h : HP) : Option (Int × HP) :=
  X8_kindOfWord_L84 F rc10 l0 l1 l2 l3 l5 (-1) h
set_option maxRecDepth 100000 in
theorem SX8_kindOfWord_L83 {K : Ctx} {F : Nat} {r : Int} {hf : HP}   (rc10 : Nat → Int → Int → Int → Int → Int → HP → Option (Int × HP)) (hrc10 : ∀ l0 l1 l2 l3 l4 l5 h, rc10 l0 l1 l2 l3 l4 l5 h = some (r, hf) → Go K MX8_kindOfWord (QM K (some (vi r)) hf) hf 10 [(0, vr (some l0)), (1, vi l1), (2, vi l2), (3, vi l3), (4, vi l4), (5, vi l5)] [] h) (l0 : Nat) (l1 : Int) (l2 : Int) (l3 : Int) (l5 : Int)  (h : HP) (E : X8_kindOfWord_L83 F  rc10 l0 l1 l2 l3 l5 h = some (r, hf)) : Go K MX8_kindOfWord (QM K (some (vi r)) hf) hf 83 [(0, vr (some l0)), (1, vi l1), (2, vi l2), (3, vi l3), (5, vi l5)] [] h := by
  unfold X8_kindOfWord_L83 at E
  refine go_iconst (z := (-1)) (n := 84) ⟨by decide, by decide⟩ dX8_kindOfWord_83 rfl ?_
  exact SX8_kindOfWord_L84   _ hrc10 _ _ _ _ _ _ _ E
noncomputable def X8_kindOfWord_L10 (F : Nat)   (k : Nat) : Nat → Int → Int → Int → Int → Int → HP → Option (Int × HP) :=
  Nat.rec (motive := fun _ => Nat → Int → Int → Int → Int → Int → HP → Option (Int × HP)) (fun _ _ _ _ _ _ _ => none) (fun _ rc10 l0 l1 l2 l3 l4 l5 h =>
    (xnn (some 1000000)).bind fun a3 =>
    xb (XJ0_length_8abf5 F a3 h) fun v1 h2 =>
    if v1 ≤ l5 then
      some ((-3), h2)
    else
      (xnn (some 1000000)).bind fun a7 =>
      xb (XJ0_charAt_5068e F a7 l5 h2) fun v5 h6 =>
      if v5 = 32 then
        if l4 = l2 then
          some (l3, h6)
        else
          X8_kindOfWord_L86 F rc10 l0 l1 l2 (w32 (l3 + 1)) l1 l5 h6
      else
        if l4 = (-1) then
          X8_kindOfWord_L83 F rc10 l0 l1 l2 l3 l5 h6
        else
          if l2 ≤ l4 then
            X8_kindOfWord_L83 F rc10 l0 l1 l2 l3 l5 h6
          else
            (xrc h6 (some l0) 8 17).bind fun a13 =>
            xb (X8_byteAt F a13 l4 h6) fun v11 h12 =>
            if v11 = v5 then
              X8_kindOfWord_L84 F rc10 l0 l1 l2 l3 l5 (w32 (l4 + 1)) h12
            else
              X8_kindOfWord_L83 F rc10 l0 l1 l2 l3 l5 h12) k
theorem X8_kindOfWord_L10_s (F : Nat)   (k : Nat) (l0 : Nat) (l1 : Int) (l2 : Int) (l3 : Int) (l4 : Int) (l5 : Int)  (h : HP) : X8_kindOfWord_L10 F   (k + 1) l0 l1 l2 l3 l4 l5 h =
    (xnn (some 1000000)).bind fun a3 =>
    xb (XJ0_length_8abf5 F a3 h) fun v1 h2 =>
    if v1 ≤ l5 then
      some ((-3), h2)
    else
      (xnn (some 1000000)).bind fun a7 =>
      xb (XJ0_charAt_5068e F a7 l5 h2) fun v5 h6 =>
      if v5 = 32 then
        if l4 = l2 then
          some (l3, h6)
        else
          X8_kindOfWord_L86 F (X8_kindOfWord_L10 F k) l0 l1 l2 (w32 (l3 + 1)) l1 l5 h6
      else
        if l4 = (-1) then
          X8_kindOfWord_L83 F (X8_kindOfWord_L10 F k) l0 l1 l2 l3 l5 h6
        else
          if l2 ≤ l4 then
            X8_kindOfWord_L83 F (X8_kindOfWord_L10 F k) l0 l1 l2 l3 l5 h6
          else
            (xrc h6 (some l0) 8 17).bind fun a13 =>
            xb (X8_byteAt F a13 l4 h6) fun v11 h12 =>
            if v11 = v5 then
              X8_kindOfWord_L84 F (X8_kindOfWord_L10 F k) l0 l1 l2 l3 l5 (w32 (l4 + 1)) h12
            else
              X8_kindOfWord_L83 F (X8_kindOfWord_L10 F k) l0 l1 l2 l3 l5 h12 := rfl
set_option maxRecDepth 100000 in
theorem SX8_kindOfWord_L10 {K : Ctx} {F : Nat} {r : Int} {hf : HP}     : ∀ (k : Nat) (l0 : Nat) (l1 : Int) (l2 : Int) (l3 : Int) (l4 : Int) (l5 : Int)  (h : HP), X8_kindOfWord_L10 F   k l0 l1 l2 l3 l4 l5 h = some (r, hf) → Go K MX8_kindOfWord (QM K (some (vi r)) hf) hf 10 [(0, vr (some l0)), (1, vi l1), (2, vi l2), (3, vi l3), (4, vi l4), (5, vi l5)] [] h := by
  intro k
  induction k with
  | zero => intro l0 l1 l2 l3 l4 l5 h E; exact nomatch E
  | succ k hrc10 =>
    intro l0 l1 l2 l3 l4 l5 h E
    rw [X8_kindOfWord_L10_s] at E
    refine go_iload (j := 5) (n := 12) rfl dX8_kindOfWord_10 rfl ?_
    refine go_ldcS (j := 0) (n := 14) rfl rfl dX8_kindOfWord_12 rfl ?_
    replace E := Option.bind_eq_some_iff.mp E; obtain ⟨a3, ea3, E⟩ := E
    replace ea3 : (some 1000000) = some a3 := ea3
    replace E := xb_some E; obtain ⟨v1, h2, ev1, E⟩ := E
    obtain ⟨jv1, qv1, pv1, ov1⟩ := OXJ0_length_8abf5 ev1
    refine go_callVT (y := yJ0_length_8abf5) (n := 17) (st := [vi l5]) (as := []) (stk9 := [vi v1, vi l5]) ov1 yw_J0_length_8abf5 qv1 pv1 rfl wml_RX8_183 wim_J0_length_8abf5 wse_J0_length_8abf5 (Nat.le_of_ble_eq_true rfl) rfl ⟨Nat.le_of_ble_eq_true rfl, Nat.le_of_ble_eq_true rfl⟩ (Nat.le_of_ble_eq_true rfl) dX8_kindOfWord_14 rfl (by cases ea3; rfl) rfl ?_
    refine go_icmp_ge (tgt := 92) (n := 20) dX8_kindOfWord_17 rfl rfl (fun c4 => ?_) (fun c4 => ?_)
    · rw [if_pos c4] at E
      refine go_bipush (z := (-3)) (n := 94) ⟨by decide, by decide⟩ dX8_kindOfWord_92 rfl ?_
      cases E
      exact go_ireturn rfl dX8_kindOfWord_94
    · rw [if_neg c4] at E
      refine go_ldcS (j := 0) (n := 22) rfl rfl dX8_kindOfWord_20 rfl ?_
      refine go_iload (j := 5) (n := 24) rfl dX8_kindOfWord_22 rfl ?_
      replace E := Option.bind_eq_some_iff.mp E; obtain ⟨a7, ea7, E⟩ := E
      replace ea7 : (some 1000000) = some a7 := ea7
      replace E := xb_some E; obtain ⟨v5, h6, ev5, E⟩ := E
      obtain ⟨jv5, qv5, pv5, ov5⟩ := OXJ0_charAt_5068e ev5
      refine go_callVT (y := yJ0_charAt_5068e) (n := 27) (st := []) (as := [vi l5]) (stk9 := [vi v5]) ov5 yw_J0_charAt_5068e qv5 pv5 rfl wml_RX8_187 wim_J0_charAt_5068e wse_J0_charAt_5068e (Nat.le_of_ble_eq_true rfl) rfl ⟨Nat.le_of_ble_eq_true rfl, Nat.le_of_ble_eq_true rfl⟩ (Nat.le_of_ble_eq_true rfl) dX8_kindOfWord_24 rfl (by cases ea7; rfl) rfl ?_
      refine go_istore (n := 29) (lv' := [(6, vi v5), (0, vr (some l0)), (1, vi l1), (2, vi l2), (3, vi l3), (4, vi l4), (5, vi l5)]) dX8_kindOfWord_27 rfl (Nat.le_of_ble_eq_true rfl) rfl ?_
      refine go_iload (j := 0) (n := 31) rfl dX8_kindOfWord_29 rfl ?_
      refine go_bipush (z := 32) (n := 33) ⟨by decide, by decide⟩ dX8_kindOfWord_31 rfl ?_
      refine go_icmp_ne (tgt := 53) (n := 36) dX8_kindOfWord_33 rfl rfl (fun c8 => ?_) (fun c8 => ?_)
      · rw [if_neg c8] at E
        refine go_iload (j := 5) (n := 55) rfl dX8_kindOfWord_53 rfl ?_
        refine go_iconst (z := (-1)) (n := 56) ⟨by decide, by decide⟩ dX8_kindOfWord_55 rfl ?_
        refine go_icmp_eq (tgt := 83) (n := 59) dX8_kindOfWord_56 rfl rfl (fun c9 => ?_) (fun c9 => ?_)
        · rw [if_pos c9] at E
          refine go_pick (lv' := [(0, vr (some l0)), (1, vi l1), (2, vi l2), (3, vi l3), (5, vi l5)]) [1, 2, 3, 4, 6] rfl ?_
          exact SX8_kindOfWord_L83   _ hrc10 _ _ _ _ _  _ E
        · rw [if_neg c9] at E
          refine go_iload (j := 5) (n := 61) rfl dX8_kindOfWord_59 rfl ?_
          refine go_iload_n (j := 3) (n := 62) rfl rfl dX8_kindOfWord_61 rfl ?_
          refine go_icmp_ge (tgt := 83) (n := 65) dX8_kindOfWord_62 rfl rfl (fun c10 => ?_) (fun c10 => ?_)
          · rw [if_pos c10] at E
            refine go_pick (lv' := [(0, vr (some l0)), (1, vi l1), (2, vi l2), (3, vi l3), (5, vi l5)]) [1, 2, 3, 4, 6] rfl ?_
            exact SX8_kindOfWord_L83   _ hrc10 _ _ _ _ _  _ E
          · rw [if_neg c10] at E
            refine go_aload_n (j := 1) (n := 66) rfl rfl dX8_kindOfWord_65 rfl ?_
            refine go_iload (j := 5) (n := 68) rfl dX8_kindOfWord_66 rfl ?_
            replace E := Option.bind_eq_some_iff.mp E; obtain ⟨a13, ea13, E⟩ := E
            obtain ⟨fa13, ga13⟩ := xrc_some ea13
            replace E := xb_some E; obtain ⟨v11, h12, ev11, E⟩ := E
            refine go_callV (y := yX8_byteAt) (n := 71) (st := []) (as := [vi l4]) (stk9 := [vi v11]) (OX8_byteAt ev11) yw_X8_byteAt ci_8 ga13 wml_RX8_161 wim_X8_byteAt wse_X8_byteAt (Nat.le_of_ble_eq_true rfl) rfl ⟨Nat.le_of_ble_eq_true rfl, Nat.le_of_ble_eq_true rfl⟩ (Nat.le_of_ble_eq_true rfl) dX8_kindOfWord_68 rfl (by cases fa13; rfl) rfl ?_
            refine go_iload (j := 0) (n := 73) rfl dX8_kindOfWord_71 rfl ?_
            refine go_icmp_ne (tgt := 83) (n := 76) dX8_kindOfWord_73 rfl rfl (fun c14 => ?_) (fun c14 => ?_)
            · rw [if_neg c14] at E
              refine go_pick (lv' := [(0, vr (some l0)), (1, vi l1), (2, vi l2), (3, vi l3), (5, vi l5)]) [1, 2, 3, 4, 6] rfl ?_
              exact SX8_kindOfWord_L83   _ hrc10 _ _ _ _ _  _ E
            · rw [if_pos c14] at E
              refine go_iload (j := 5) (n := 78) rfl dX8_kindOfWord_76 rfl ?_
              refine go_iconst (z := 1) (n := 79) ⟨by decide, by decide⟩ dX8_kindOfWord_78 rfl ?_
              refine go_iadd (n := 80) dX8_kindOfWord_79 rfl ?_
              refine go_goto (tgt := 84) dX8_kindOfWord_80 rfl ?_
              refine go_pick (lv' := [(0, vr (some l0)), (1, vi l1), (2, vi l2), (3, vi l3), (5, vi l5)]) [1, 2, 3, 4, 6] rfl ?_
              exact SX8_kindOfWord_L84   _ hrc10 _ _ _ _ _ _ _ E
      · rw [if_pos c8] at E
        refine go_iload (j := 5) (n := 38) rfl dX8_kindOfWord_36 rfl ?_
        refine go_iload_n (j := 3) (n := 39) rfl rfl dX8_kindOfWord_38 rfl ?_
        refine go_icmp_ne (tgt := 44) (n := 42) dX8_kindOfWord_39 rfl rfl (fun c15 => ?_) (fun c15 => ?_)
        · rw [if_neg c15] at E
          refine go_iinc (j := 4) (n := 47) (lv' := [(3, vi (w32 (l3 + 1))), (6, vi v5), (0, vr (some l0)), (1, vi l1), (2, vi l2), (4, vi l4), (5, vi l5)]) rfl dX8_kindOfWord_44 rfl (Nat.le_of_ble_eq_true rfl) rfl ?_
          refine go_iload_n (j := 3) (n := 48) rfl rfl dX8_kindOfWord_47 rfl ?_
          refine go_istore (n := 50) (lv' := [(4, vi l1), (3, vi (w32 (l3 + 1))), (6, vi v5), (0, vr (some l0)), (1, vi l1), (2, vi l2), (5, vi l5)]) dX8_kindOfWord_48 rfl (Nat.le_of_ble_eq_true rfl) rfl ?_
          refine go_goto (tgt := 86) dX8_kindOfWord_50 rfl ?_
          refine go_pick (lv' := [(0, vr (some l0)), (1, vi l1), (2, vi l2), (3, vi (w32 (l3 + 1))), (4, vi l1), (5, vi l5)]) [3, 4, 5, 1, 0, 6] rfl ?_
          exact SX8_kindOfWord_L86   _ hrc10 _ _ _ _ _ _  _ E
        · rw [if_pos c15] at E
          refine go_iload_n (j := 4) (n := 43) rfl rfl dX8_kindOfWord_42 rfl ?_
          cases E
          exact go_ireturn rfl dX8_kindOfWord_43
noncomputable def X8_kindOfWord (F : Nat)   (l0 : Nat) (l1 : Int) (l2 : Int)  (h : HP) : Option (Int × HP) :=
  X8_kindOfWord_L10 F F l0 l1 l2 256 l1 0 h
set_option maxRecDepth 100000 in
theorem SX8_kindOfWord {K : Ctx} {F : Nat} {r : Int} {hf : HP}     (l0 : Nat) (l1 : Int) (l2 : Int)  (h : HP) (E : X8_kindOfWord F   l0 l1 l2 h = some (r, hf)) : Go K MX8_kindOfWord (QM K (some (vi r)) hf) hf 0 [(0, vr (some l0)), (1, vi l1), (2, vi l2)] [] h := by
  unfold X8_kindOfWord at E
  refine go_sipush (z := 256) (n := 3) ⟨by decide, by decide⟩ dX8_kindOfWord_0 rfl ?_
  refine go_istore_n (n := 4) (lv' := [(3, vi 256), (0, vr (some l0)), (1, vi l1), (2, vi l2)]) rfl dX8_kindOfWord_3 rfl (Nat.le_of_ble_eq_true rfl) rfl ?_
  refine go_iload_n (j := 2) (n := 5) rfl rfl dX8_kindOfWord_4 rfl ?_
  refine go_istore (n := 7) (lv' := [(4, vi l1), (3, vi 256), (0, vr (some l0)), (1, vi l1), (2, vi l2)]) dX8_kindOfWord_5 rfl (Nat.le_of_ble_eq_true rfl) rfl ?_
  refine go_iconst (z := 0) (n := 8) ⟨by decide, by decide⟩ dX8_kindOfWord_7 rfl ?_
  refine go_istore (n := 10) (lv' := [(5, vi 0), (4, vi l1), (3, vi 256), (0, vr (some l0)), (1, vi l1), (2, vi l2)]) dX8_kindOfWord_8 rfl (Nat.le_of_ble_eq_true rfl) rfl ?_
  refine go_pick (lv' := [(0, vr (some l0)), (1, vi l1), (2, vi l2), (3, vi 256), (4, vi l1), (5, vi 0)]) [3, 4, 5, 2, 1, 0] rfl ?_
  exact SX8_kindOfWord_L10     F _ _ _ _ _ _ _ E
theorem OX8_kindOfWord {F : Nat} {l0 : Nat} {l1 : Int} {l2 : Int} {h hf : HP} {r : Int} (e : X8_kindOfWord F l0 l1 l2 h = some (r, hf)) : Ok MX8_kindOfWord [vr (some l0), vi l1, vi l2] (some (vi r)) h hf := fun K _ _ _ => SX8_kindOfWord l0 l1 l2 h e
theorem yw_X8_kindOfWord : YW yX8_kindOfWord cX8_kindOfWord 7 (some .int) 2 := ⟨bw_of 1097 (by decide +kernel) rfl, bw_of 118 (by decide +kernel) rfl, ⟨by decide +kernel, by decide +kernel, by decide +kernel⟩, by decide +kernel⟩
theorem wml_RX8_178 : Cond.methodLink RX8 178 yX8_kindOfWord ∈ BW := bw_of 1094 (by decide +kernel) rfl
theorem wim_X8_kindOfWord : Cond.instanceMethod yX8_kindOfWord ∈ BW := bw_of 1096 (by decide +kernel) rfl
theorem wse_X8_kindOfWord : Cond.selects RX8 yX8_kindOfWord yX8_kindOfWord ∈ BW := bw_of 13 (by decide +kernel) rfl
abbrev MX8_kindOf : MI := (RX8, cX8_kindOf, 4, (some .int), 9, none, "kindOf")
noncomputable def X8_kindOf (F : Nat)   (l0 : Nat) (l1 : Int) (l2 : Int)  (h : HP) : Option (Int × HP) :=
  (xrc h (some l0) 8 17).bind fun a3 =>
  xb (X8_byteAt F a3 l1 h) fun v1 h2 =>
  xb (X8_isDigit F v1 h2) fun v4 h5 =>
  if v4 = 0 then
    xb (X8_isLetter F v1 h5) fun v7 h8 =>
    if v7 = 0 then
      some (v1, h8)
    else
      (xrc h8 (some l0) 8 17).bind fun a12 =>
      xb (X8_kindOfWord F a12 l1 l2 h8) fun v10 h11 =>
      some (v10, h11)
  else
    some (if (w32 (l2 - l1)) ≤ 6 then (-2) else (-3), h5)
set_option maxRecDepth 100000 in
theorem SX8_kindOf {K : Ctx} {F : Nat} {r : Int} {hf : HP}     (l0 : Nat) (l1 : Int) (l2 : Int)  (h : HP) (E : X8_kindOf F   l0 l1 l2 h = some (r, hf)) : Go K MX8_kindOf (QM K (some (vi r)) hf) hf 0 [(0, vr (some l0)), (1, vi l1), (2, vi l2)] [] h := by
  unfold X8_kindOf at E
  refine go_aload_n (j := 0) (n := 1) rfl rfl dX8_kindOf_0 rfl ?_
  refine go_iload_n (j := 1) (n := 2) rfl rfl dX8_kindOf_1 rfl ?_
  replace E := Option.bind_eq_some_iff.mp E; obtain ⟨a3, ea3, E⟩ := E
  obtain ⟨fa3, ga3⟩ := xrc_some ea3
  replace E := xb_some E; obtain ⟨v1, h2, ev1, E⟩ := E
  refine go_callV (y := yX8_byteAt) (n := 5) (st := []) (as := [vi l1]) (stk9 := [vi v1]) (OX8_byteAt ev1) yw_X8_byteAt ci_8 ga3 wml_RX8_161 wim_X8_byteAt wse_X8_byteAt (Nat.le_of_ble_eq_true rfl) rfl ⟨Nat.le_of_ble_eq_true rfl, Nat.le_of_ble_eq_true rfl⟩ (Nat.le_of_ble_eq_true rfl) dX8_kindOf_2 rfl (by cases fa3; rfl) rfl ?_
  refine go_istore_n (n := 6) (lv' := [(3, vi v1), (0, vr (some l0)), (1, vi l1), (2, vi l2)]) rfl dX8_kindOf_5 rfl (Nat.le_of_ble_eq_true rfl) rfl ?_
  refine go_iload_n (j := 0) (n := 7) rfl rfl dX8_kindOf_6 rfl ?_
  replace E := xb_some E; obtain ⟨v4, h5, ev4, E⟩ := E
  refine go_callS (y := yX8_isDigit) (n := 10) (st := []) (as := [vi v1]) (stk9 := [vi v4]) (OX8_isDigit ev4) yw_X8_isDigit wml_RX8_172 wst_X8_isDigit (Nat.le_of_ble_eq_true rfl) rfl ⟨Nat.le_of_ble_eq_true rfl, Nat.le_of_ble_eq_true rfl⟩ (Nat.le_of_ble_eq_true rfl) dX8_kindOf_7 rfl rfl rfl ?_
  refine go_if_eq (tgt := 29) (n := 13) dX8_kindOf_10 rfl rfl (fun c6 => ?_) (fun c6 => ?_)
  · rw [if_pos c6] at E
    refine go_iload_n (j := 0) (n := 30) rfl rfl dX8_kindOf_29 rfl ?_
    replace E := xb_some E; obtain ⟨v7, h8, ev7, E⟩ := E
    refine go_callS (y := yX8_isLetter) (n := 33) (st := []) (as := [vi v1]) (stk9 := [vi v7]) (OX8_isLetter ev7) yw_X8_isLetter wml_RX8_175 wst_X8_isLetter (Nat.le_of_ble_eq_true rfl) rfl ⟨Nat.le_of_ble_eq_true rfl, Nat.le_of_ble_eq_true rfl⟩ (Nat.le_of_ble_eq_true rfl) dX8_kindOf_30 rfl rfl rfl ?_
    refine go_if_eq (tgt := 45) (n := 36) dX8_kindOf_33 rfl rfl (fun c9 => ?_) (fun c9 => ?_)
    · rw [if_pos c9] at E
      refine go_iload_n (j := 0) (n := 46) rfl rfl dX8_kindOf_45 rfl ?_
      cases E
      exact go_ireturn rfl dX8_kindOf_46
    · rw [if_neg c9] at E
      refine go_aload_n (j := 1) (n := 37) rfl rfl dX8_kindOf_36 rfl ?_
      refine go_iload_n (j := 2) (n := 38) rfl rfl dX8_kindOf_37 rfl ?_
      refine go_iload_n (j := 3) (n := 39) rfl rfl dX8_kindOf_38 rfl ?_
      replace E := Option.bind_eq_some_iff.mp E; obtain ⟨a12, ea12, E⟩ := E
      obtain ⟨fa12, ga12⟩ := xrc_some ea12
      replace E := xb_some E; obtain ⟨v10, h11, ev10, E⟩ := E
      refine go_callV (y := yX8_kindOfWord) (n := 42) (st := []) (as := [vi l1, vi l2]) (stk9 := [vi v10]) (OX8_kindOfWord ev10) yw_X8_kindOfWord ci_8 ga12 wml_RX8_178 wim_X8_kindOfWord wse_X8_kindOfWord (Nat.le_of_ble_eq_true rfl) rfl ⟨Nat.le_of_ble_eq_true rfl, Nat.le_of_ble_eq_true rfl⟩ (Nat.le_of_ble_eq_true rfl) dX8_kindOf_39 rfl (by cases fa12; rfl) rfl ?_
      refine go_goto (tgt := 46) dX8_kindOf_42 rfl ?_
      cases E
      exact go_ireturn rfl dX8_kindOf_46
  · rw [if_neg c6] at E
    refine go_iload_n (j := 3) (n := 14) rfl rfl dX8_kindOf_13 rfl ?_
    refine go_iload_n (j := 2) (n := 15) rfl rfl dX8_kindOf_14 rfl ?_
    refine go_isub (n := 16) dX8_kindOf_15 rfl ?_
    refine go_bipush (z := 6) (n := 18) ⟨by decide, by decide⟩ dX8_kindOf_16 rfl ?_
    refine go_icmp_le (tgt := 26) (n := 21) dX8_kindOf_18 rfl rfl (fun c13 => ?_) (fun c13 => ?_)
    · simp only [if_pos c13] at E
      refine go_bipush (z := (-2)) (n := 28) ⟨by decide, by decide⟩ dX8_kindOf_26 rfl ?_
      cases E
      exact go_ireturn rfl dX8_kindOf_28
    · simp only [if_neg c13] at E
      refine go_bipush (z := (-3)) (n := 23) ⟨by decide, by decide⟩ dX8_kindOf_21 rfl ?_
      refine go_goto (tgt := 28) dX8_kindOf_23 rfl ?_
      cases E
      exact go_ireturn rfl dX8_kindOf_28
theorem OX8_kindOf {F : Nat} {l0 : Nat} {l1 : Int} {l2 : Int} {h hf : HP} {r : Int} (e : X8_kindOf F l0 l1 l2 h = some (r, hf)) : Ok MX8_kindOf [vr (some l0), vi l1, vi l2] (some (vi r)) h hf := fun K _ _ _ => SX8_kindOf l0 l1 l2 h e
theorem fl_RX8_155 : FL RX8 155 8 17 5 false := ⟨RX8, TX8, ci_8, by decide, bw_of 165 (by decide +kernel) rfl, rfl, rfl⟩
theorem fl_RX8_15 : FL RX8 15 8 17 2 true := ⟨RX8, TX8, ci_8, by decide, bw_of 162 (by decide +kernel) rfl, rfl, rfl⟩
theorem fl_RX8_18 : FL RX8 18 8 17 3 true := ⟨RX8, TX8, ci_8, by decide, bw_of 163 (by decide +kernel) rfl, rfl, rfl⟩
theorem fl_RX8_21 : FL RX8 21 8 17 4 true := ⟨RX8, TX8, ci_8, by decide, bw_of 164 (by decide +kernel) rfl, rfl, rfl⟩
abbrev MX8_addThing : MI := (RX8, cX8_addThing, 6, none, 3, none, "addThing")
noncomputable def X8_addThing_L59 (F : Nat)   (l0 : Nat) (l1 : Int) (l2 : Int) (l4 : Int)  (h : HP) : Option (Unit × HP) :=
  (xgP h (some l0) 8 17 2).bind fun v1 =>
  (xgI h (some l0) 8 17 5).bind fun v2 =>
  (xsI h v1 v2 l1).bind fun h3 =>
  (xgP h3 (some l0) 8 17 3).bind fun v4 =>
  (xgI h3 (some l0) 8 17 5).bind fun v5 =>
  (xsI h3 v4 v5 l2).bind fun h6 =>
  (xgP h6 (some l0) 8 17 4).bind fun v7 =>
  (xgI h6 (some l0) 8 17 5).bind fun v8 =>
  (xsI h6 v7 v8 l4).bind fun h9 =>
  (xgI h9 (some l0) 8 17 5).bind fun v10 =>
  (xpI h9 (some l0) 8 17 5 (w32 (v10 + 1))).bind fun h11 =>
  some ((), h11)
set_option maxRecDepth 100000 in
theorem SX8_addThing_L59 {K : Ctx} {F : Nat} {r : Unit} {hf : HP}     (l0 : Nat) (l1 : Int) (l2 : Int) (l4 : Int)  (h : HP) (E : X8_addThing_L59 F   l0 l1 l2 l4 h = some (r, hf)) : Go K MX8_addThing (QM K none hf) hf 59 [(0, vr (some l0)), (1, vi l1), (2, vi l2), (4, vi l4)] [] h := by
  unfold X8_addThing_L59 at E
  refine go_aload_n (j := 0) (n := 60) rfl rfl dX8_addThing_59 rfl ?_
  replace E := Option.bind_eq_some_iff.mp E; obtain ⟨v1, ev1, E⟩ := E
  refine go_getP (n := 63) ev1 fl_RX8_15 rfl dX8_addThing_60 rfl ?_
  refine go_aload_n (j := 0) (n := 64) rfl rfl dX8_addThing_63 rfl ?_
  replace E := Option.bind_eq_some_iff.mp E; obtain ⟨v2, ev2, E⟩ := E
  refine go_getI (n := 67) ev2 fl_RX8_155 rfl dX8_addThing_64 rfl ?_
  refine go_iload_n (j := 1) (n := 68) rfl rfl dX8_addThing_67 rfl ?_
  replace E := Option.bind_eq_some_iff.mp E; obtain ⟨h3, eh3, E⟩ := E
  refine go_iastore (n := 69) eh3 dX8_addThing_68 rfl ?_
  refine go_aload_n (j := 0) (n := 70) rfl rfl dX8_addThing_69 rfl ?_
  replace E := Option.bind_eq_some_iff.mp E; obtain ⟨v4, ev4, E⟩ := E
  refine go_getP (n := 73) ev4 fl_RX8_18 rfl dX8_addThing_70 rfl ?_
  refine go_aload_n (j := 0) (n := 74) rfl rfl dX8_addThing_73 rfl ?_
  replace E := Option.bind_eq_some_iff.mp E; obtain ⟨v5, ev5, E⟩ := E
  refine go_getI (n := 77) ev5 fl_RX8_155 rfl dX8_addThing_74 rfl ?_
  refine go_iload_n (j := 2) (n := 78) rfl rfl dX8_addThing_77 rfl ?_
  replace E := Option.bind_eq_some_iff.mp E; obtain ⟨h6, eh6, E⟩ := E
  refine go_iastore (n := 79) eh6 dX8_addThing_78 rfl ?_
  refine go_aload_n (j := 0) (n := 80) rfl rfl dX8_addThing_79 rfl ?_
  replace E := Option.bind_eq_some_iff.mp E; obtain ⟨v7, ev7, E⟩ := E
  refine go_getP (n := 83) ev7 fl_RX8_21 rfl dX8_addThing_80 rfl ?_
  refine go_aload_n (j := 0) (n := 84) rfl rfl dX8_addThing_83 rfl ?_
  replace E := Option.bind_eq_some_iff.mp E; obtain ⟨v8, ev8, E⟩ := E
  refine go_getI (n := 87) ev8 fl_RX8_155 rfl dX8_addThing_84 rfl ?_
  refine go_iload (j := 3) (n := 89) rfl dX8_addThing_87 rfl ?_
  replace E := Option.bind_eq_some_iff.mp E; obtain ⟨h9, eh9, E⟩ := E
  refine go_iastore (n := 90) eh9 dX8_addThing_89 rfl ?_
  refine go_aload_n (j := 0) (n := 91) rfl rfl dX8_addThing_90 rfl ?_
  refine go_dup (n := 92) rfl dX8_addThing_91 rfl ?_
  replace E := Option.bind_eq_some_iff.mp E; obtain ⟨v10, ev10, E⟩ := E
  refine go_getI (n := 95) ev10 fl_RX8_155 rfl dX8_addThing_92 rfl ?_
  refine go_iconst (z := 1) (n := 96) ⟨by decide, by decide⟩ dX8_addThing_95 rfl ?_
  refine go_iadd (n := 97) dX8_addThing_96 rfl ?_
  replace E := Option.bind_eq_some_iff.mp E; obtain ⟨h11, eh11, E⟩ := E
  refine go_putI (n := 100) eh11 fl_RX8_155 rfl dX8_addThing_97 rfl ?_
  cases E
  exact go_return rfl dX8_addThing_100
noncomputable def X8_addThing_L24 (F : Nat)   (k : Nat) : Nat → Int → Int → Int → Int → Int → HP → Option (Unit × HP) :=
  Nat.rec (motive := fun _ => Nat → Int → Int → Int → Int → Int → HP → Option (Unit × HP)) (fun _ _ _ _ _ _ _ => none) (fun _ rc24 l0 l1 l2 l3 l4 l5 h =>
    if l1 = (-2) then
      if l3 ≤ l5 then
        X8_addThing_L59 F l0 l1 l2 l4 h
      else
        (xrc h (some l0) 8 17).bind fun a5 =>
        xb (X8_byteAt F a5 l5 h) fun v3 h4 =>
        rc24 l0 l1 l2 l3 (w32 ((w32 ((w32 (10 * l4)) + v3)) - 48)) (w32 (l5 + 1)) h4
    else
      X8_addThing_L59 F l0 l1 l2 l4 h) k
theorem X8_addThing_L24_s (F : Nat)   (k : Nat) (l0 : Nat) (l1 : Int) (l2 : Int) (l3 : Int) (l4 : Int) (l5 : Int)  (h : HP) : X8_addThing_L24 F   (k + 1) l0 l1 l2 l3 l4 l5 h =
    if l1 = (-2) then
      if l3 ≤ l5 then
        X8_addThing_L59 F l0 l1 l2 l4 h
      else
        (xrc h (some l0) 8 17).bind fun a5 =>
        xb (X8_byteAt F a5 l5 h) fun v3 h4 =>
        (X8_addThing_L24 F k) l0 l1 l2 l3 (w32 ((w32 ((w32 (10 * l4)) + v3)) - 48)) (w32 (l5 + 1)) h4
    else
      X8_addThing_L59 F l0 l1 l2 l4 h := rfl
set_option maxRecDepth 100000 in
theorem SX8_addThing_L24 {K : Ctx} {F : Nat} {r : Unit} {hf : HP}     : ∀ (k : Nat) (l0 : Nat) (l1 : Int) (l2 : Int) (l3 : Int) (l4 : Int) (l5 : Int)  (h : HP), X8_addThing_L24 F   k l0 l1 l2 l3 l4 l5 h = some (r, hf) → Go K MX8_addThing (QM K none hf) hf 24 [(0, vr (some l0)), (1, vi l1), (2, vi l2), (3, vi l3), (4, vi l4), (5, vi l5)] [] h := by
  intro k
  induction k with
  | zero => intro l0 l1 l2 l3 l4 l5 h E; exact nomatch E
  | succ k hrc24 =>
    intro l0 l1 l2 l3 l4 l5 h E
    rw [X8_addThing_L24_s] at E
    refine go_iload_n (j := 1) (n := 25) rfl rfl dX8_addThing_24 rfl ?_
    refine go_bipush (z := (-2)) (n := 27) ⟨by decide, by decide⟩ dX8_addThing_25 rfl ?_
    refine go_icmp_ne (tgt := 59) (n := 30) dX8_addThing_27 rfl rfl (fun c1 => ?_) (fun c1 => ?_)
    · rw [if_neg c1] at E
      refine go_pick (lv' := [(0, vr (some l0)), (1, vi l1), (2, vi l2), (4, vi l4)]) [0, 1, 2, 4] rfl ?_
      exact SX8_addThing_L59     _ _ _ _  _ E
    · rw [if_pos c1] at E
      refine go_iload (j := 5) (n := 32) rfl dX8_addThing_30 rfl ?_
      refine go_iload_n (j := 3) (n := 33) rfl rfl dX8_addThing_32 rfl ?_
      refine go_icmp_ge (tgt := 59) (n := 36) dX8_addThing_33 rfl rfl (fun c2 => ?_) (fun c2 => ?_)
      · rw [if_pos c2] at E
        refine go_pick (lv' := [(0, vr (some l0)), (1, vi l1), (2, vi l2), (4, vi l4)]) [0, 1, 2, 4] rfl ?_
        exact SX8_addThing_L59     _ _ _ _  _ E
      · rw [if_neg c2] at E
        refine go_bipush (z := 10) (n := 38) ⟨by decide, by decide⟩ dX8_addThing_36 rfl ?_
        refine go_iload (j := 4) (n := 40) rfl dX8_addThing_38 rfl ?_
        refine go_imul (n := 41) dX8_addThing_40 rfl ?_
        refine go_aload_n (j := 0) (n := 42) rfl rfl dX8_addThing_41 rfl ?_
        refine go_iload (j := 5) (n := 44) rfl dX8_addThing_42 rfl ?_
        replace E := Option.bind_eq_some_iff.mp E; obtain ⟨a5, ea5, E⟩ := E
        obtain ⟨fa5, ga5⟩ := xrc_some ea5
        replace E := xb_some E; obtain ⟨v3, h4, ev3, E⟩ := E
        refine go_callV (y := yX8_byteAt) (n := 47) (st := [vi (w32 (10 * l4))]) (as := [vi l5]) (stk9 := [vi v3, vi (w32 (10 * l4))]) (OX8_byteAt ev3) yw_X8_byteAt ci_8 ga5 wml_RX8_161 wim_X8_byteAt wse_X8_byteAt (Nat.le_of_ble_eq_true rfl) rfl ⟨Nat.le_of_ble_eq_true rfl, Nat.le_of_ble_eq_true rfl⟩ (Nat.le_of_ble_eq_true rfl) dX8_addThing_44 rfl (by cases fa5; rfl) rfl ?_
        refine go_iadd (n := 48) dX8_addThing_47 rfl ?_
        refine go_bipush (z := 48) (n := 50) ⟨by decide, by decide⟩ dX8_addThing_48 rfl ?_
        refine go_isub (n := 51) dX8_addThing_50 rfl ?_
        refine go_istore (n := 53) (lv' := [(4, vi (w32 ((w32 ((w32 (10 * l4)) + v3)) - 48))), (0, vr (some l0)), (1, vi l1), (2, vi l2), (3, vi l3), (5, vi l5)]) dX8_addThing_51 rfl (Nat.le_of_ble_eq_true rfl) rfl ?_
        refine go_iinc (j := 5) (n := 56) (lv' := [(5, vi (w32 (l5 + 1))), (4, vi (w32 ((w32 ((w32 (10 * l4)) + v3)) - 48))), (0, vr (some l0)), (1, vi l1), (2, vi l2), (3, vi l3)]) rfl dX8_addThing_53 rfl (Nat.le_of_ble_eq_true rfl) rfl ?_
        refine go_goto (tgt := 24) dX8_addThing_56 rfl ?_
        refine go_pick (lv' := [(0, vr (some l0)), (1, vi l1), (2, vi l2), (3, vi l3), (4, vi (w32 ((w32 ((w32 (10 * l4)) + v3)) - 48))), (5, vi (w32 (l5 + 1)))]) [2, 3, 4, 5, 1, 0] rfl ?_
        exact hrc24 _ _ _ _ _ _ _ E
noncomputable def X8_addThing (F : Nat)   (l0 : Nat) (l1 : Int) (l2 : Int) (l3 : Int)  (h : HP) : Option (Unit × HP) :=
  (xgI h (some l0) 8 17 5).bind fun v1 =>
  if v1 < 0 then
    some ((), h)
  else
    (xgI h (some l0) 8 17 5).bind fun v3 =>
    if v3 ≤ 400 then
      X8_addThing_L24 F F l0 l1 l2 l3 0 l2 h
    else
      some ((), h)
set_option maxRecDepth 100000 in
theorem SX8_addThing {K : Ctx} {F : Nat} {r : Unit} {hf : HP}     (l0 : Nat) (l1 : Int) (l2 : Int) (l3 : Int)  (h : HP) (E : X8_addThing F   l0 l1 l2 l3 h = some (r, hf)) : Go K MX8_addThing (QM K none hf) hf 0 [(0, vr (some l0)), (1, vi l1), (2, vi l2), (3, vi l3)] [] h := by
  unfold X8_addThing at E
  refine go_aload_n (j := 0) (n := 1) rfl rfl dX8_addThing_0 rfl ?_
  replace E := Option.bind_eq_some_iff.mp E; obtain ⟨v1, ev1, E⟩ := E
  refine go_getI (n := 4) ev1 fl_RX8_155 rfl dX8_addThing_1 rfl ?_
  refine go_if_lt (tgt := 17) (n := 7) dX8_addThing_4 rfl rfl (fun c2 => ?_) (fun c2 => ?_)
  · rw [if_pos c2] at E
    cases E
    exact go_return rfl dX8_addThing_17
  · rw [if_neg c2] at E
    refine go_aload_n (j := 0) (n := 8) rfl rfl dX8_addThing_7 rfl ?_
    replace E := Option.bind_eq_some_iff.mp E; obtain ⟨v3, ev3, E⟩ := E
    refine go_getI (n := 11) ev3 fl_RX8_155 rfl dX8_addThing_8 rfl ?_
    refine go_sipush (z := 400) (n := 14) ⟨by decide, by decide⟩ dX8_addThing_11 rfl ?_
    refine go_icmp_le (tgt := 18) (n := 17) dX8_addThing_14 rfl rfl (fun c4 => ?_) (fun c4 => ?_)
    · rw [if_pos c4] at E
      refine go_iconst (z := 0) (n := 19) ⟨by decide, by decide⟩ dX8_addThing_18 rfl ?_
      refine go_istore (n := 21) (lv' := [(4, vi 0), (0, vr (some l0)), (1, vi l1), (2, vi l2), (3, vi l3)]) dX8_addThing_19 rfl (Nat.le_of_ble_eq_true rfl) rfl ?_
      refine go_iload_n (j := 3) (n := 22) rfl rfl dX8_addThing_21 rfl ?_
      refine go_istore (n := 24) (lv' := [(5, vi l2), (4, vi 0), (0, vr (some l0)), (1, vi l1), (2, vi l2), (3, vi l3)]) dX8_addThing_22 rfl (Nat.le_of_ble_eq_true rfl) rfl ?_
      refine go_pick (lv' := [(0, vr (some l0)), (1, vi l1), (2, vi l2), (3, vi l3), (4, vi 0), (5, vi l2)]) [2, 3, 4, 5, 1, 0] rfl ?_
      exact SX8_addThing_L24     F _ _ _ _ _ _ _ E
    · rw [if_neg c4] at E
      cases E
      exact go_return rfl dX8_addThing_17
theorem OX8_addThing {F : Nat} {l0 : Nat} {l1 : Int} {l2 : Int} {l3 : Int} {h hf : HP} {r : Unit} (e : X8_addThing F l0 l1 l2 l3 h = some (r, hf)) : Ok MX8_addThing [vr (some l0), vi l1, vi l2, vi l3] none h hf := fun K _ _ _ => SX8_addThing l0 l1 l2 l3 h e
theorem yw_X8_addThing : YW yX8_addThing cX8_addThing 6 none 3 := ⟨bw_of 1150 (by decide +kernel) rfl, bw_of 118 (by decide +kernel) rfl, ⟨by decide +kernel, by decide +kernel, by decide +kernel⟩, by decide +kernel⟩
theorem wml_RX8_168 : Cond.methodLink RX8 168 yX8_addThing ∈ BW := bw_of 1147 (by decide +kernel) rfl
theorem wim_X8_addThing : Cond.instanceMethod yX8_addThing ∈ BW := bw_of 1149 (by decide +kernel) rfl
theorem wse_X8_addThing : Cond.selects RX8 yX8_addThing yX8_addThing ∈ BW := bw_of 14 (by decide +kernel) rfl
theorem yw_X8_endOfThing : YW yX8_endOfThing cX8_endOfThing 4 (some .int) 2 := ⟨bw_of 1079 (by decide +kernel) rfl, bw_of 118 (by decide +kernel) rfl, ⟨by decide +kernel, by decide +kernel, by decide +kernel⟩, by decide +kernel⟩
theorem wml_RX8_158 : Cond.methodLink RX8 158 yX8_endOfThing ∈ BW := bw_of 1076 (by decide +kernel) rfl
theorem wim_X8_endOfThing : Cond.instanceMethod yX8_endOfThing ∈ BW := bw_of 1078 (by decide +kernel) rfl
theorem wse_X8_endOfThing : Cond.selects RX8 yX8_endOfThing yX8_endOfThing ∈ BW := bw_of 10 (by decide +kernel) rfl
theorem wml_RX8_43 : Cond.methodLink RX8 43 Lib.Math.max.name ∈ BW := bw_of 1071 (by decide +kernel) rfl
theorem yw_X8_kindOf : YW yX8_kindOf cX8_kindOf 4 (some .int) 2 := ⟨bw_of 1093 (by decide +kernel) rfl, bw_of 118 (by decide +kernel) rfl, ⟨by decide +kernel, by decide +kernel, by decide +kernel⟩, by decide +kernel⟩
theorem wml_RX8_165 : Cond.methodLink RX8 165 yX8_kindOf ∈ BW := bw_of 1090 (by decide +kernel) rfl
theorem wim_X8_kindOf : Cond.instanceMethod yX8_kindOf ∈ BW := bw_of 1092 (by decide +kernel) rfl
theorem wse_X8_kindOf : Cond.selects RX8 yX8_kindOf yX8_kindOf ∈ BW := bw_of 12 (by decide +kernel) rfl
abbrev MX8_scan : MI := (RX8, cX8_scan, 4, none, 10, none, "scan")
noncomputable def X8_scan_L41 (F : Nat)  (rc7 : Nat → Int → Int → HP → Option (Unit × HP)) (l0 : Nat) (l1 : Int) (l2 : Int) (l3 : Int)  (h : HP) : Option (Unit × HP) :=
  rc7 l0 l1 (max (w32 (l2 + 1)) l3) h
set_option maxRecDepth 100000 in
theorem SX8_scan_L41 {K : Ctx} {F : Nat} {r : Unit} {hf : HP}   (rc7 : Nat → Int → Int → HP → Option (Unit × HP)) (hrc7 : ∀ l0 l1 l2 h, rc7 l0 l1 l2 h = some (r, hf) → Go K MX8_scan (QM K none hf) hf 7 [(0, vr (some l0)), (1, vi l1), (2, vi l2)] [] h) (l0 : Nat) (l1 : Int) (l2 : Int) (l3 : Int)  (h : HP) (E : X8_scan_L41 F  rc7 l0 l1 l2 l3 h = some (r, hf)) : Go K MX8_scan (QM K none hf) hf 41 [(0, vr (some l0)), (1, vi l1), (2, vi l2), (3, vi l3)] [] h := by
  unfold X8_scan_L41 at E
  refine go_iload_n (j := 2) (n := 42) rfl rfl dX8_scan_41 rfl ?_
  refine go_iconst (z := 1) (n := 43) ⟨by decide, by decide⟩ dX8_scan_42 rfl ?_
  refine go_iadd (n := 44) dX8_scan_43 rfl ?_
  refine go_iload_n (j := 3) (n := 45) rfl rfl dX8_scan_44 rfl ?_
  refine go_mmax (n := 48) wml_RX8_43 jm_max_i (Nat.le_of_ble_eq_true rfl) (Nat.le_of_ble_eq_true rfl) dX8_scan_45 rfl ?_
  refine go_istore_n (n := 49) (lv' := [(2, vi (max (w32 (l2 + 1)) l3)), (0, vr (some l0)), (1, vi l1), (3, vi l3)]) rfl dX8_scan_48 rfl (Nat.le_of_ble_eq_true rfl) rfl ?_
  refine go_goto (tgt := 7) dX8_scan_49 rfl ?_
  refine go_pick (lv' := [(0, vr (some l0)), (1, vi l1), (2, vi (max (w32 (l2 + 1)) l3))]) [1, 2, 0] rfl ?_
  exact hrc7 _ _ _ _ E
noncomputable def X8_scan_L7 (F : Nat)   (k : Nat) : Nat → Int → Int → HP → Option (Unit × HP) :=
  Nat.rec (motive := fun _ => Nat → Int → Int → HP → Option (Unit × HP)) (fun _ _ _ _ => none) (fun _ rc7 l0 l1 l2 h =>
    if l1 ≤ l2 then
      (xrc h (some l0) 8 17).bind fun a4 =>
      xb (X8_addThing F a4 (-1) l1 l1 h) fun v2 h3 =>
      some ((), h3)
    else
      (xrc h (some l0) 8 17).bind fun a7 =>
      xb (X8_endOfThing F a7 l2 l1 h) fun v5 h6 =>
      (xrc h6 (some l0) 8 17).bind fun a10 =>
      xb (X8_byteAt F a10 l2 h6) fun v8 h9 =>
      if v8 = 32 then
        X8_scan_L41 F rc7 l0 l1 l2 v5 h9
      else
        (xrc h9 (some l0) 8 17).bind fun a14 =>
        xb (X8_kindOf F a14 l2 v5 h9) fun v12 h13 =>
        (xrc h13 (some l0) 8 17).bind fun a17 =>
        xb (X8_addThing F a17 v12 l2 v5 h13) fun v15 h16 =>
        X8_scan_L41 F rc7 l0 l1 l2 v5 h16) k
theorem X8_scan_L7_s (F : Nat)   (k : Nat) (l0 : Nat) (l1 : Int) (l2 : Int)  (h : HP) : X8_scan_L7 F   (k + 1) l0 l1 l2 h =
    if l1 ≤ l2 then
      (xrc h (some l0) 8 17).bind fun a4 =>
      xb (X8_addThing F a4 (-1) l1 l1 h) fun v2 h3 =>
      some ((), h3)
    else
      (xrc h (some l0) 8 17).bind fun a7 =>
      xb (X8_endOfThing F a7 l2 l1 h) fun v5 h6 =>
      (xrc h6 (some l0) 8 17).bind fun a10 =>
      xb (X8_byteAt F a10 l2 h6) fun v8 h9 =>
      if v8 = 32 then
        X8_scan_L41 F (X8_scan_L7 F k) l0 l1 l2 v5 h9
      else
        (xrc h9 (some l0) 8 17).bind fun a14 =>
        xb (X8_kindOf F a14 l2 v5 h9) fun v12 h13 =>
        (xrc h13 (some l0) 8 17).bind fun a17 =>
        xb (X8_addThing F a17 v12 l2 v5 h13) fun v15 h16 =>
        X8_scan_L41 F (X8_scan_L7 F k) l0 l1 l2 v5 h16 := rfl
set_option maxRecDepth 100000 in
theorem SX8_scan_L7 {K : Ctx} {F : Nat} {r : Unit} {hf : HP}     : ∀ (k : Nat) (l0 : Nat) (l1 : Int) (l2 : Int)  (h : HP), X8_scan_L7 F   k l0 l1 l2 h = some (r, hf) → Go K MX8_scan (QM K none hf) hf 7 [(0, vr (some l0)), (1, vi l1), (2, vi l2)] [] h := by
  intro k
  induction k with
  | zero => intro l0 l1 l2 h E; exact nomatch E
  | succ k hrc7 =>
    intro l0 l1 l2 h E
    rw [X8_scan_L7_s] at E
    refine go_iload_n (j := 2) (n := 8) rfl rfl dX8_scan_7 rfl ?_
    refine go_iload_n (j := 1) (n := 9) rfl rfl dX8_scan_8 rfl ?_
    refine go_icmp_ge (tgt := 52) (n := 12) dX8_scan_9 rfl rfl (fun c1 => ?_) (fun c1 => ?_)
    · rw [if_pos c1] at E
      refine go_aload_n (j := 0) (n := 53) rfl rfl dX8_scan_52 rfl ?_
      refine go_iconst (z := (-1)) (n := 54) ⟨by decide, by decide⟩ dX8_scan_53 rfl ?_
      refine go_iload_n (j := 1) (n := 55) rfl rfl dX8_scan_54 rfl ?_
      refine go_iload_n (j := 1) (n := 56) rfl rfl dX8_scan_55 rfl ?_
      replace E := Option.bind_eq_some_iff.mp E; obtain ⟨a4, ea4, E⟩ := E
      obtain ⟨fa4, ga4⟩ := xrc_some ea4
      replace E := xb_some E; obtain ⟨v2, h3, ev2, E⟩ := E
      refine go_callV (y := yX8_addThing) (n := 59) (st := []) (as := [vi (-1), vi l1, vi l1]) (stk9 := []) (OX8_addThing ev2) yw_X8_addThing ci_8 ga4 wml_RX8_168 wim_X8_addThing wse_X8_addThing (Nat.le_of_ble_eq_true rfl) rfl ⟨Nat.le_of_ble_eq_true rfl, Nat.le_of_ble_eq_true rfl⟩ (Nat.le_of_ble_eq_true rfl) dX8_scan_56 rfl (by cases fa4; rfl) rfl ?_
      cases E
      exact go_return rfl dX8_scan_59
    · rw [if_neg c1] at E
      refine go_aload_n (j := 0) (n := 13) rfl rfl dX8_scan_12 rfl ?_
      refine go_iload_n (j := 2) (n := 14) rfl rfl dX8_scan_13 rfl ?_
      refine go_iload_n (j := 1) (n := 15) rfl rfl dX8_scan_14 rfl ?_
      replace E := Option.bind_eq_some_iff.mp E; obtain ⟨a7, ea7, E⟩ := E
      obtain ⟨fa7, ga7⟩ := xrc_some ea7
      replace E := xb_some E; obtain ⟨v5, h6, ev5, E⟩ := E
      refine go_callV (y := yX8_endOfThing) (n := 18) (st := []) (as := [vi l2, vi l1]) (stk9 := [vi v5]) (OX8_endOfThing ev5) yw_X8_endOfThing ci_8 ga7 wml_RX8_158 wim_X8_endOfThing wse_X8_endOfThing (Nat.le_of_ble_eq_true rfl) rfl ⟨Nat.le_of_ble_eq_true rfl, Nat.le_of_ble_eq_true rfl⟩ (Nat.le_of_ble_eq_true rfl) dX8_scan_15 rfl (by cases fa7; rfl) rfl ?_
      refine go_istore_n (n := 19) (lv' := [(3, vi v5), (0, vr (some l0)), (1, vi l1), (2, vi l2)]) rfl dX8_scan_18 rfl (Nat.le_of_ble_eq_true rfl) rfl ?_
      refine go_aload_n (j := 1) (n := 20) rfl rfl dX8_scan_19 rfl ?_
      refine go_iload_n (j := 3) (n := 21) rfl rfl dX8_scan_20 rfl ?_
      replace E := Option.bind_eq_some_iff.mp E; obtain ⟨a10, ea10, E⟩ := E
      obtain ⟨fa10, ga10⟩ := xrc_some ea10
      replace E := xb_some E; obtain ⟨v8, h9, ev8, E⟩ := E
      refine go_callV (y := yX8_byteAt) (n := 24) (st := []) (as := [vi l2]) (stk9 := [vi v8]) (OX8_byteAt ev8) yw_X8_byteAt ci_8 ga10 wml_RX8_161 wim_X8_byteAt wse_X8_byteAt (Nat.le_of_ble_eq_true rfl) rfl ⟨Nat.le_of_ble_eq_true rfl, Nat.le_of_ble_eq_true rfl⟩ (Nat.le_of_ble_eq_true rfl) dX8_scan_21 rfl (by cases fa10; rfl) rfl ?_
      refine go_bipush (z := 32) (n := 26) ⟨by decide, by decide⟩ dX8_scan_24 rfl ?_
      refine go_icmp_eq (tgt := 41) (n := 29) dX8_scan_26 rfl rfl (fun c11 => ?_) (fun c11 => ?_)
      · rw [if_pos c11] at E
        refine go_pick (lv' := [(0, vr (some l0)), (1, vi l1), (2, vi l2), (3, vi v5)]) [1, 2, 3, 0] rfl ?_
        exact SX8_scan_L41   _ hrc7 _ _ _ _  _ E
      · rw [if_neg c11] at E
        refine go_aload_n (j := 1) (n := 30) rfl rfl dX8_scan_29 rfl ?_
        refine go_aload_n (j := 1) (n := 31) rfl rfl dX8_scan_30 rfl ?_
        refine go_iload_n (j := 3) (n := 32) rfl rfl dX8_scan_31 rfl ?_
        refine go_iload_n (j := 0) (n := 33) rfl rfl dX8_scan_32 rfl ?_
        replace E := Option.bind_eq_some_iff.mp E; obtain ⟨a14, ea14, E⟩ := E
        obtain ⟨fa14, ga14⟩ := xrc_some ea14
        replace E := xb_some E; obtain ⟨v12, h13, ev12, E⟩ := E
        refine go_callV (y := yX8_kindOf) (n := 36) (st := [vr (some l0)]) (as := [vi l2, vi v5]) (stk9 := [vi v12, vr (some l0)]) (OX8_kindOf ev12) yw_X8_kindOf ci_8 ga14 wml_RX8_165 wim_X8_kindOf wse_X8_kindOf (Nat.le_of_ble_eq_true rfl) rfl ⟨Nat.le_of_ble_eq_true rfl, Nat.le_of_ble_eq_true rfl⟩ (Nat.le_of_ble_eq_true rfl) dX8_scan_33 rfl (by cases fa14; rfl) rfl ?_
        refine go_iload_n (j := 3) (n := 37) rfl rfl dX8_scan_36 rfl ?_
        refine go_iload_n (j := 0) (n := 38) rfl rfl dX8_scan_37 rfl ?_
        replace E := Option.bind_eq_some_iff.mp E; obtain ⟨a17, ea17, E⟩ := E
        obtain ⟨fa17, ga17⟩ := xrc_some ea17
        replace E := xb_some E; obtain ⟨v15, h16, ev15, E⟩ := E
        refine go_callV (y := yX8_addThing) (n := 41) (st := []) (as := [vi v12, vi l2, vi v5]) (stk9 := []) (OX8_addThing ev15) yw_X8_addThing ci_8 ga17 wml_RX8_168 wim_X8_addThing wse_X8_addThing (Nat.le_of_ble_eq_true rfl) rfl ⟨Nat.le_of_ble_eq_true rfl, Nat.le_of_ble_eq_true rfl⟩ (Nat.le_of_ble_eq_true rfl) dX8_scan_38 rfl (by cases fa17; rfl) rfl ?_
        refine go_pick (lv' := [(0, vr (some l0)), (1, vi l1), (2, vi l2), (3, vi v5)]) [1, 2, 3, 0] rfl ?_
        exact SX8_scan_L41   _ hrc7 _ _ _ _  _ E
noncomputable def X8_scan (F : Nat)   (l0 : Nat) (l1 : Int)  (h : HP) : Option (Unit × HP) :=
  (xpI h (some l0) 8 17 5 0).bind fun h1 =>
  X8_scan_L7 F F l0 l1 0 h1
set_option maxRecDepth 100000 in
theorem SX8_scan {K : Ctx} {F : Nat} {r : Unit} {hf : HP}     (l0 : Nat) (l1 : Int)  (h : HP) (E : X8_scan F   l0 l1 h = some (r, hf)) : Go K MX8_scan (QM K none hf) hf 0 [(0, vr (some l0)), (1, vi l1)] [] h := by
  unfold X8_scan at E
  refine go_aload_n (j := 0) (n := 1) rfl rfl dX8_scan_0 rfl ?_
  refine go_iconst (z := 0) (n := 2) ⟨by decide, by decide⟩ dX8_scan_1 rfl ?_
  replace E := Option.bind_eq_some_iff.mp E; obtain ⟨h1, eh1, E⟩ := E
  refine go_putI (n := 5) eh1 fl_RX8_155 rfl dX8_scan_2 rfl ?_
  refine go_iconst (z := 0) (n := 6) ⟨by decide, by decide⟩ dX8_scan_5 rfl ?_
  refine go_istore_n (n := 7) (lv' := [(2, vi 0), (0, vr (some l0)), (1, vi l1)]) rfl dX8_scan_6 rfl (Nat.le_of_ble_eq_true rfl) rfl ?_
  refine go_pick (lv' := [(0, vr (some l0)), (1, vi l1), (2, vi 0)]) [1, 2, 0] rfl ?_
  exact SX8_scan_L7     F _ _ _ _ E
theorem OX8_scan {F : Nat} {l0 : Nat} {l1 : Int} {h hf : HP} {r : Unit} (e : X8_scan F l0 l1 h = some (r, hf)) : Ok MX8_scan [vr (some l0), vi l1] none h hf := fun K _ _ _ => SX8_scan l0 l1 h e
theorem fl_RX8_50 : FL RX8 50 8 17 6 false := ⟨RX8, TX8, ci_8, by decide, bw_of 166 (by decide +kernel) rfl, rfl, rfl⟩
abbrev MX8_kind : MI := (RX8, cX8_kind, 1, (some .int), 2, none, "kind")
noncomputable def X8_kind (F : Nat)   (l0 : Nat)  (h : HP) : Option (Int × HP) :=
  (xgI h (some l0) 8 17 6).bind fun v1 =>
  if v1 < 0 then
    some ((-1), h)
  else
    (xgI h (some l0) 8 17 6).bind fun v3 =>
    (xgI h (some l0) 8 17 5).bind fun v4 =>
    if v4 ≤ v3 then
      some ((-1), h)
    else
      (xgI h (some l0) 8 17 6).bind fun v6 =>
      if 400 < v6 then
        some ((-1), h)
      else
        (xgP h (some l0) 8 17 2).bind fun v8 =>
        (xgI h (some l0) 8 17 6).bind fun v9 =>
        (xaI h v8 100 v9).bind fun v10 =>
        some (v10, h)
set_option maxRecDepth 100000 in
theorem SX8_kind {K : Ctx} {F : Nat} {r : Int} {hf : HP}     (l0 : Nat)  (h : HP) (E : X8_kind F   l0 h = some (r, hf)) : Go K MX8_kind (QM K (some (vi r)) hf) hf 0 [(0, vr (some l0))] [] h := by
  unfold X8_kind at E
  refine go_aload_n (j := 0) (n := 1) rfl rfl dX8_kind_0 rfl ?_
  replace E := Option.bind_eq_some_iff.mp E; obtain ⟨v1, ev1, E⟩ := E
  refine go_getI (n := 4) ev1 fl_RX8_50 rfl dX8_kind_1 rfl ?_
  refine go_if_lt (tgt := 40) (n := 7) dX8_kind_4 rfl rfl (fun c2 => ?_) (fun c2 => ?_)
  · rw [if_pos c2] at E
    refine go_iconst (z := (-1)) (n := 41) ⟨by decide, by decide⟩ dX8_kind_40 rfl ?_
    cases E
    exact go_ireturn rfl dX8_kind_41
  · rw [if_neg c2] at E
    refine go_aload_n (j := 0) (n := 8) rfl rfl dX8_kind_7 rfl ?_
    replace E := Option.bind_eq_some_iff.mp E; obtain ⟨v3, ev3, E⟩ := E
    refine go_getI (n := 11) ev3 fl_RX8_50 rfl dX8_kind_8 rfl ?_
    refine go_aload_n (j := 0) (n := 12) rfl rfl dX8_kind_11 rfl ?_
    replace E := Option.bind_eq_some_iff.mp E; obtain ⟨v4, ev4, E⟩ := E
    refine go_getI (n := 15) ev4 fl_RX8_155 rfl dX8_kind_12 rfl ?_
    refine go_icmp_ge (tgt := 40) (n := 18) dX8_kind_15 rfl rfl (fun c5 => ?_) (fun c5 => ?_)
    · rw [if_pos c5] at E
      refine go_iconst (z := (-1)) (n := 41) ⟨by decide, by decide⟩ dX8_kind_40 rfl ?_
      cases E
      exact go_ireturn rfl dX8_kind_41
    · rw [if_neg c5] at E
      refine go_aload_n (j := 0) (n := 19) rfl rfl dX8_kind_18 rfl ?_
      replace E := Option.bind_eq_some_iff.mp E; obtain ⟨v6, ev6, E⟩ := E
      refine go_getI (n := 22) ev6 fl_RX8_50 rfl dX8_kind_19 rfl ?_
      refine go_sipush (z := 400) (n := 25) ⟨by decide, by decide⟩ dX8_kind_22 rfl ?_
      refine go_icmp_gt (tgt := 40) (n := 28) dX8_kind_25 rfl rfl (fun c7 => ?_) (fun c7 => ?_)
      · rw [if_pos c7] at E
        refine go_iconst (z := (-1)) (n := 41) ⟨by decide, by decide⟩ dX8_kind_40 rfl ?_
        cases E
        exact go_ireturn rfl dX8_kind_41
      · rw [if_neg c7] at E
        refine go_aload_n (j := 0) (n := 29) rfl rfl dX8_kind_28 rfl ?_
        replace E := Option.bind_eq_some_iff.mp E; obtain ⟨v8, ev8, E⟩ := E
        refine go_getP (n := 32) ev8 fl_RX8_15 rfl dX8_kind_29 rfl ?_
        refine go_aload_n (j := 0) (n := 33) rfl rfl dX8_kind_32 rfl ?_
        replace E := Option.bind_eq_some_iff.mp E; obtain ⟨v9, ev9, E⟩ := E
        refine go_getI (n := 36) ev9 fl_RX8_50 rfl dX8_kind_33 rfl ?_
        replace E := Option.bind_eq_some_iff.mp E; obtain ⟨v10, ev10, E⟩ := E
        refine go_iaload (n := 37) ev10 dX8_kind_36 rfl ?_
        refine go_goto (tgt := 41) dX8_kind_37 rfl ?_
        cases E
        exact go_ireturn rfl dX8_kind_41
theorem OX8_kind {F : Nat} {l0 : Nat} {h hf : HP} {r : Int} (e : X8_kind F l0 h = some (r, hf)) : Ok MX8_kind [vr (some l0)] (some (vi r)) h hf := fun K _ _ _ => SX8_kind l0 h e
