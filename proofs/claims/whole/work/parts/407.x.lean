/-! the methods, decompiled: written by dec.py -/
theorem yw_J9_floorMod_f86c9 : YW yJ9_floorMod_f86c9 cJ9_floorMod_f86c9 6 (some .long) 2 := ⟨bw_of 1474 (by decide +kernel) rfl, bw_of 135 (by decide +kernel) rfl, ⟨by decide +kernel, by decide +kernel, by decide +kernel⟩, by decide +kernel⟩
theorem wml_RX1_85 : Cond.methodLink RX1 85 yJ9_floorMod_f86c9 ∈ BW := bw_of 1472 (by decide +kernel) rfl
theorem wst_J9_floorMod_f86c9 : Cond.static yJ9_floorMod_f86c9 ∈ BW := bw_of 1473 (by decide +kernel) rfl
theorem wl_RX1_91 : Cond.constantLong RX1 91 (Int64.ofInt 2) ∈ BW := bw_of 1475 (by decide +kernel) rfl
abbrev MX1_doRound : MI := (RX1, cX1_doRound, 7, (some .boolean), 5, none, "doRound")
noncomputable def X1_doRound_L52 (F : Nat)    (s0 : Int) (s1 : Int) (s2 : Option Nat) (h : HP) : Option (Int × HP) :=
  (xrc h s2 1 8).bind fun a3 =>
  xb (X1_put F a3 s1 s0 h) fun v1 h2 =>
  xz v1 h2
set_option maxRecDepth 100000 in
theorem SX1_doRound_L52 {K : Ctx} {F : Nat} {r : Int} {hf : HP}      (s0 : Int) (s1 : Int) (s2 : Option Nat) (h : HP) (E : X1_doRound_L52 F   s0 s1 s2 h = some (r, hf)) : Go K MX1_doRound (QM K (some (vi r)) hf) hf 52 [] [vl s0, vi s1, vr s2] h := by
  unfold X1_doRound_L52 at E
  replace E := Option.bind_eq_some_iff.mp E; obtain ⟨a3, ea3, E⟩ := E
  obtain ⟨fa3, ga3⟩ := xrc_some ea3
  replace E := xb_some E; obtain ⟨v1, h2, ev1, E⟩ := E
  refine go_callV (y := yX1_put) (n := 55) (st := []) (as := [vi s1, vl s0]) (stk9 := [vi v1]) (OX1_put ev1) yw_X1_put ci_1 ga3 wml_RX1_66 wim_X1_put wse_X1_put (Nat.le_of_ble_eq_true rfl) rfl ⟨Nat.le_of_ble_eq_true rfl, Nat.le_of_ble_eq_true rfl⟩ (Nat.le_of_ble_eq_true rfl) dX1_doRound_52 rfl (by cases fa3; rfl) rfl ?_
  unfold xz at E
  split at E
  · next c4 =>
    cases E
    exact go_zreturn rfl c4 dX1_doRound_55
  · cases E
noncomputable def X1_doRound (F : Nat)   (l0 : Nat) (l1 : Int) (l2 : Int)  (h : HP) : Option (Int × HP) :=
  if 0 < l2 then
    (xgP h (some l0) 1 8 0).bind fun v2 =>
    (xrc h v2 7 10).bind fun a5 =>
    xb (X7_wordAt F a5 l1 h) fun v3 h4 =>
    xb (XJ9_floorMod_f86c9 F v3 l2 h4) fun v6 h7 =>
    X1_doRound_L52 F (if (xcmp (w64 (2 * v6)) l2) < 0 then w64 (v3 - v6) else w64 ((w64 (v3 - v6)) + l2)) l1 (some l0) h7
  else
    some (0, h)
set_option maxRecDepth 100000 in
theorem SX1_doRound {K : Ctx} {F : Nat} {r : Int} {hf : HP}     (l0 : Nat) (l1 : Int) (l2 : Int)  (h : HP) (E : X1_doRound F   l0 l1 l2 h = some (r, hf)) : Go K MX1_doRound (QM K (some (vi r)) hf) hf 0 [(0, vr (some l0)), (1, vi l1), (2, vi l2)] [] h := by
  unfold X1_doRound at E
  refine go_iload_n (j := 2) (n := 1) rfl rfl dX1_doRound_0 rfl ?_
  refine go_if_gt (tgt := 6) (n := 4) dX1_doRound_1 rfl rfl (fun c1 => ?_) (fun c1 => ?_)
  · rw [if_pos c1] at E
    refine go_aload_n (j := 0) (n := 7) rfl rfl dX1_doRound_6 rfl ?_
    replace E := Option.bind_eq_some_iff.mp E; obtain ⟨v2, ev2, E⟩ := E
    refine go_getP (n := 10) ev2 fl_RX1_12 rfl dX1_doRound_7 rfl ?_
    refine go_iload_n (j := 1) (n := 11) rfl rfl dX1_doRound_10 rfl ?_
    replace E := Option.bind_eq_some_iff.mp E; obtain ⟨a5, ea5, E⟩ := E
    obtain ⟨fa5, ga5⟩ := xrc_some ea5
    replace E := xb_some E; obtain ⟨v3, h4, ev3, E⟩ := E
    refine go_callV (y := yX7_wordAt) (n := 14) (st := []) (as := [vi l1]) (stk9 := [vi v3]) (OX7_wordAt ev3) yw_X7_wordAt ci_7 ga5 wml_RX1_82 wim_X7_wordAt wse_X7_wordAt (Nat.le_of_ble_eq_true rfl) rfl ⟨Nat.le_of_ble_eq_true rfl, Nat.le_of_ble_eq_true rfl⟩ (Nat.le_of_ble_eq_true rfl) dX1_doRound_11 rfl (by cases fa5; rfl) rfl ?_
    refine go_i2l (n := 15) dX1_doRound_14 rfl ?_
    refine go_lstore_n (n := 16) (lv' := [(3, vl v3), (0, vr (some l0)), (1, vi l1), (2, vi l2)]) rfl dX1_doRound_15 rfl (Nat.le_of_ble_eq_true rfl) rfl ?_
    refine go_lload_n (j := 0) (n := 17) rfl rfl dX1_doRound_16 rfl ?_
    refine go_iload_n (j := 3) (n := 18) rfl rfl dX1_doRound_17 rfl ?_
    refine go_i2l (n := 19) dX1_doRound_18 rfl ?_
    replace E := xb_some E; obtain ⟨v6, h7, ev6, E⟩ := E
    refine go_callS (y := yJ9_floorMod_f86c9) (n := 22) (st := []) (as := [vl v3, vl l2]) (stk9 := [vl v6]) (OXJ9_floorMod_f86c9 ev6) yw_J9_floorMod_f86c9 wml_RX1_85 wst_J9_floorMod_f86c9 (Nat.le_of_ble_eq_true rfl) rfl ⟨Nat.le_of_ble_eq_true rfl, Nat.le_of_ble_eq_true rfl⟩ (Nat.le_of_ble_eq_true rfl) dX1_doRound_19 rfl rfl rfl ?_
    refine go_lstore (n := 24) (lv' := [(5, vl v6), (3, vl v3), (0, vr (some l0)), (1, vi l1), (2, vi l2)]) dX1_doRound_22 rfl (Nat.le_of_ble_eq_true rfl) rfl ?_
    refine go_aload_n (j := 2) (n := 25) rfl rfl dX1_doRound_24 rfl ?_
    refine go_iload_n (j := 3) (n := 26) rfl rfl dX1_doRound_25 rfl ?_
    refine go_ldc2 (z := 2) (n := 29) ⟨by decide, by decide⟩ wl_RX1_91 dX1_doRound_26 rfl ?_
    refine go_lload (j := 0) (n := 31) rfl dX1_doRound_29 rfl ?_
    refine go_lmul (n := 32) dX1_doRound_31 rfl ?_
    refine go_iload_n (j := 4) (n := 33) rfl rfl dX1_doRound_32 rfl ?_
    refine go_i2l (n := 34) dX1_doRound_33 rfl ?_
    refine go_lcmp (n := 35) dX1_doRound_34 rfl ?_
    refine go_if_lt (tgt := 48) (n := 38) dX1_doRound_35 rfl rfl (fun c8 => ?_) (fun c8 => ?_)
    · simp only [if_pos c8] at E
      refine go_lload_n (j := 1) (n := 49) rfl rfl dX1_doRound_48 rfl ?_
      refine go_lload (j := 0) (n := 51) rfl dX1_doRound_49 rfl ?_
      refine go_lsub (n := 52) dX1_doRound_51 rfl ?_
      refine go_pick (lv' := []) [] rfl ?_
      exact SX1_doRound_L52      _ _ _ _ E
    · simp only [if_neg c8] at E
      refine go_lload_n (j := 1) (n := 39) rfl rfl dX1_doRound_38 rfl ?_
      refine go_lload (j := 0) (n := 41) rfl dX1_doRound_39 rfl ?_
      refine go_lsub (n := 42) dX1_doRound_41 rfl ?_
      refine go_iload_n (j := 4) (n := 43) rfl rfl dX1_doRound_42 rfl ?_
      refine go_i2l (n := 44) dX1_doRound_43 rfl ?_
      refine go_ladd (n := 45) dX1_doRound_44 rfl ?_
      refine go_goto (tgt := 52) dX1_doRound_45 rfl ?_
      refine go_pick (lv' := []) [] rfl ?_
      exact SX1_doRound_L52      _ _ _ _ E
  · rw [if_neg c1] at E
    refine go_iconst (z := 0) (n := 5) ⟨by decide, by decide⟩ dX1_doRound_4 rfl ?_
    cases E
    exact go_zreturn rfl (Or.inl rfl) dX1_doRound_5
theorem OX1_doRound {F : Nat} {l0 : Nat} {l1 : Int} {l2 : Int} {h hf : HP} {r : Int} (e : X1_doRound F l0 l1 l2 h = some (r, hf)) : Ok MX1_doRound [vr (some l0), vi l1, vi l2] (some (vi r)) h hf := fun K _ _ _ => SX1_doRound l0 l1 l2 h e
theorem wl_RX1_97 : Cond.constantLong RX1 97 (Int64.ofInt (-2)) ∈ BW := bw_of 1480 (by decide +kernel) rfl
abbrev MX1_holds : MI := (RX1, cX1_holds, 4, (some .boolean), 5, none, "holds")
noncomputable def X1_holds_L159 (F : Nat)  (rc4 : Nat → Int → Int → HP → Option (Int × HP)) (l0 : Nat) (l1 : Int) (l3 : Int)  (h : HP) : Option (Int × HP) :=
  rc4 l0 l1 (w32 (l3 + 1)) h
set_option maxRecDepth 100000 in
theorem SX1_holds_L159 {K : Ctx} {F : Nat} {r : Int} {hf : HP}   (rc4 : Nat → Int → Int → HP → Option (Int × HP)) (hrc4 : ∀ l0 l1 l3 h, rc4 l0 l1 l3 h = some (r, hf) → Go K MX1_holds (QM K (some (vi r)) hf) hf 4 [(0, vr (some l0)), (1, vl l1), (3, vi l3)] [] h) (l0 : Nat) (l1 : Int) (l3 : Int)  (h : HP) (E : X1_holds_L159 F  rc4 l0 l1 l3 h = some (r, hf)) : Go K MX1_holds (QM K (some (vi r)) hf) hf 159 [(0, vr (some l0)), (1, vl l1), (3, vi l3)] [] h := by
  unfold X1_holds_L159 at E
  refine go_iinc (j := 2) (n := 162) (lv' := [(3, vi (w32 (l3 + 1))), (0, vr (some l0)), (1, vl l1)]) rfl dX1_holds_159 rfl (Nat.le_of_ble_eq_true rfl) rfl ?_
  refine go_goto (tgt := 4) dX1_holds_162 rfl ?_
  refine go_pick (lv' := [(0, vr (some l0)), (1, vl l1), (3, vi (w32 (l3 + 1)))]) [1, 2, 0] rfl ?_
  exact hrc4 _ _ _ _ E
noncomputable def X1_holds_L84 (F : Nat)  (rc4 : Nat → Int → Int → HP → Option (Int × HP)) (l0 : Nat) (l3 : Int) (s0 : Int) (s1 : Int) (h : HP) : Option (Int × HP) :=
  X1_holds_L159 F rc4 l0 (yor s1 s0) l3 h
set_option maxRecDepth 100000 in
theorem SX1_holds_L84 {K : Ctx} {F : Nat} {r : Int} {hf : HP}   (rc4 : Nat → Int → Int → HP → Option (Int × HP)) (hrc4 : ∀ l0 l1 l3 h, rc4 l0 l1 l3 h = some (r, hf) → Go K MX1_holds (QM K (some (vi r)) hf) hf 4 [(0, vr (some l0)), (1, vl l1), (3, vi l3)] [] h) (l0 : Nat) (l3 : Int) (s0 : Int) (s1 : Int) (h : HP) (E : X1_holds_L84 F  rc4 l0 l3 s0 s1 h = some (r, hf)) : Go K MX1_holds (QM K (some (vi r)) hf) hf 84 [(0, vr (some l0)), (3, vi l3)] [vl s0, vl s1] h := by
  unfold X1_holds_L84 at E
  refine go_lor (n := 85) dX1_holds_84 rfl ?_
  refine go_lstore_n (n := 86) (lv' := [(1, vl (yor s1 s0)), (0, vr (some l0)), (3, vi l3)]) rfl dX1_holds_85 rfl (Nat.le_of_ble_eq_true rfl) rfl ?_
  refine go_goto (tgt := 159) dX1_holds_86 rfl ?_
  refine go_pick (lv' := [(0, vr (some l0)), (1, vl (yor s1 s0)), (3, vi l3)]) [1, 0, 2] rfl ?_
  exact SX1_holds_L159   _ hrc4 _ _ _  _ E
noncomputable def X1_holds_L109 (F : Nat)  (rc4 : Nat → Int → Int → HP → Option (Int × HP)) (l0 : Nat) (l3 : Int) (s0 : Int) (s1 : Int) (h : HP) : Option (Int × HP) :=
  X1_holds_L159 F rc4 l0 (yor s1 s0) l3 h
set_option maxRecDepth 100000 in
theorem SX1_holds_L109 {K : Ctx} {F : Nat} {r : Int} {hf : HP}   (rc4 : Nat → Int → Int → HP → Option (Int × HP)) (hrc4 : ∀ l0 l1 l3 h, rc4 l0 l1 l3 h = some (r, hf) → Go K MX1_holds (QM K (some (vi r)) hf) hf 4 [(0, vr (some l0)), (1, vl l1), (3, vi l3)] [] h) (l0 : Nat) (l3 : Int) (s0 : Int) (s1 : Int) (h : HP) (E : X1_holds_L109 F  rc4 l0 l3 s0 s1 h = some (r, hf)) : Go K MX1_holds (QM K (some (vi r)) hf) hf 109 [(0, vr (some l0)), (3, vi l3)] [vl s0, vl s1] h := by
  unfold X1_holds_L109 at E
  refine go_lor (n := 110) dX1_holds_109 rfl ?_
  refine go_lstore_n (n := 111) (lv' := [(1, vl (yor s1 s0)), (0, vr (some l0)), (3, vi l3)]) rfl dX1_holds_110 rfl (Nat.le_of_ble_eq_true rfl) rfl ?_
  refine go_goto (tgt := 159) dX1_holds_111 rfl ?_
  refine go_pick (lv' := [(0, vr (some l0)), (1, vl (yor s1 s0)), (3, vi l3)]) [1, 0, 2] rfl ?_
  exact SX1_holds_L159   _ hrc4 _ _ _  _ E
noncomputable def X1_holds_L4 (F : Nat)   (k : Nat) : Nat → Int → Int → HP → Option (Int × HP) :=
  Nat.rec (motive := fun _ => Nat → Int → Int → HP → Option (Int × HP)) (fun _ _ _ _ => none) (fun _ rc4 l0 l1 l3 h =>
    if 1208 ≤ l3 then
      some (0, h)
    else
      (xrc h (some l0) 1 8).bind fun a4 =>
      xb (X1_nextCode F a4 h) fun v2 h3 =>
      if v2 = 60 then
        (xrc h3 (some l0) 1 8).bind fun a7 =>
        xb (X1_sum F a7 h3) fun v5 h6 =>
        (xrc h6 (some l0) 1 8).bind fun a10 =>
        xb (X1_sum F a10 h6) fun v8 h9 =>
        X1_holds_L84 F rc4 l0 l3 (if 0 ≤ (xcmp v5 v8) then 0 else 1) (yshl l1 1) h9
      else
        if v2 = 62 then
          (xrc h3 (some l0) 1 8).bind fun a14 =>
          xb (X1_sum F a14 h3) fun v12 h13 =>
          (xrc h13 (some l0) 1 8).bind fun a17 =>
          xb (X1_sum F a17 h13) fun v15 h16 =>
          X1_holds_L109 F rc4 l0 l3 (if (xcmp v12 v15) ≤ 0 then 0 else 1) (yshl l1 1) h16
        else
          if v2 = 266 then
            X1_holds_L159 F rc4 l0 (yor (yush l1 1) (yand l1 1)) l3 h3
          else
            if v2 = 267 then
              X1_holds_L159 F rc4 l0 (yand (yush l1 1) (yor l1 (-2))) l3 h3
            else
              if v2 = 268 then
                X1_holds_L159 F rc4 l0 (yxor l1 1) l3 h3
              else
                some (if (xcmp (yand l1 1) 0) = 0 then 0 else 1, h3)) k
theorem X1_holds_L4_s (F : Nat)   (k : Nat) (l0 : Nat) (l1 : Int) (l3 : Int)  (h : HP) : X1_holds_L4 F   (k + 1) l0 l1 l3 h =
    if 1208 ≤ l3 then
      some (0, h)
    else
      (xrc h (some l0) 1 8).bind fun a4 =>
      xb (X1_nextCode F a4 h) fun v2 h3 =>
      if v2 = 60 then
        (xrc h3 (some l0) 1 8).bind fun a7 =>
        xb (X1_sum F a7 h3) fun v5 h6 =>
        (xrc h6 (some l0) 1 8).bind fun a10 =>
        xb (X1_sum F a10 h6) fun v8 h9 =>
        X1_holds_L84 F (X1_holds_L4 F k) l0 l3 (if 0 ≤ (xcmp v5 v8) then 0 else 1) (yshl l1 1) h9
      else
        if v2 = 62 then
          (xrc h3 (some l0) 1 8).bind fun a14 =>
          xb (X1_sum F a14 h3) fun v12 h13 =>
          (xrc h13 (some l0) 1 8).bind fun a17 =>
          xb (X1_sum F a17 h13) fun v15 h16 =>
          X1_holds_L109 F (X1_holds_L4 F k) l0 l3 (if (xcmp v12 v15) ≤ 0 then 0 else 1) (yshl l1 1) h16
        else
          if v2 = 266 then
            X1_holds_L159 F (X1_holds_L4 F k) l0 (yor (yush l1 1) (yand l1 1)) l3 h3
          else
            if v2 = 267 then
              X1_holds_L159 F (X1_holds_L4 F k) l0 (yand (yush l1 1) (yor l1 (-2))) l3 h3
            else
              if v2 = 268 then
                X1_holds_L159 F (X1_holds_L4 F k) l0 (yxor l1 1) l3 h3
              else
                some (if (xcmp (yand l1 1) 0) = 0 then 0 else 1, h3) := rfl
set_option maxRecDepth 100000 in
theorem SX1_holds_L4 {K : Ctx} {F : Nat} {r : Int} {hf : HP}     : ∀ (k : Nat) (l0 : Nat) (l1 : Int) (l3 : Int)  (h : HP), X1_holds_L4 F   k l0 l1 l3 h = some (r, hf) → Go K MX1_holds (QM K (some (vi r)) hf) hf 4 [(0, vr (some l0)), (1, vl l1), (3, vi l3)] [] h := by
  intro k
  induction k with
  | zero => intro l0 l1 l3 h E; exact nomatch E
  | succ k hrc4 =>
    intro l0 l1 l3 h E
    rw [X1_holds_L4_s] at E
    refine go_iload_n (j := 2) (n := 5) rfl rfl dX1_holds_4 rfl ?_
    refine go_sipush (z := 1208) (n := 8) ⟨by decide, by decide⟩ dX1_holds_5 rfl ?_
    refine go_icmp_ge (tgt := 165) (n := 11) dX1_holds_8 rfl rfl (fun c1 => ?_) (fun c1 => ?_)
    · rw [if_pos c1] at E
      refine go_iconst (z := 0) (n := 166) ⟨by decide, by decide⟩ dX1_holds_165 rfl ?_
      cases E
      exact go_zreturn rfl (Or.inl rfl) dX1_holds_166
    · rw [if_neg c1] at E
      refine go_aload_n (j := 0) (n := 12) rfl rfl dX1_holds_11 rfl ?_
      replace E := Option.bind_eq_some_iff.mp E; obtain ⟨a4, ea4, E⟩ := E
      obtain ⟨fa4, ga4⟩ := xrc_some ea4
      replace E := xb_some E; obtain ⟨v2, h3, ev2, E⟩ := E
      refine go_callV (y := yX1_nextCode) (n := 15) (st := []) (as := []) (stk9 := [vi v2]) (OX1_nextCode ev2) yw_X1_nextCode ci_1 ga4 wml_RX1_43 wim_X1_nextCode wse_X1_nextCode (Nat.le_of_ble_eq_true rfl) rfl ⟨Nat.le_of_ble_eq_true rfl, Nat.le_of_ble_eq_true rfl⟩ (Nat.le_of_ble_eq_true rfl) dX1_holds_12 rfl (by cases fa4; rfl) rfl ?_
      by_cases c20 : v2 = 60
      · rw [if_pos c20] at E
        refine go_lookup (tgt := 64) (off := 49) dX1_holds_15 (by decide) (by rw [c20]; rfl) rfl ?_
        refine go_lload_n (j := 1) (n := 65) rfl rfl dX1_holds_64 rfl ?_
        refine go_iconst (z := 1) (n := 66) ⟨by decide, by decide⟩ dX1_holds_65 rfl ?_
        refine go_lshl (n := 67) dX1_holds_66 rfl ?_
        refine go_aload_n (j := 0) (n := 68) rfl rfl dX1_holds_67 rfl ?_
        replace E := Option.bind_eq_some_iff.mp E; obtain ⟨a7, ea7, E⟩ := E
        obtain ⟨fa7, ga7⟩ := xrc_some ea7
        replace E := xb_some E; obtain ⟨v5, h6, ev5, E⟩ := E
        refine go_callV (y := yX1_sum) (n := 71) (st := [vl (yshl l1 1)]) (as := []) (stk9 := [vl v5, vl (yshl l1 1)]) (OX1_sum ev5) yw_X1_sum ci_1 ga7 wml_RX1_70 wim_X1_sum wse_X1_sum (Nat.le_of_ble_eq_true rfl) rfl ⟨Nat.le_of_ble_eq_true rfl, Nat.le_of_ble_eq_true rfl⟩ (Nat.le_of_ble_eq_true rfl) dX1_holds_68 rfl (by cases fa7; rfl) rfl ?_
        refine go_aload_n (j := 0) (n := 72) rfl rfl dX1_holds_71 rfl ?_
        replace E := Option.bind_eq_some_iff.mp E; obtain ⟨a10, ea10, E⟩ := E
        obtain ⟨fa10, ga10⟩ := xrc_some ea10
        replace E := xb_some E; obtain ⟨v8, h9, ev8, E⟩ := E
        refine go_callV (y := yX1_sum) (n := 75) (st := [vl v5, vl (yshl l1 1)]) (as := []) (stk9 := [vl v8, vl v5, vl (yshl l1 1)]) (OX1_sum ev8) yw_X1_sum ci_1 ga10 wml_RX1_70 wim_X1_sum wse_X1_sum (Nat.le_of_ble_eq_true rfl) rfl ⟨Nat.le_of_ble_eq_true rfl, Nat.le_of_ble_eq_true rfl⟩ (Nat.le_of_ble_eq_true rfl) dX1_holds_72 rfl (by cases fa10; rfl) rfl ?_
        refine go_lcmp (n := 76) dX1_holds_75 rfl ?_
        refine go_if_ge (tgt := 83) (n := 79) dX1_holds_76 rfl rfl (fun c11 => ?_) (fun c11 => ?_)
        · simp only [if_pos c11] at E
          refine go_lconst (w := 0) (n := 84) rfl dX1_holds_83 rfl ?_
          refine go_pick (lv' := [(0, vr (some l0)), (3, vi l3)]) [0, 2] rfl ?_
          exact SX1_holds_L84   _ hrc4 _ _ _ _ _ E
        · simp only [if_neg c11] at E
          refine go_lconst (w := 1) (n := 80) rfl dX1_holds_79 rfl ?_
          refine go_goto (tgt := 84) dX1_holds_80 rfl ?_
          refine go_pick (lv' := [(0, vr (some l0)), (3, vi l3)]) [0, 2] rfl ?_
          exact SX1_holds_L84   _ hrc4 _ _ _ _ _ E
      rw [if_neg c20] at E
      by_cases c21 : v2 = 62
      · rw [if_pos c21] at E
        refine go_lookup (tgt := 89) (off := 74) dX1_holds_15 (by decide) (by rw [c21]; rfl) rfl ?_
        refine go_lload_n (j := 1) (n := 90) rfl rfl dX1_holds_89 rfl ?_
        refine go_iconst (z := 1) (n := 91) ⟨by decide, by decide⟩ dX1_holds_90 rfl ?_
        refine go_lshl (n := 92) dX1_holds_91 rfl ?_
        refine go_aload_n (j := 0) (n := 93) rfl rfl dX1_holds_92 rfl ?_
        replace E := Option.bind_eq_some_iff.mp E; obtain ⟨a14, ea14, E⟩ := E
        obtain ⟨fa14, ga14⟩ := xrc_some ea14
        replace E := xb_some E; obtain ⟨v12, h13, ev12, E⟩ := E
        refine go_callV (y := yX1_sum) (n := 96) (st := [vl (yshl l1 1)]) (as := []) (stk9 := [vl v12, vl (yshl l1 1)]) (OX1_sum ev12) yw_X1_sum ci_1 ga14 wml_RX1_70 wim_X1_sum wse_X1_sum (Nat.le_of_ble_eq_true rfl) rfl ⟨Nat.le_of_ble_eq_true rfl, Nat.le_of_ble_eq_true rfl⟩ (Nat.le_of_ble_eq_true rfl) dX1_holds_93 rfl (by cases fa14; rfl) rfl ?_
        refine go_aload_n (j := 0) (n := 97) rfl rfl dX1_holds_96 rfl ?_
        replace E := Option.bind_eq_some_iff.mp E; obtain ⟨a17, ea17, E⟩ := E
        obtain ⟨fa17, ga17⟩ := xrc_some ea17
        replace E := xb_some E; obtain ⟨v15, h16, ev15, E⟩ := E
        refine go_callV (y := yX1_sum) (n := 100) (st := [vl v12, vl (yshl l1 1)]) (as := []) (stk9 := [vl v15, vl v12, vl (yshl l1 1)]) (OX1_sum ev15) yw_X1_sum ci_1 ga17 wml_RX1_70 wim_X1_sum wse_X1_sum (Nat.le_of_ble_eq_true rfl) rfl ⟨Nat.le_of_ble_eq_true rfl, Nat.le_of_ble_eq_true rfl⟩ (Nat.le_of_ble_eq_true rfl) dX1_holds_97 rfl (by cases fa17; rfl) rfl ?_
        refine go_lcmp (n := 101) dX1_holds_100 rfl ?_
        refine go_if_le (tgt := 108) (n := 104) dX1_holds_101 rfl rfl (fun c18 => ?_) (fun c18 => ?_)
        · simp only [if_pos c18] at E
          refine go_lconst (w := 0) (n := 109) rfl dX1_holds_108 rfl ?_
          refine go_pick (lv' := [(0, vr (some l0)), (3, vi l3)]) [0, 2] rfl ?_
          exact SX1_holds_L109   _ hrc4 _ _ _ _ _ E
        · simp only [if_neg c18] at E
          refine go_lconst (w := 1) (n := 105) rfl dX1_holds_104 rfl ?_
          refine go_goto (tgt := 109) dX1_holds_105 rfl ?_
          refine go_pick (lv' := [(0, vr (some l0)), (3, vi l3)]) [0, 2] rfl ?_
          exact SX1_holds_L109   _ hrc4 _ _ _ _ _ E
      rw [if_neg c21] at E
      by_cases c22 : v2 = 266
      · rw [if_pos c22] at E
        refine go_lookup (tgt := 134) (off := 119) dX1_holds_15 (by decide) (by rw [c22]; rfl) rfl ?_
        refine go_lload_n (j := 1) (n := 135) rfl rfl dX1_holds_134 rfl ?_
        refine go_iconst (z := 1) (n := 136) ⟨by decide, by decide⟩ dX1_holds_135 rfl ?_
        refine go_lushr (n := 137) dX1_holds_136 rfl ?_
        refine go_lload_n (j := 1) (n := 138) rfl rfl dX1_holds_137 rfl ?_
        refine go_lconst (w := 1) (n := 139) rfl dX1_holds_138 rfl ?_
        refine go_land (n := 140) dX1_holds_139 rfl ?_
        refine go_lor (n := 141) dX1_holds_140 rfl ?_
        refine go_lstore_n (n := 142) (lv' := [(1, vl (yor (yush l1 1) (yand l1 1))), (0, vr (some l0)), (3, vi l3)]) rfl dX1_holds_141 rfl (Nat.le_of_ble_eq_true rfl) rfl ?_
        refine go_goto (tgt := 159) dX1_holds_142 rfl ?_
        refine go_pick (lv' := [(0, vr (some l0)), (1, vl (yor (yush l1 1) (yand l1 1))), (3, vi l3)]) [1, 0, 2] rfl ?_
        exact SX1_holds_L159   _ hrc4 _ _ _  _ E
      rw [if_neg c22] at E
      by_cases c23 : v2 = 267
      · rw [if_pos c23] at E
        refine go_lookup (tgt := 121) (off := 106) dX1_holds_15 (by decide) (by rw [c23]; rfl) rfl ?_
        refine go_lload_n (j := 1) (n := 122) rfl rfl dX1_holds_121 rfl ?_
        refine go_iconst (z := 1) (n := 123) ⟨by decide, by decide⟩ dX1_holds_122 rfl ?_
        refine go_lushr (n := 124) dX1_holds_123 rfl ?_
        refine go_lload_n (j := 1) (n := 125) rfl rfl dX1_holds_124 rfl ?_
        refine go_ldc2 (z := (-2)) (n := 128) ⟨by decide, by decide⟩ wl_RX1_97 dX1_holds_125 rfl ?_
        refine go_lor (n := 129) dX1_holds_128 rfl ?_
        refine go_land (n := 130) dX1_holds_129 rfl ?_
        refine go_lstore_n (n := 131) (lv' := [(1, vl (yand (yush l1 1) (yor l1 (-2)))), (0, vr (some l0)), (3, vi l3)]) rfl dX1_holds_130 rfl (Nat.le_of_ble_eq_true rfl) rfl ?_
        refine go_goto (tgt := 159) dX1_holds_131 rfl ?_
        refine go_pick (lv' := [(0, vr (some l0)), (1, vl (yand (yush l1 1) (yor l1 (-2)))), (3, vi l3)]) [1, 0, 2] rfl ?_
        exact SX1_holds_L159   _ hrc4 _ _ _  _ E
      rw [if_neg c23] at E
      by_cases c24 : v2 = 268
      · rw [if_pos c24] at E
        refine go_lookup (tgt := 114) (off := 99) dX1_holds_15 (by decide) (by rw [c24]; rfl) rfl ?_
        refine go_lload_n (j := 1) (n := 115) rfl rfl dX1_holds_114 rfl ?_
        refine go_lconst (w := 1) (n := 116) rfl dX1_holds_115 rfl ?_
        refine go_lxor (n := 117) dX1_holds_116 rfl ?_
        refine go_lstore_n (n := 118) (lv' := [(1, vl (yxor l1 1)), (0, vr (some l0)), (3, vi l3)]) rfl dX1_holds_117 rfl (Nat.le_of_ble_eq_true rfl) rfl ?_
        refine go_goto (tgt := 159) dX1_holds_118 rfl ?_
        refine go_pick (lv' := [(0, vr (some l0)), (1, vl (yxor l1 1)), (3, vi l3)]) [1, 0, 2] rfl ?_
        exact SX1_holds_L159   _ hrc4 _ _ _  _ E
      rw [if_neg c24] at E
      refine go_lookup (tgt := 145) (off := 130) dX1_holds_15 (by decide) (by simp [Op.lookupswitch.offset, List.find?, Ne.symm c20, Ne.symm c21, Ne.symm c22, Ne.symm c23, Ne.symm c24, c20, c21, c22, c23, c24]) rfl ?_
      refine go_lload_n (j := 1) (n := 146) rfl rfl dX1_holds_145 rfl ?_
      refine go_lconst (w := 1) (n := 147) rfl dX1_holds_146 rfl ?_
      refine go_land (n := 148) dX1_holds_147 rfl ?_
      refine go_lconst (w := 0) (n := 149) rfl dX1_holds_148 rfl ?_
      refine go_lcmp (n := 150) dX1_holds_149 rfl ?_
      refine go_if_eq (tgt := 157) (n := 153) dX1_holds_150 rfl rfl (fun c19 => ?_) (fun c19 => ?_)
      · simp only [if_pos c19] at E
        refine go_iconst (z := 0) (n := 158) ⟨by decide, by decide⟩ dX1_holds_157 rfl ?_
        cases E
        exact go_zreturn rfl (Or.inl rfl) dX1_holds_158
      · simp only [if_neg c19] at E
        refine go_iconst (z := 1) (n := 154) ⟨by decide, by decide⟩ dX1_holds_153 rfl ?_
        refine go_goto (tgt := 158) dX1_holds_154 rfl ?_
        cases E
        exact go_zreturn rfl (Or.inr rfl) dX1_holds_158
noncomputable def X1_holds (F : Nat)   (l0 : Nat)  (h : HP) : Option (Int × HP) :=
  X1_holds_L4 F F l0 0 0 h
set_option maxRecDepth 100000 in
theorem SX1_holds {K : Ctx} {F : Nat} {r : Int} {hf : HP}     (l0 : Nat)  (h : HP) (E : X1_holds F   l0 h = some (r, hf)) : Go K MX1_holds (QM K (some (vi r)) hf) hf 0 [(0, vr (some l0))] [] h := by
  unfold X1_holds at E
  refine go_lconst (w := 0) (n := 1) rfl dX1_holds_0 rfl ?_
  refine go_lstore_n (n := 2) (lv' := [(1, vl 0), (0, vr (some l0))]) rfl dX1_holds_1 rfl (Nat.le_of_ble_eq_true rfl) rfl ?_
  refine go_iconst (z := 0) (n := 3) ⟨by decide, by decide⟩ dX1_holds_2 rfl ?_
  refine go_istore_n (n := 4) (lv' := [(3, vi 0), (1, vl 0), (0, vr (some l0))]) rfl dX1_holds_3 rfl (Nat.le_of_ble_eq_true rfl) rfl ?_
  refine go_pick (lv' := [(0, vr (some l0)), (1, vl 0), (3, vi 0)]) [2, 1, 0] rfl ?_
  exact SX1_holds_L4     F _ _ _ _ E
theorem OX1_holds {F : Nat} {l0 : Nat} {h hf : HP} {r : Int} (e : X1_holds F l0 h = some (r, hf)) : Ok MX1_holds [vr (some l0)] (some (vi r)) h hf := fun K _ _ _ => SX1_holds l0 h e
theorem fl_RX1_35 : FL RX1 35 1 8 7 false := ⟨RX1, TX1, ci_1, by decide, bw_of 273 (by decide +kernel) rfl, rfl, rfl⟩
theorem fl_RX1_38 : FL RX1 38 9 4 1 true := ⟨RX9, TX9, ci_9, by decide, bw_of 1253 (by decide +kernel) rfl, rfl, rfl⟩
theorem yw_X1_doSet : YW yX1_doSet cX1_doSet 8 (some .boolean) 2 := ⟨bw_of 1454 (by decide +kernel) rfl, bw_of 120 (by decide +kernel) rfl, ⟨by decide +kernel, by decide +kernel, by decide +kernel⟩, by decide +kernel⟩
theorem wml_RX1_47 : Cond.methodLink RX1 47 yX1_doSet ∈ BW := bw_of 1451 (by decide +kernel) rfl
theorem wim_X1_doSet : Cond.instanceMethod yX1_doSet ∈ BW := bw_of 1453 (by decide +kernel) rfl
theorem wse_X1_doSet : Cond.selects RX1 yX1_doSet yX1_doSet ∈ BW := bw_of 43 (by decide +kernel) rfl
theorem yw_X1_doTotal : YW yX1_doTotal cX1_doTotal 7 (some .boolean) 3 := ⟨bw_of 1467 (by decide +kernel) rfl, bw_of 120 (by decide +kernel) rfl, ⟨by decide +kernel, by decide +kernel, by decide +kernel⟩, by decide +kernel⟩
theorem wml_RX1_51 : Cond.methodLink RX1 51 yX1_doTotal ∈ BW := bw_of 1464 (by decide +kernel) rfl
theorem wim_X1_doTotal : Cond.instanceMethod yX1_doTotal ∈ BW := bw_of 1466 (by decide +kernel) rfl
theorem wse_X1_doTotal : Cond.selects RX1 yX1_doTotal yX1_doTotal ∈ BW := bw_of 46 (by decide +kernel) rfl
theorem yw_X1_holds : YW yX1_holds cX1_holds 4 (some .boolean) 0 := ⟨bw_of 1479 (by decide +kernel) rfl, bw_of 120 (by decide +kernel) rfl, ⟨by decide +kernel, by decide +kernel, by decide +kernel⟩, by decide +kernel⟩
theorem wml_RX1_58 : Cond.methodLink RX1 58 yX1_holds ∈ BW := bw_of 1476 (by decide +kernel) rfl
theorem wim_X1_holds : Cond.instanceMethod yX1_holds ∈ BW := bw_of 1478 (by decide +kernel) rfl
theorem wse_X1_holds : Cond.selects RX1 yX1_holds yX1_holds ∈ BW := bw_of 48 (by decide +kernel) rfl
theorem yw_X1_doRound : YW yX1_doRound cX1_doRound 7 (some .boolean) 2 := ⟨bw_of 1471 (by decide +kernel) rfl, bw_of 120 (by decide +kernel) rfl, ⟨by decide +kernel, by decide +kernel, by decide +kernel⟩, by decide +kernel⟩
theorem wml_RX1_55 : Cond.methodLink RX1 55 yX1_doRound ∈ BW := bw_of 1468 (by decide +kernel) rfl
theorem wim_X1_doRound : Cond.instanceMethod yX1_doRound ∈ BW := bw_of 1470 (by decide +kernel) rfl
theorem wse_X1_doRound : Cond.selects RX1 yX1_doRound yX1_doRound ∈ BW := bw_of 47 (by decide +kernel) rfl
abbrev MX1_doText : MI := (RX1, cX1_doText, 7, (some .boolean), 6, none, "doText")
noncomputable def X1_doText_L197 (F : Nat)  (rc45 : Nat → Int → Int → Int → HP → Option (Int × HP)) (l0 : Nat) (l4 : Int) (l5 : Int) (l6 : Int)  (h : HP) : Option (Int × HP) :=
  rc45 l0 l4 l5 (w32 (l6 + 1)) h
set_option maxRecDepth 100000 in
theorem SX1_doText_L197 {K : Ctx} {F : Nat} {r : Int} {hf : HP}   (rc45 : Nat → Int → Int → Int → HP → Option (Int × HP)) (hrc45 : ∀ l0 l4 l5 l6 h, rc45 l0 l4 l5 l6 h = some (r, hf) → Go K MX1_doText (QM K (some (vi r)) hf) hf 45 [(0, vr (some l0)), (4, vi l4), (5, vi l5), (6, vi l6)] [] h) (l0 : Nat) (l4 : Int) (l5 : Int) (l6 : Int)  (h : HP) (E : X1_doText_L197 F  rc45 l0 l4 l5 l6 h = some (r, hf)) : Go K MX1_doText (QM K (some (vi r)) hf) hf 197 [(0, vr (some l0)), (4, vi l4), (5, vi l5), (6, vi l6)] [] h := by
  unfold X1_doText_L197 at E
  refine go_iinc (j := 3) (n := 200) (lv' := [(6, vi (w32 (l6 + 1))), (0, vr (some l0)), (4, vi l4), (5, vi l5)]) rfl dX1_doText_197 rfl (Nat.le_of_ble_eq_true rfl) rfl ?_
  refine go_goto (tgt := 45) dX1_doText_200 rfl ?_
  refine go_pick (lv' := [(0, vr (some l0)), (4, vi l4), (5, vi l5), (6, vi (w32 (l6 + 1)))]) [1, 2, 3, 0] rfl ?_
  exact hrc45 _ _ _ _ _ E
noncomputable def X1_doText_L195 (F : Nat)  (rc45 : Nat → Int → Int → Int → HP → Option (Int × HP)) (l0 : Nat) (l4 : Int) (l6 : Int) (s0 : Int) (h : HP) : Option (Int × HP) :=
  X1_doText_L197 F rc45 l0 l4 s0 l6 h
set_option maxRecDepth 100000 in
theorem SX1_doText_L195 {K : Ctx} {F : Nat} {r : Int} {hf : HP}   (rc45 : Nat → Int → Int → Int → HP → Option (Int × HP)) (hrc45 : ∀ l0 l4 l5 l6 h, rc45 l0 l4 l5 l6 h = some (r, hf) → Go K MX1_doText (QM K (some (vi r)) hf) hf 45 [(0, vr (some l0)), (4, vi l4), (5, vi l5), (6, vi l6)] [] h) (l0 : Nat) (l4 : Int) (l6 : Int) (s0 : Int) (h : HP) (E : X1_doText_L195 F  rc45 l0 l4 l6 s0 h = some (r, hf)) : Go K MX1_doText (QM K (some (vi r)) hf) hf 195 [(0, vr (some l0)), (4, vi l4), (6, vi l6)] [vi s0] h := by
  unfold X1_doText_L195 at E
  refine go_istore (n := 197) (lv' := [(5, vi s0), (0, vr (some l0)), (4, vi l4), (6, vi l6)]) dX1_doText_195 rfl (Nat.le_of_ble_eq_true rfl) rfl ?_
  refine go_pick (lv' := [(0, vr (some l0)), (4, vi l4), (5, vi s0), (6, vi l6)]) [1, 2, 0, 3] rfl ?_
  exact SX1_doText_L197   _ hrc45 _ _ _ _  _ E
noncomputable def X1_doText_L183 (F : Nat)  (rc45 : Nat → Int → Int → Int → HP → Option (Int × HP)) (l0 : Nat) (l4 : Int) (l6 : Int)  (h : HP) : Option (Int × HP) :=
  (xrc h (some l0) 1 8).bind fun a3 =>
  xb (X1_holds F a3 h) fun v1 h2 =>
  X1_doText_L195 F rc45 l0 l4 l6 (if v1 = 0 then 1 else 0) h2
set_option maxRecDepth 100000 in
theorem SX1_doText_L183 {K : Ctx} {F : Nat} {r : Int} {hf : HP}   (rc45 : Nat → Int → Int → Int → HP → Option (Int × HP)) (hrc45 : ∀ l0 l4 l5 l6 h, rc45 l0 l4 l5 l6 h = some (r, hf) → Go K MX1_doText (QM K (some (vi r)) hf) hf 45 [(0, vr (some l0)), (4, vi l4), (5, vi l5), (6, vi l6)] [] h) (l0 : Nat) (l4 : Int) (l6 : Int)  (h : HP) (E : X1_doText_L183 F  rc45 l0 l4 l6 h = some (r, hf)) : Go K MX1_doText (QM K (some (vi r)) hf) hf 183 [(0, vr (some l0)), (4, vi l4), (6, vi l6)] [] h := by
  unfold X1_doText_L183 at E
  refine go_aload_n (j := 0) (n := 184) rfl rfl dX1_doText_183 rfl ?_
  replace E := Option.bind_eq_some_iff.mp E; obtain ⟨a3, ea3, E⟩ := E
  obtain ⟨fa3, ga3⟩ := xrc_some ea3
  replace E := xb_some E; obtain ⟨v1, h2, ev1, E⟩ := E
  refine go_callV (y := yX1_holds) (n := 187) (st := []) (as := []) (stk9 := [vi v1]) (OX1_holds ev1) yw_X1_holds ci_1 ga3 wml_RX1_58 wim_X1_holds wse_X1_holds (Nat.le_of_ble_eq_true rfl) rfl ⟨Nat.le_of_ble_eq_true rfl, Nat.le_of_ble_eq_true rfl⟩ (Nat.le_of_ble_eq_true rfl) dX1_doText_184 rfl (by cases fa3; rfl) rfl ?_
  refine go_if_ne (tgt := 194) (n := 190) dX1_doText_187 rfl rfl (fun c4 => ?_) (fun c4 => ?_)
  · simp only [if_neg c4] at E
    refine go_iconst (z := 0) (n := 195) ⟨by decide, by decide⟩ dX1_doText_194 rfl ?_
    exact SX1_doText_L195   _ hrc45 _ _ _ _ _ E
  · simp only [if_pos c4] at E
    refine go_iconst (z := 1) (n := 191) ⟨by decide, by decide⟩ dX1_doText_190 rfl ?_
    refine go_goto (tgt := 195) dX1_doText_191 rfl ?_
    exact SX1_doText_L195   _ hrc45 _ _ _ _ _ E
noncomputable def X1_doText_L176 (F : Nat)  (rc45 : Nat → Int → Int → Int → HP → Option (Int × HP)) (l0 : Nat) (l4 : Int) (l5 : Int) (l6 : Int) (s0 : Int) (s1 : Int) (s2 : Option Nat) (h : HP) : Option (Int × HP) :=
  (xpI h s2 1 8 7 (w32 (s1 + s0))).bind fun h1 =>
  X1_doText_L197 F rc45 l0 l4 l5 l6 h1
set_option maxRecDepth 100000 in
theorem SX1_doText_L176 {K : Ctx} {F : Nat} {r : Int} {hf : HP}   (rc45 : Nat → Int → Int → Int → HP → Option (Int × HP)) (hrc45 : ∀ l0 l4 l5 l6 h, rc45 l0 l4 l5 l6 h = some (r, hf) → Go K MX1_doText (QM K (some (vi r)) hf) hf 45 [(0, vr (some l0)), (4, vi l4), (5, vi l5), (6, vi l6)] [] h) (l0 : Nat) (l4 : Int) (l5 : Int) (l6 : Int) (s0 : Int) (s1 : Int) (s2 : Option Nat) (h : HP) (E : X1_doText_L176 F  rc45 l0 l4 l5 l6 s0 s1 s2 h = some (r, hf)) : Go K MX1_doText (QM K (some (vi r)) hf) hf 176 [(0, vr (some l0)), (4, vi l4), (5, vi l5), (6, vi l6)] [vi s0, vi s1, vr s2] h := by
  unfold X1_doText_L176 at E
  refine go_iadd (n := 177) dX1_doText_176 rfl ?_
  replace E := Option.bind_eq_some_iff.mp E; obtain ⟨h1, eh1, E⟩ := E
  refine go_putI (n := 180) eh1 fl_RX1_35 rfl dX1_doText_177 rfl ?_
  refine go_goto (tgt := 197) dX1_doText_180 rfl ?_
  exact SX1_doText_L197   _ hrc45 _ _ _ _  _ E
noncomputable def X1_doText_L45 (F : Nat)   (k : Nat) : Nat → Int → Int → Int → HP → Option (Int × HP) :=
  Nat.rec (motive := fun _ => Nat → Int → Int → Int → HP → Option (Int × HP)) (fun _ _ _ _ _ => none) (fun _ rc45 l0 l4 l5 l6 h =>
    if l4 ≤ l6 then
      xz l5 h
    else
      if l5 = 0 then
        xz l5 h
      else
        (xrc h (some l0) 1 8).bind fun a7 =>
        xb (X1_nextCode F a7 h) fun v5 h6 =>
        if v5 = 257 then
          (xrc h6 (some l0) 1 8).bind fun a10 =>
          xb (X1_nextCode F a10 h6) fun v8 h9 =>
          (xrc h9 (some l0) 1 8).bind fun a13 =>
          xb (X1_nextCode F a13 h9) fun v11 h12 =>
          (xrc h12 (some l0) 1 8).bind fun a16 =>
          xb (X1_doSet F a16 v8 v11 h12) fun v14 h15 =>
          X1_doText_L197 F rc45 l0 l4 v14 l6 h15
        else
          if v5 = 258 then
            (xrc h6 (some l0) 1 8).bind fun a19 =>
            xb (X1_nextCode F a19 h6) fun v17 h18 =>
            (xrc h18 (some l0) 1 8).bind fun a22 =>
            xb (X1_nextCode F a22 h18) fun v20 h21 =>
            (xrc h21 (some l0) 1 8).bind fun a25 =>
            xb (X1_nextCode F a25 h21) fun v23 h24 =>
            (xrc h24 (some l0) 1 8).bind fun a28 =>
            xb (X1_doTotal F a28 v17 v20 v23 h24) fun v26 h27 =>
            X1_doText_L197 F rc45 l0 l4 v26 l6 h27
          else
            if v5 = 259 then
              X1_doText_L183 F rc45 l0 l4 l6 h6
            else
              if v5 = 260 then
                X1_doText_L183 F rc45 l0 l4 l6 h6
              else
                if v5 = 261 then
                  (xrc h6 (some l0) 1 8).bind fun a31 =>
                  xb (X1_nextCode F a31 h6) fun v29 h30 =>
                  (xrc h30 (some l0) 1 8).bind fun a34 =>
                  xb (X1_nextCode F a34 h30) fun v32 h33 =>
                  (xrc h33 (some l0) 1 8).bind fun a37 =>
                  xb (X1_doRound F a37 v29 v32 h33) fun v35 h36 =>
                  X1_doText_L197 F rc45 l0 l4 v35 l6 h36
                else
                  if v5 = 262 then
                    X1_doText_L183 F rc45 l0 l4 l6 h6
                  else
                    if v5 = 263 then
                      (xgI h6 (some l0) 1 8 7).bind fun v38 =>
                      (xrc h6 (some l0) 1 8).bind fun a41 =>
                      xb (X1_holds F a41 h6) fun v39 h40 =>
                      X1_doText_L176 F rc45 l0 l4 l5 l6 (if v39 = 0 then 0 else 1) v38 (some l0) h40
                    else
                      X1_doText_L183 F rc45 l0 l4 l6 h6) k
theorem X1_doText_L45_s (F : Nat)   (k : Nat) (l0 : Nat) (l4 : Int) (l5 : Int) (l6 : Int)  (h : HP) : X1_doText_L45 F   (k + 1) l0 l4 l5 l6 h =
    if l4 ≤ l6 then
      xz l5 h
    else
      if l5 = 0 then
        xz l5 h
      else
        (xrc h (some l0) 1 8).bind fun a7 =>
        xb (X1_nextCode F a7 h) fun v5 h6 =>
        if v5 = 257 then
          (xrc h6 (some l0) 1 8).bind fun a10 =>
          xb (X1_nextCode F a10 h6) fun v8 h9 =>
          (xrc h9 (some l0) 1 8).bind fun a13 =>
          xb (X1_nextCode F a13 h9) fun v11 h12 =>
          (xrc h12 (some l0) 1 8).bind fun a16 =>
          xb (X1_doSet F a16 v8 v11 h12) fun v14 h15 =>
          X1_doText_L197 F (X1_doText_L45 F k) l0 l4 v14 l6 h15
        else
          if v5 = 258 then
            (xrc h6 (some l0) 1 8).bind fun a19 =>
            xb (X1_nextCode F a19 h6) fun v17 h18 =>
            (xrc h18 (some l0) 1 8).bind fun a22 =>
            xb (X1_nextCode F a22 h18) fun v20 h21 =>
            (xrc h21 (some l0) 1 8).bind fun a25 =>
            xb (X1_nextCode F a25 h21) fun v23 h24 =>
            (xrc h24 (some l0) 1 8).bind fun a28 =>
            xb (X1_doTotal F a28 v17 v20 v23 h24) fun v26 h27 =>
            X1_doText_L197 F (X1_doText_L45 F k) l0 l4 v26 l6 h27
          else
            if v5 = 259 then
              X1_doText_L183 F (X1_doText_L45 F k) l0 l4 l6 h6
            else
              if v5 = 260 then
                X1_doText_L183 F (X1_doText_L45 F k) l0 l4 l6 h6
              else
                if v5 = 261 then
                  (xrc h6 (some l0) 1 8).bind fun a31 =>
                  xb (X1_nextCode F a31 h6) fun v29 h30 =>
                  (xrc h30 (some l0) 1 8).bind fun a34 =>
                  xb (X1_nextCode F a34 h30) fun v32 h33 =>
                  (xrc h33 (some l0) 1 8).bind fun a37 =>
                  xb (X1_doRound F a37 v29 v32 h33) fun v35 h36 =>
                  X1_doText_L197 F (X1_doText_L45 F k) l0 l4 v35 l6 h36
                else
                  if v5 = 262 then
                    X1_doText_L183 F (X1_doText_L45 F k) l0 l4 l6 h6
                  else
                    if v5 = 263 then
                      (xgI h6 (some l0) 1 8 7).bind fun v38 =>
                      (xrc h6 (some l0) 1 8).bind fun a41 =>
                      xb (X1_holds F a41 h6) fun v39 h40 =>
                      X1_doText_L176 F (X1_doText_L45 F k) l0 l4 l5 l6 (if v39 = 0 then 0 else 1) v38 (some l0) h40
                    else
                      X1_doText_L183 F (X1_doText_L45 F k) l0 l4 l6 h6 := rfl
set_option maxRecDepth 100000 in
theorem SX1_doText_L45 {K : Ctx} {F : Nat} {r : Int} {hf : HP}     : ∀ (k : Nat) (l0 : Nat) (l4 : Int) (l5 : Int) (l6 : Int)  (h : HP), X1_doText_L45 F   k l0 l4 l5 l6 h = some (r, hf) → Go K MX1_doText (QM K (some (vi r)) hf) hf 45 [(0, vr (some l0)), (4, vi l4), (5, vi l5), (6, vi l6)] [] h := by
  intro k
  induction k with
  | zero => intro l0 l4 l5 l6 h E; exact nomatch E
  | succ k hrc45 =>
    intro l0 l4 l5 l6 h E
    rw [X1_doText_L45_s] at E
    refine go_iload (j := 3) (n := 47) rfl dX1_doText_45 rfl ?_
    refine go_iload (j := 1) (n := 49) rfl dX1_doText_47 rfl ?_
    refine go_icmp_ge (tgt := 203) (n := 52) dX1_doText_49 rfl rfl (fun c1 => ?_) (fun c1 => ?_)
    · rw [if_pos c1] at E
      refine go_iload (j := 2) (n := 205) rfl dX1_doText_203 rfl ?_
      unfold xz at E
      split at E
      · next c2 =>
        cases E
        exact go_zreturn rfl c2 dX1_doText_205
      · cases E
    · rw [if_neg c1] at E
      refine go_iload (j := 2) (n := 54) rfl dX1_doText_52 rfl ?_
      refine go_if_eq (tgt := 203) (n := 57) dX1_doText_54 rfl rfl (fun c3 => ?_) (fun c3 => ?_)
      · rw [if_pos c3] at E
        refine go_iload (j := 2) (n := 205) rfl dX1_doText_203 rfl ?_
        unfold xz at E
        split at E
        · next c4 =>
          cases E
          exact go_zreturn rfl c4 dX1_doText_205
        · cases E
      · rw [if_neg c3] at E
        refine go_aload_n (j := 0) (n := 58) rfl rfl dX1_doText_57 rfl ?_
        replace E := Option.bind_eq_some_iff.mp E; obtain ⟨a7, ea7, E⟩ := E
        obtain ⟨fa7, ga7⟩ := xrc_some ea7
        replace E := xb_some E; obtain ⟨v5, h6, ev5, E⟩ := E
        refine go_callV (y := yX1_nextCode) (n := 61) (st := []) (as := []) (stk9 := [vi v5]) (OX1_nextCode ev5) yw_X1_nextCode ci_1 ga7 wml_RX1_43 wim_X1_nextCode wse_X1_nextCode (Nat.le_of_ble_eq_true rfl) rfl ⟨Nat.le_of_ble_eq_true rfl, Nat.le_of_ble_eq_true rfl⟩ (Nat.le_of_ble_eq_true rfl) dX1_doText_58 rfl (by cases fa7; rfl) rfl ?_
        by_cases c43 : v5 = 257
        · rw [if_pos c43] at E
          refine go_tableIn (tgt := 104) dX1_doText_61 (by omega) (by omega) (by rw [c43]; rfl) rfl ?_
          refine go_aload_n (j := 0) (n := 105) rfl rfl dX1_doText_104 rfl ?_
          refine go_aload_n (j := 0) (n := 106) rfl rfl dX1_doText_105 rfl ?_
          replace E := Option.bind_eq_some_iff.mp E; obtain ⟨a10, ea10, E⟩ := E
          obtain ⟨fa10, ga10⟩ := xrc_some ea10
          replace E := xb_some E; obtain ⟨v8, h9, ev8, E⟩ := E
          refine go_callV (y := yX1_nextCode) (n := 109) (st := [vr (some l0)]) (as := []) (stk9 := [vi v8, vr (some l0)]) (OX1_nextCode ev8) yw_X1_nextCode ci_1 ga10 wml_RX1_43 wim_X1_nextCode wse_X1_nextCode (Nat.le_of_ble_eq_true rfl) rfl ⟨Nat.le_of_ble_eq_true rfl, Nat.le_of_ble_eq_true rfl⟩ (Nat.le_of_ble_eq_true rfl) dX1_doText_106 rfl (by cases fa10; rfl) rfl ?_
          refine go_aload_n (j := 0) (n := 110) rfl rfl dX1_doText_109 rfl ?_
          replace E := Option.bind_eq_some_iff.mp E; obtain ⟨a13, ea13, E⟩ := E
          obtain ⟨fa13, ga13⟩ := xrc_some ea13
          replace E := xb_some E; obtain ⟨v11, h12, ev11, E⟩ := E
          refine go_callV (y := yX1_nextCode) (n := 113) (st := [vi v8, vr (some l0)]) (as := []) (stk9 := [vi v11, vi v8, vr (some l0)]) (OX1_nextCode ev11) yw_X1_nextCode ci_1 ga13 wml_RX1_43 wim_X1_nextCode wse_X1_nextCode (Nat.le_of_ble_eq_true rfl) rfl ⟨Nat.le_of_ble_eq_true rfl, Nat.le_of_ble_eq_true rfl⟩ (Nat.le_of_ble_eq_true rfl) dX1_doText_110 rfl (by cases fa13; rfl) rfl ?_
          replace E := Option.bind_eq_some_iff.mp E; obtain ⟨a16, ea16, E⟩ := E
          obtain ⟨fa16, ga16⟩ := xrc_some ea16
          replace E := xb_some E; obtain ⟨v14, h15, ev14, E⟩ := E
          refine go_callV (y := yX1_doSet) (n := 116) (st := []) (as := [vi v8, vi v11]) (stk9 := [vi v14]) (OX1_doSet ev14) yw_X1_doSet ci_1 ga16 wml_RX1_47 wim_X1_doSet wse_X1_doSet (Nat.le_of_ble_eq_true rfl) rfl ⟨Nat.le_of_ble_eq_true rfl, Nat.le_of_ble_eq_true rfl⟩ (Nat.le_of_ble_eq_true rfl) dX1_doText_113 rfl (by cases fa16; rfl) rfl ?_
          refine go_istore (n := 118) (lv' := [(5, vi v14), (0, vr (some l0)), (4, vi l4), (6, vi l6)]) dX1_doText_116 rfl (Nat.le_of_ble_eq_true rfl) rfl ?_
          refine go_goto (tgt := 197) dX1_doText_118 rfl ?_
          refine go_pick (lv' := [(0, vr (some l0)), (4, vi l4), (5, vi v14), (6, vi l6)]) [1, 2, 0, 3] rfl ?_
          exact SX1_doText_L197   _ hrc45 _ _ _ _  _ E
        rw [if_neg c43] at E
        by_cases c44 : v5 = 258
        · rw [if_pos c44] at E
          refine go_tableIn (tgt := 121) dX1_doText_61 (by omega) (by omega) (by rw [c44]; rfl) rfl ?_
          refine go_aload_n (j := 0) (n := 122) rfl rfl dX1_doText_121 rfl ?_
          refine go_aload_n (j := 0) (n := 123) rfl rfl dX1_doText_122 rfl ?_
          replace E := Option.bind_eq_some_iff.mp E; obtain ⟨a19, ea19, E⟩ := E
          obtain ⟨fa19, ga19⟩ := xrc_some ea19
          replace E := xb_some E; obtain ⟨v17, h18, ev17, E⟩ := E
          refine go_callV (y := yX1_nextCode) (n := 126) (st := [vr (some l0)]) (as := []) (stk9 := [vi v17, vr (some l0)]) (OX1_nextCode ev17) yw_X1_nextCode ci_1 ga19 wml_RX1_43 wim_X1_nextCode wse_X1_nextCode (Nat.le_of_ble_eq_true rfl) rfl ⟨Nat.le_of_ble_eq_true rfl, Nat.le_of_ble_eq_true rfl⟩ (Nat.le_of_ble_eq_true rfl) dX1_doText_123 rfl (by cases fa19; rfl) rfl ?_
          refine go_aload_n (j := 0) (n := 127) rfl rfl dX1_doText_126 rfl ?_
          replace E := Option.bind_eq_some_iff.mp E; obtain ⟨a22, ea22, E⟩ := E
          obtain ⟨fa22, ga22⟩ := xrc_some ea22
          replace E := xb_some E; obtain ⟨v20, h21, ev20, E⟩ := E
          refine go_callV (y := yX1_nextCode) (n := 130) (st := [vi v17, vr (some l0)]) (as := []) (stk9 := [vi v20, vi v17, vr (some l0)]) (OX1_nextCode ev20) yw_X1_nextCode ci_1 ga22 wml_RX1_43 wim_X1_nextCode wse_X1_nextCode (Nat.le_of_ble_eq_true rfl) rfl ⟨Nat.le_of_ble_eq_true rfl, Nat.le_of_ble_eq_true rfl⟩ (Nat.le_of_ble_eq_true rfl) dX1_doText_127 rfl (by cases fa22; rfl) rfl ?_
          refine go_aload_n (j := 0) (n := 131) rfl rfl dX1_doText_130 rfl ?_
          replace E := Option.bind_eq_some_iff.mp E; obtain ⟨a25, ea25, E⟩ := E
          obtain ⟨fa25, ga25⟩ := xrc_some ea25
          replace E := xb_some E; obtain ⟨v23, h24, ev23, E⟩ := E
          refine go_callV (y := yX1_nextCode) (n := 134) (st := [vi v20, vi v17, vr (some l0)]) (as := []) (stk9 := [vi v23, vi v20, vi v17, vr (some l0)]) (OX1_nextCode ev23) yw_X1_nextCode ci_1 ga25 wml_RX1_43 wim_X1_nextCode wse_X1_nextCode (Nat.le_of_ble_eq_true rfl) rfl ⟨Nat.le_of_ble_eq_true rfl, Nat.le_of_ble_eq_true rfl⟩ (Nat.le_of_ble_eq_true rfl) dX1_doText_131 rfl (by cases fa25; rfl) rfl ?_
          replace E := Option.bind_eq_some_iff.mp E; obtain ⟨a28, ea28, E⟩ := E
          obtain ⟨fa28, ga28⟩ := xrc_some ea28
          replace E := xb_some E; obtain ⟨v26, h27, ev26, E⟩ := E
          refine go_callV (y := yX1_doTotal) (n := 137) (st := []) (as := [vi v17, vi v20, vi v23]) (stk9 := [vi v26]) (OX1_doTotal ev26) yw_X1_doTotal ci_1 ga28 wml_RX1_51 wim_X1_doTotal wse_X1_doTotal (Nat.le_of_ble_eq_true rfl) rfl ⟨Nat.le_of_ble_eq_true rfl, Nat.le_of_ble_eq_true rfl⟩ (Nat.le_of_ble_eq_true rfl) dX1_doText_134 rfl (by cases fa28; rfl) rfl ?_
          refine go_istore (n := 139) (lv' := [(5, vi v26), (0, vr (some l0)), (4, vi l4), (6, vi l6)]) dX1_doText_137 rfl (Nat.le_of_ble_eq_true rfl) rfl ?_
          refine go_goto (tgt := 197) dX1_doText_139 rfl ?_
          refine go_pick (lv' := [(0, vr (some l0)), (4, vi l4), (5, vi v26), (6, vi l6)]) [1, 2, 0, 3] rfl ?_
          exact SX1_doText_L197   _ hrc45 _ _ _ _  _ E
        rw [if_neg c44] at E
        by_cases c45 : v5 = 259
        · rw [if_pos c45] at E
          refine go_tableIn (tgt := 183) dX1_doText_61 (by omega) (by omega) (by rw [c45]; rfl) rfl ?_
          refine go_pick (lv' := [(0, vr (some l0)), (4, vi l4), (6, vi l6)]) [0, 1, 3] rfl ?_
          exact SX1_doText_L183   _ hrc45 _ _ _  _ E
        rw [if_neg c45] at E
        by_cases c46 : v5 = 260
        · rw [if_pos c46] at E
          refine go_tableIn (tgt := 183) dX1_doText_61 (by omega) (by omega) (by rw [c46]; rfl) rfl ?_
          refine go_pick (lv' := [(0, vr (some l0)), (4, vi l4), (6, vi l6)]) [0, 1, 3] rfl ?_
          exact SX1_doText_L183   _ hrc45 _ _ _  _ E
        rw [if_neg c46] at E
        by_cases c47 : v5 = 261
        · rw [if_pos c47] at E
          refine go_tableIn (tgt := 142) dX1_doText_61 (by omega) (by omega) (by rw [c47]; rfl) rfl ?_
          refine go_aload_n (j := 0) (n := 143) rfl rfl dX1_doText_142 rfl ?_
          refine go_aload_n (j := 0) (n := 144) rfl rfl dX1_doText_143 rfl ?_
          replace E := Option.bind_eq_some_iff.mp E; obtain ⟨a31, ea31, E⟩ := E
          obtain ⟨fa31, ga31⟩ := xrc_some ea31
          replace E := xb_some E; obtain ⟨v29, h30, ev29, E⟩ := E
          refine go_callV (y := yX1_nextCode) (n := 147) (st := [vr (some l0)]) (as := []) (stk9 := [vi v29, vr (some l0)]) (OX1_nextCode ev29) yw_X1_nextCode ci_1 ga31 wml_RX1_43 wim_X1_nextCode wse_X1_nextCode (Nat.le_of_ble_eq_true rfl) rfl ⟨Nat.le_of_ble_eq_true rfl, Nat.le_of_ble_eq_true rfl⟩ (Nat.le_of_ble_eq_true rfl) dX1_doText_144 rfl (by cases fa31; rfl) rfl ?_
          refine go_aload_n (j := 0) (n := 148) rfl rfl dX1_doText_147 rfl ?_
          replace E := Option.bind_eq_some_iff.mp E; obtain ⟨a34, ea34, E⟩ := E
          obtain ⟨fa34, ga34⟩ := xrc_some ea34
          replace E := xb_some E; obtain ⟨v32, h33, ev32, E⟩ := E
          refine go_callV (y := yX1_nextCode) (n := 151) (st := [vi v29, vr (some l0)]) (as := []) (stk9 := [vi v32, vi v29, vr (some l0)]) (OX1_nextCode ev32) yw_X1_nextCode ci_1 ga34 wml_RX1_43 wim_X1_nextCode wse_X1_nextCode (Nat.le_of_ble_eq_true rfl) rfl ⟨Nat.le_of_ble_eq_true rfl, Nat.le_of_ble_eq_true rfl⟩ (Nat.le_of_ble_eq_true rfl) dX1_doText_148 rfl (by cases fa34; rfl) rfl ?_
          replace E := Option.bind_eq_some_iff.mp E; obtain ⟨a37, ea37, E⟩ := E
          obtain ⟨fa37, ga37⟩ := xrc_some ea37
          replace E := xb_some E; obtain ⟨v35, h36, ev35, E⟩ := E
          refine go_callV (y := yX1_doRound) (n := 154) (st := []) (as := [vi v29, vi v32]) (stk9 := [vi v35]) (OX1_doRound ev35) yw_X1_doRound ci_1 ga37 wml_RX1_55 wim_X1_doRound wse_X1_doRound (Nat.le_of_ble_eq_true rfl) rfl ⟨Nat.le_of_ble_eq_true rfl, Nat.le_of_ble_eq_true rfl⟩ (Nat.le_of_ble_eq_true rfl) dX1_doText_151 rfl (by cases fa37; rfl) rfl ?_
          refine go_istore (n := 156) (lv' := [(5, vi v35), (0, vr (some l0)), (4, vi l4), (6, vi l6)]) dX1_doText_154 rfl (Nat.le_of_ble_eq_true rfl) rfl ?_
          refine go_goto (tgt := 197) dX1_doText_156 rfl ?_
          refine go_pick (lv' := [(0, vr (some l0)), (4, vi l4), (5, vi v35), (6, vi l6)]) [1, 2, 0, 3] rfl ?_
          exact SX1_doText_L197   _ hrc45 _ _ _ _  _ E
        rw [if_neg c47] at E
        by_cases c48 : v5 = 262
        · rw [if_pos c48] at E
          refine go_tableIn (tgt := 183) dX1_doText_61 (by omega) (by omega) (by rw [c48]; rfl) rfl ?_
          refine go_pick (lv' := [(0, vr (some l0)), (4, vi l4), (6, vi l6)]) [0, 1, 3] rfl ?_
          exact SX1_doText_L183   _ hrc45 _ _ _  _ E
        rw [if_neg c48] at E
        by_cases c49 : v5 = 263
        · rw [if_pos c49] at E
          refine go_tableIn (tgt := 159) dX1_doText_61 (by omega) (by omega) (by rw [c49]; rfl) rfl ?_
          refine go_aload_n (j := 0) (n := 160) rfl rfl dX1_doText_159 rfl ?_
          refine go_dup (n := 161) rfl dX1_doText_160 rfl ?_
          replace E := Option.bind_eq_some_iff.mp E; obtain ⟨v38, ev38, E⟩ := E
          refine go_getI (n := 164) ev38 fl_RX1_35 rfl dX1_doText_161 rfl ?_
          refine go_aload_n (j := 0) (n := 165) rfl rfl dX1_doText_164 rfl ?_
          replace E := Option.bind_eq_some_iff.mp E; obtain ⟨a41, ea41, E⟩ := E
          obtain ⟨fa41, ga41⟩ := xrc_some ea41
          replace E := xb_some E; obtain ⟨v39, h40, ev39, E⟩ := E
          refine go_callV (y := yX1_holds) (n := 168) (st := [vi v38, vr (some l0)]) (as := []) (stk9 := [vi v39, vi v38, vr (some l0)]) (OX1_holds ev39) yw_X1_holds ci_1 ga41 wml_RX1_58 wim_X1_holds wse_X1_holds (Nat.le_of_ble_eq_true rfl) rfl ⟨Nat.le_of_ble_eq_true rfl, Nat.le_of_ble_eq_true rfl⟩ (Nat.le_of_ble_eq_true rfl) dX1_doText_165 rfl (by cases fa41; rfl) rfl ?_
          refine go_if_eq (tgt := 175) (n := 171) dX1_doText_168 rfl rfl (fun c42 => ?_) (fun c42 => ?_)
          · simp only [if_pos c42] at E
            refine go_iconst (z := 0) (n := 176) ⟨by decide, by decide⟩ dX1_doText_175 rfl ?_
            exact SX1_doText_L176   _ hrc45 _ _ _ _ _ _ _ _ E
          · simp only [if_neg c42] at E
            refine go_iconst (z := 1) (n := 172) ⟨by decide, by decide⟩ dX1_doText_171 rfl ?_
            refine go_goto (tgt := 176) dX1_doText_172 rfl ?_
            exact SX1_doText_L176   _ hrc45 _ _ _ _ _ _ _ _ E
        rw [if_neg c49] at E
        refine go_tableOut (tgt := 183) dX1_doText_61 (by omega) rfl ?_
        refine go_pick (lv' := [(0, vr (some l0)), (4, vi l4), (6, vi l6)]) [0, 1, 3] rfl ?_
        exact SX1_doText_L183   _ hrc45 _ _ _  _ E
noncomputable def X1_doText_L37 (F : Nat)   (l0 : Nat) (s0 : Int) (h : HP) : Option (Int × HP) :=
  X1_doText_L45 F F l0 s0 1 0 h
set_option maxRecDepth 100000 in
theorem SX1_doText_L37 {K : Ctx} {F : Nat} {r : Int} {hf : HP}     (l0 : Nat) (s0 : Int) (h : HP) (E : X1_doText_L37 F   l0 s0 h = some (r, hf)) : Go K MX1_doText (QM K (some (vi r)) hf) hf 37 [(0, vr (some l0))] [vi s0] h := by
  unfold X1_doText_L37 at E
  refine go_istore (n := 39) (lv' := [(4, vi s0), (0, vr (some l0))]) dX1_doText_37 rfl (Nat.le_of_ble_eq_true rfl) rfl ?_
  refine go_iconst (z := 1) (n := 40) ⟨by decide, by decide⟩ dX1_doText_39 rfl ?_
  refine go_istore (n := 42) (lv' := [(5, vi 1), (4, vi s0), (0, vr (some l0))]) dX1_doText_40 rfl (Nat.le_of_ble_eq_true rfl) rfl ?_
  refine go_iconst (z := 0) (n := 43) ⟨by decide, by decide⟩ dX1_doText_42 rfl ?_
  refine go_istore (n := 45) (lv' := [(6, vi 0), (5, vi 1), (4, vi s0), (0, vr (some l0))]) dX1_doText_43 rfl (Nat.le_of_ble_eq_true rfl) rfl ?_
  refine go_pick (lv' := [(0, vr (some l0)), (4, vi s0), (5, vi 1), (6, vi 0)]) [3, 2, 1, 0] rfl ?_
  exact SX1_doText_L45     F _ _ _ _ _ E
noncomputable def X1_doText (F : Nat)   (l0 : Nat) (l1 : Option Nat) (l2 : Int) (l3 : Int)  (h : HP) : Option (Int × HP) :=
  (xpP h (some l0) 1 8 1 l1).bind fun h1 =>
  (xpI h1 (some l0) 1 8 3 l2).bind fun h2 =>
  (xpI h2 (some l0) 1 8 4 l3).bind fun h3 =>
  (xpI h3 (some l0) 1 8 2 0).bind fun h4 =>
  (xpI h4 (some l0) 1 8 7 0).bind fun h5 =>
  if l1 = none then
    X1_doText_L37 F l0 0 h5
  else
    (xgI h5 l1 9 4 1).bind fun v7 =>
    X1_doText_L37 F l0 v7 h5
set_option maxRecDepth 100000 in
theorem SX1_doText {K : Ctx} {F : Nat} {r : Int} {hf : HP}     (l0 : Nat) (l1 : Option Nat) (l2 : Int) (l3 : Int)  (h : HP) (E : X1_doText F   l0 l1 l2 l3 h = some (r, hf)) : Go K MX1_doText (QM K (some (vi r)) hf) hf 0 [(0, vr (some l0)), (1, vr l1), (2, vi l2), (3, vi l3)] [] h := by
  unfold X1_doText at E
  refine go_aload_n (j := 0) (n := 1) rfl rfl dX1_doText_0 rfl ?_
  refine go_aload_n (j := 1) (n := 2) rfl rfl dX1_doText_1 rfl ?_
  replace E := Option.bind_eq_some_iff.mp E; obtain ⟨h1, eh1, E⟩ := E
  refine go_putP (n := 5) eh1 fl_RX1_22 rfl dX1_doText_2 rfl ?_
  refine go_aload_n (j := 0) (n := 6) rfl rfl dX1_doText_5 rfl ?_
  refine go_iload_n (j := 2) (n := 7) rfl rfl dX1_doText_6 rfl ?_
  replace E := Option.bind_eq_some_iff.mp E; obtain ⟨h2, eh2, E⟩ := E
  refine go_putI (n := 10) eh2 fl_RX1_26 rfl dX1_doText_7 rfl ?_
  refine go_aload_n (j := 0) (n := 11) rfl rfl dX1_doText_10 rfl ?_
  refine go_iload_n (j := 3) (n := 12) rfl rfl dX1_doText_11 rfl ?_
  replace E := Option.bind_eq_some_iff.mp E; obtain ⟨h3, eh3, E⟩ := E
  refine go_putI (n := 15) eh3 fl_RX1_29 rfl dX1_doText_12 rfl ?_
  refine go_aload_n (j := 0) (n := 16) rfl rfl dX1_doText_15 rfl ?_
  refine go_iconst (z := 0) (n := 17) ⟨by decide, by decide⟩ dX1_doText_16 rfl ?_
  replace E := Option.bind_eq_some_iff.mp E; obtain ⟨h4, eh4, E⟩ := E
  refine go_putI (n := 20) eh4 fl_RX1_32 rfl dX1_doText_17 rfl ?_
  refine go_aload_n (j := 0) (n := 21) rfl rfl dX1_doText_20 rfl ?_
  refine go_iconst (z := 0) (n := 22) ⟨by decide, by decide⟩ dX1_doText_21 rfl ?_
  replace E := Option.bind_eq_some_iff.mp E; obtain ⟨h5, eh5, E⟩ := E
  refine go_putI (n := 25) eh5 fl_RX1_35 rfl dX1_doText_22 rfl ?_
  refine go_aload_n (j := 1) (n := 26) rfl rfl dX1_doText_25 rfl ?_
  refine go_ifnonnull (tgt := 33) (n := 29) dX1_doText_26 rfl rfl (fun c6 => ?_) (fun c6 => ?_)
  · rw [if_neg c6] at E
    refine go_aload_n (j := 1) (n := 34) rfl rfl dX1_doText_33 rfl ?_
    replace E := Option.bind_eq_some_iff.mp E; obtain ⟨v7, ev7, E⟩ := E
    refine go_getI (n := 37) ev7 fl_RX1_38 rfl dX1_doText_34 rfl ?_
    refine go_pick (lv' := [(0, vr (some l0))]) [0] rfl ?_
    exact SX1_doText_L37     _ _ _ E
  · rw [if_pos c6] at E
    refine go_iconst (z := 0) (n := 30) ⟨by decide, by decide⟩ dX1_doText_29 rfl ?_
    refine go_goto (tgt := 37) dX1_doText_30 rfl ?_
    refine go_pick (lv' := [(0, vr (some l0))]) [0] rfl ?_
    exact SX1_doText_L37     _ _ _ E
theorem OX1_doText {F : Nat} {l0 : Nat} {l1 : Option Nat} {l2 : Int} {l3 : Int} {h hf : HP} {r : Int} (e : X1_doText F l0 l1 l2 l3 h = some (r, hf)) : Ok MX1_doText [vr (some l0), vr l1, vi l2, vi l3] (some (vi r)) h hf := fun K _ _ _ => SX1_doText l0 l1 l2 l3 h e
abbrev MX2_leave : MI := (RX2, cX2_leave, 3, none, 2, none, "leave")
noncomputable def X2_leave (F : Nat)   (l0 : Nat) (l1 : Int) (l2 : Int)  (h : HP) : Option (Unit × HP) :=
  (xpI h (some l0) 2 18 9 l1).bind fun h1 =>
  (xpI h1 (some l0) 2 18 12 0).bind fun h2 =>
  (xpI h2 (some l0) 2 18 14 l2).bind fun h3 =>
  (xgI h3 (some l0) 2 18 15).bind fun v4 =>
  (xpI h3 (some l0) 2 18 15 (w32 (v4 + 1))).bind fun h5 =>
  if l1 = 6 then
    (xgI h5 (some l0) 2 18 16).bind fun v7 =>
    (xpI h5 (some l0) 2 18 16 (w32 (v7 + 1))).bind fun h8 =>
    some ((), h8)
  else
    some ((), h5)
set_option maxRecDepth 100000 in
theorem SX2_leave {K : Ctx} {F : Nat} {r : Unit} {hf : HP}     (l0 : Nat) (l1 : Int) (l2 : Int)  (h : HP) (E : X2_leave F   l0 l1 l2 h = some (r, hf)) : Go K MX2_leave (QM K none hf) hf 0 [(0, vr (some l0)), (1, vi l1), (2, vi l2)] [] h := by
  unfold X2_leave at E
  refine go_aload_n (j := 0) (n := 1) rfl rfl dX2_leave_0 rfl ?_
  refine go_iload_n (j := 1) (n := 2) rfl rfl dX2_leave_1 rfl ?_
  replace E := Option.bind_eq_some_iff.mp E; obtain ⟨h1, eh1, E⟩ := E
  refine go_putI (n := 5) eh1 fl_RX2_41 rfl dX2_leave_2 rfl ?_
  refine go_aload_n (j := 0) (n := 6) rfl rfl dX2_leave_5 rfl ?_
  refine go_iconst (z := 0) (n := 7) ⟨by decide, by decide⟩ dX2_leave_6 rfl ?_
  replace E := Option.bind_eq_some_iff.mp E; obtain ⟨h2, eh2, E⟩ := E
  refine go_putI (n := 10) eh2 fl_RX2_50 rfl dX2_leave_7 rfl ?_
  refine go_aload_n (j := 0) (n := 11) rfl rfl dX2_leave_10 rfl ?_
  refine go_iload_n (j := 2) (n := 12) rfl rfl dX2_leave_11 rfl ?_
  replace E := Option.bind_eq_some_iff.mp E; obtain ⟨h3, eh3, E⟩ := E
  refine go_putI (n := 15) eh3 fl_RX2_56 rfl dX2_leave_12 rfl ?_
  refine go_aload_n (j := 0) (n := 16) rfl rfl dX2_leave_15 rfl ?_
  refine go_dup (n := 17) rfl dX2_leave_16 rfl ?_
  replace E := Option.bind_eq_some_iff.mp E; obtain ⟨v4, ev4, E⟩ := E
  refine go_getI (n := 20) ev4 fl_RX2_59 rfl dX2_leave_17 rfl ?_
  refine go_iconst (z := 1) (n := 21) ⟨by decide, by decide⟩ dX2_leave_20 rfl ?_
  refine go_iadd (n := 22) dX2_leave_21 rfl ?_
  replace E := Option.bind_eq_some_iff.mp E; obtain ⟨h5, eh5, E⟩ := E
  refine go_putI (n := 25) eh5 fl_RX2_59 rfl dX2_leave_22 rfl ?_
  refine go_iload_n (j := 1) (n := 26) rfl rfl dX2_leave_25 rfl ?_
  refine go_bipush (z := 6) (n := 28) ⟨by decide, by decide⟩ dX2_leave_26 rfl ?_
  refine go_icmp_ne (tgt := 41) (n := 31) dX2_leave_28 rfl rfl (fun c6 => ?_) (fun c6 => ?_)
  · rw [if_neg c6] at E
    cases E
    exact go_return rfl dX2_leave_41
  · rw [if_pos c6] at E
    refine go_aload_n (j := 0) (n := 32) rfl rfl dX2_leave_31 rfl ?_
    refine go_dup (n := 33) rfl dX2_leave_32 rfl ?_
    replace E := Option.bind_eq_some_iff.mp E; obtain ⟨v7, ev7, E⟩ := E
    refine go_getI (n := 36) ev7 fl_RX2_62 rfl dX2_leave_33 rfl ?_
    refine go_iconst (z := 1) (n := 37) ⟨by decide, by decide⟩ dX2_leave_36 rfl ?_
    refine go_iadd (n := 38) dX2_leave_37 rfl ?_
    replace E := Option.bind_eq_some_iff.mp E; obtain ⟨h8, eh8, E⟩ := E
    refine go_putI (n := 41) eh8 fl_RX2_62 rfl dX2_leave_38 rfl ?_
    cases E
    exact go_return rfl dX2_leave_41
theorem OX2_leave {F : Nat} {l0 : Nat} {l1 : Int} {l2 : Int} {h hf : HP} {r : Unit} (e : X2_leave F l0 l1 l2 h = some (r, hf)) : Ok MX2_leave [vr (some l0), vi l1, vi l2] none h hf := fun K _ _ _ => SX2_leave l0 l1 l2 h e
theorem yw_X7_takePen : YW yX7_takePen cX7_takePen 5 none 4 := ⟨bw_of 1003 (by decide +kernel) rfl, bw_of 121 (by decide +kernel) rfl, ⟨by decide +kernel, by decide +kernel, by decide +kernel⟩, by decide +kernel⟩
theorem wml_RX4_61 : Cond.methodLink RX4 61 yX7_takePen ∈ BW := bw_of 1000 (by decide +kernel) rfl
theorem wim_X7_takePen : Cond.instanceMethod yX7_takePen ∈ BW := bw_of 1001 (by decide +kernel) rfl
theorem wse_X7_takePen : Cond.selects RX7 yX7_takePen yX7_takePen ∈ BW := bw_of 1002 (by decide +kernel) rfl
theorem fl_RX4_126 : FL RX4 126 2 18 5 false := ⟨RX2, TX2, ci_2, by decide, bw_of 318 (by decide +kernel) rfl, rfl, rfl⟩
theorem yw_X1_doText : YW yX1_doText cX1_doText 7 (some .boolean) 3 := ⟨bw_of 1442 (by decide +kernel) rfl, bw_of 120 (by decide +kernel) rfl, ⟨by decide +kernel, by decide +kernel, by decide +kernel⟩, by decide +kernel⟩
theorem wml_RX4_136 : Cond.methodLink RX4 136 yX1_doText ∈ BW := bw_of 1439 (by decide +kernel) rfl
theorem wim_X1_doText : Cond.instanceMethod yX1_doText ∈ BW := bw_of 1440 (by decide +kernel) rfl
theorem wse_X1_doText : Cond.selects RX1 yX1_doText yX1_doText ∈ BW := bw_of 1441 (by decide +kernel) rfl
theorem yw_X2_leave : YW yX2_leave cX2_leave 3 none 2 := ⟨bw_of 1484 (by decide +kernel) rfl, bw_of 123 (by decide +kernel) rfl, ⟨by decide +kernel, by decide +kernel, by decide +kernel⟩, by decide +kernel⟩
theorem wml_RX4_144 : Cond.methodLink RX4 144 yX2_leave ∈ BW := bw_of 1481 (by decide +kernel) rfl
theorem wim_X2_leave : Cond.instanceMethod yX2_leave ∈ BW := bw_of 1482 (by decide +kernel) rfl
theorem wse_X2_leave : Cond.selects RX2 yX2_leave yX2_leave ∈ BW := bw_of 1483 (by decide +kernel) rfl
theorem fl_RX4_140 : FL RX4 140 2 18 17 false := ⟨RX2, TX2, ci_2, by decide, bw_of 347 (by decide +kernel) rfl, rfl, rfl⟩
theorem fl_RX4_143 : FL RX4 143 1 8 7 false := ⟨RX1, TX1, ci_1, by decide, bw_of 274 (by decide +kernel) rfl, rfl, rfl⟩
theorem wml_RX4_115 : Cond.methodLink RX4 115 yX2_writes ∈ BW := bw_of 1420 (by decide +kernel) rfl
theorem fl_RX4_119 : FL RX4 119 2 18 8 false := ⟨RX2, TX2, ci_2, by decide, bw_of 326 (by decide +kernel) rfl, rfl, rfl⟩
theorem yw_X1_doShortly : YW yX1_doShortly cX1_doShortly 5 (some .boolean) 2 := ⟨bw_of 1424 (by decide +kernel) rfl, bw_of 120 (by decide +kernel) rfl, ⟨by decide +kernel, by decide +kernel, by decide +kernel⟩, by decide +kernel⟩
theorem wml_RX4_122 : Cond.methodLink RX4 122 yX1_doShortly ∈ BW := bw_of 1421 (by decide +kernel) rfl
theorem wim_X1_doShortly : Cond.instanceMethod yX1_doShortly ∈ BW := bw_of 1422 (by decide +kernel) rfl
theorem wse_X1_doShortly : Cond.selects RX1 yX1_doShortly yX1_doShortly ∈ BW := bw_of 1423 (by decide +kernel) rfl
theorem fl_RX4_112 : FL RX4 112 2 18 10 false := ⟨RX2, TX2, ci_2, by decide, bw_of 333 (by decide +kernel) rfl, rfl, rfl⟩
abbrev MX4_finish : MI := (RX4, cX4_finish, 7, none, 7, none, "finish")
noncomputable def X4_finish_L149 (F : Nat)   (l0 : Nat) (s0 : Int) (s1 : Option Nat) (h : HP) : Option (Unit × HP) :=
  (xgI h (some l0) 4 12 6).bind fun v1 =>
  (xrc h s1 2 18).bind fun a4 =>
  xb (X2_leave F a4 s0 v1 h) fun v2 h3 =>
  some ((), h3)
set_option maxRecDepth 100000 in
theorem SX4_finish_L149 {K : Ctx} {F : Nat} {r : Unit} {hf : HP}     (l0 : Nat) (s0 : Int) (s1 : Option Nat) (h : HP) (E : X4_finish_L149 F   l0 s0 s1 h = some (r, hf)) : Go K MX4_finish (QM K none hf) hf 149 [(0, vr (some l0))] [vi s0, vr s1] h := by
  unfold X4_finish_L149 at E
  refine go_aload_n (j := 0) (n := 150) rfl rfl dX4_finish_149 rfl ?_
  replace E := Option.bind_eq_some_iff.mp E; obtain ⟨v1, ev1, E⟩ := E
  refine go_getI (n := 153) ev1 fl_RX4_58 rfl dX4_finish_150 rfl ?_
  replace E := Option.bind_eq_some_iff.mp E; obtain ⟨a4, ea4, E⟩ := E
  obtain ⟨fa4, ga4⟩ := xrc_some ea4
  replace E := xb_some E; obtain ⟨v2, h3, ev2, E⟩ := E
  refine go_callV (y := yX2_leave) (n := 156) (st := []) (as := [vi s0, vi v1]) (stk9 := []) (OX2_leave ev2) yw_X2_leave ci_2 ga4 wml_RX4_144 wim_X2_leave wse_X2_leave (Nat.le_of_ble_eq_true rfl) rfl ⟨Nat.le_of_ble_eq_true rfl, Nat.le_of_ble_eq_true rfl⟩ (Nat.le_of_ble_eq_true rfl) dX4_finish_153 rfl (by cases fa4; rfl) rfl ?_
  cases E
  exact go_return rfl dX4_finish_156
noncomputable def X4_finish_L134 (F : Nat)   (l0 : Nat) (l3 : Option Nat) (l5 : Int) (s0 : Int) (h : HP) : Option (Unit × HP) :=
  X4_finish_L149 F l0 (if l5 = 0 then 6 else s0) l3 h
set_option maxRecDepth 100000 in
theorem SX4_finish_L134 {K : Ctx} {F : Nat} {r : Unit} {hf : HP}     (l0 : Nat) (l3 : Option Nat) (l5 : Int) (s0 : Int) (h : HP) (E : X4_finish_L134 F   l0 l3 l5 s0 h = some (r, hf)) : Go K MX4_finish (QM K none hf) hf 134 [(0, vr (some l0)), (3, vr l3), (5, vi l5)] [vi s0] h := by
  unfold X4_finish_L134 at E
  refine go_istore (n := 136) (lv' := [(6, vi s0), (0, vr (some l0)), (3, vr l3), (5, vi l5)]) dX4_finish_134 rfl (Nat.le_of_ble_eq_true rfl) rfl ?_
  refine go_aload_n (j := 2) (n := 137) rfl rfl dX4_finish_136 rfl ?_
  refine go_iload (j := 3) (n := 139) rfl dX4_finish_137 rfl ?_
  refine go_if_eq (tgt := 147) (n := 142) dX4_finish_139 rfl rfl (fun c1 => ?_) (fun c1 => ?_)
  · simp only [if_pos c1] at E
    refine go_bipush (z := 6) (n := 149) ⟨by decide, by decide⟩ dX4_finish_147 rfl ?_
    refine go_pick (lv' := [(0, vr (some l0))]) [1] rfl ?_
    exact SX4_finish_L149     _ _ _ _ E
  · simp only [if_neg c1] at E
    refine go_iload (j := 0) (n := 144) rfl dX4_finish_142 rfl ?_
    refine go_goto (tgt := 149) dX4_finish_144 rfl ?_
    refine go_pick (lv' := [(0, vr (some l0))]) [1] rfl ?_
    exact SX4_finish_L149     _ _ _ _ E
noncomputable def X4_finish_L116 (F : Nat)   (l0 : Nat) (l2 : Int) (l3 : Option Nat) (l4 : Int) (l5 : Int)  (h : HP) : Option (Unit × HP) :=
  X4_finish_L134 F l0 l3 l5 (if l2 = 0 then 4 else if l4 = 0 then 2 else 3) h
set_option maxRecDepth 100000 in
theorem SX4_finish_L116 {K : Ctx} {F : Nat} {r : Unit} {hf : HP}     (l0 : Nat) (l2 : Int) (l3 : Option Nat) (l4 : Int) (l5 : Int)  (h : HP) (E : X4_finish_L116 F   l0 l2 l3 l4 l5 h = some (r, hf)) : Go K MX4_finish (QM K none hf) hf 116 [(0, vr (some l0)), (2, vi l2), (3, vr l3), (4, vi l4), (5, vi l5)] [] h := by
  unfold X4_finish_L116 at E
  refine go_iload_n (j := 1) (n := 117) rfl rfl dX4_finish_116 rfl ?_
  refine go_if_ne (tgt := 124) (n := 120) dX4_finish_117 rfl rfl (fun c1 => ?_) (fun c1 => ?_)
  · simp only [if_neg c1] at E
    refine go_iload (j := 3) (n := 126) rfl dX4_finish_124 rfl ?_
    refine go_if_eq (tgt := 133) (n := 129) dX4_finish_126 rfl rfl (fun c2 => ?_) (fun c2 => ?_)
    · simp only [if_pos c2] at E
      refine go_iconst (z := 2) (n := 134) ⟨by decide, by decide⟩ dX4_finish_133 rfl ?_
      refine go_pick (lv' := [(0, vr (some l0)), (3, vr l3), (5, vi l5)]) [0, 2, 4] rfl ?_
      exact SX4_finish_L134     _ _ _ _ _ E
    · simp only [if_neg c2] at E
      refine go_iconst (z := 3) (n := 130) ⟨by decide, by decide⟩ dX4_finish_129 rfl ?_
      refine go_goto (tgt := 134) dX4_finish_130 rfl ?_
      refine go_pick (lv' := [(0, vr (some l0)), (3, vr l3), (5, vi l5)]) [0, 2, 4] rfl ?_
      exact SX4_finish_L134     _ _ _ _ _ E
  · simp only [if_pos c1] at E
    refine go_iconst (z := 4) (n := 121) ⟨by decide, by decide⟩ dX4_finish_120 rfl ?_
    refine go_goto (tgt := 134) dX4_finish_121 rfl ?_
    refine go_pick (lv' := [(0, vr (some l0)), (3, vr l3), (5, vi l5)]) [0, 2, 4] rfl ?_
    exact SX4_finish_L134     _ _ _ _ _ E
noncomputable def X4_finish_L93 (F : Nat)   (l0 : Nat) (l2 : Int) (l3 : Option Nat) (l4 : Int) (s0 : Int) (h : HP) : Option (Unit × HP) :=
  if l4 = 0 then
    (xgI h l3 2 18 17).bind fun v2 =>
    (xgP h (some l0) 4 12 0).bind fun v3 =>
    (xgI h v3 1 8 7).bind fun v4 =>
    (xpI h l3 2 18 17 (w32 (v2 + v4))).bind fun h5 =>
    X4_finish_L116 F l0 l2 l3 l4 s0 h5
  else
    X4_finish_L116 F l0 l2 l3 l4 s0 h
set_option maxRecDepth 100000 in
theorem SX4_finish_L93 {K : Ctx} {F : Nat} {r : Unit} {hf : HP}     (l0 : Nat) (l2 : Int) (l3 : Option Nat) (l4 : Int) (s0 : Int) (h : HP) (E : X4_finish_L93 F   l0 l2 l3 l4 s0 h = some (r, hf)) : Go K MX4_finish (QM K none hf) hf 93 [(0, vr (some l0)), (2, vi l2), (3, vr l3), (4, vi l4)] [vi s0] h := by
  unfold X4_finish_L93 at E
  refine go_istore (n := 95) (lv' := [(5, vi s0), (0, vr (some l0)), (2, vi l2), (3, vr l3), (4, vi l4)]) dX4_finish_93 rfl (Nat.le_of_ble_eq_true rfl) rfl ?_
  refine go_iload (j := 4) (n := 97) rfl dX4_finish_95 rfl ?_
  refine go_if_ne (tgt := 116) (n := 100) dX4_finish_97 rfl rfl (fun c1 => ?_) (fun c1 => ?_)
  · rw [if_neg c1] at E
    refine go_pick (lv' := [(0, vr (some l0)), (2, vi l2), (3, vr l3), (4, vi l4), (5, vi s0)]) [1, 2, 3, 4, 0] rfl ?_
    exact SX4_finish_L116     _ _ _ _ _  _ E
  · rw [if_pos c1] at E
    refine go_aload_n (j := 3) (n := 101) rfl rfl dX4_finish_100 rfl ?_
    refine go_dup (n := 102) rfl dX4_finish_101 rfl ?_
    replace E := Option.bind_eq_some_iff.mp E; obtain ⟨v2, ev2, E⟩ := E
    refine go_getI (n := 105) ev2 fl_RX4_140 rfl dX4_finish_102 rfl ?_
    refine go_aload_n (j := 1) (n := 106) rfl rfl dX4_finish_105 rfl ?_
    replace E := Option.bind_eq_some_iff.mp E; obtain ⟨v3, ev3, E⟩ := E
    refine go_getP (n := 109) ev3 fl_RX4_12 rfl dX4_finish_106 rfl ?_
    replace E := Option.bind_eq_some_iff.mp E; obtain ⟨v4, ev4, E⟩ := E
    refine go_getI (n := 112) ev4 fl_RX4_143 rfl dX4_finish_109 rfl ?_
    refine go_iadd (n := 113) dX4_finish_112 rfl ?_
    replace E := Option.bind_eq_some_iff.mp E; obtain ⟨h5, eh5, E⟩ := E
    refine go_putI (n := 116) eh5 fl_RX4_140 rfl dX4_finish_113 rfl ?_
    refine go_pick (lv' := [(0, vr (some l0)), (2, vi l2), (3, vr l3), (4, vi l4), (5, vi s0)]) [1, 2, 3, 4, 0] rfl ?_
    exact SX4_finish_L116     _ _ _ _ _  _ E
noncomputable def X4_finish_L48 (F : Nat)   (l0 : Nat) (l2 : Int) (l3 : Option Nat) (l4 : Int) (s0 : Int) (s1 : Int) (s2 : Int) (s3 : Int) (s4 : Option Nat) (h : HP) : Option (Unit × HP) :=
  (xrc h s4 7 10).bind fun a3 =>
  xb (X7_takePen F a3 s3 s2 s1 s0 h) fun v1 h2 =>
  if l4 = 0 then
    (xgP h2 (some l0) 4 12 0).bind fun v5 =>
    (xgP h2 l3 2 18 5).bind fun v6 =>
    (xgI h2 (some l0) 4 12 7).bind fun v7 =>
    (xgI h2 (some l0) 4 12 8).bind fun v8 =>
    (xrc h2 v5 1 8).bind fun a11 =>
    xb (X1_doText F a11 v6 v7 v8 h2) fun v9 h10 =>
    X4_finish_L93 F l0 l2 l3 l4 v9 h10
  else
    (xgP h2 (some l0) 4 12 0).bind fun v12 =>
    (xrc h2 l3 2 18).bind fun a15 =>
    xb (X2_writes F a15 h2) fun v13 h14 =>
    (xgI h14 l3 2 18 8).bind fun v16 =>
    (xrc h14 v12 1 8).bind fun a19 =>
    xb (X1_doShortly F a19 v13 v16 h14) fun v17 h18 =>
    X4_finish_L93 F l0 l2 l3 l4 v17 h18
set_option maxRecDepth 100000 in
theorem SX4_finish_L48 {K : Ctx} {F : Nat} {r : Unit} {hf : HP}     (l0 : Nat) (l2 : Int) (l3 : Option Nat) (l4 : Int) (s0 : Int) (s1 : Int) (s2 : Int) (s3 : Int) (s4 : Option Nat) (h : HP) (E : X4_finish_L48 F   l0 l2 l3 l4 s0 s1 s2 s3 s4 h = some (r, hf)) : Go K MX4_finish (QM K none hf) hf 48 [(0, vr (some l0)), (2, vi l2), (3, vr l3), (4, vi l4)] [vi s0, vi s1, vi s2, vi s3, vr s4] h := by
  unfold X4_finish_L48 at E
  replace E := Option.bind_eq_some_iff.mp E; obtain ⟨a3, ea3, E⟩ := E
  obtain ⟨fa3, ga3⟩ := xrc_some ea3
  replace E := xb_some E; obtain ⟨v1, h2, ev1, E⟩ := E
  refine go_callV (y := yX7_takePen) (n := 51) (st := []) (as := [vi s3, vi s2, vi s1, vi s0]) (stk9 := []) (OX7_takePen ev1) yw_X7_takePen ci_7 ga3 wml_RX4_61 wim_X7_takePen wse_X7_takePen (Nat.le_of_ble_eq_true rfl) rfl ⟨Nat.le_of_ble_eq_true rfl, Nat.le_of_ble_eq_true rfl⟩ (Nat.le_of_ble_eq_true rfl) dX4_finish_48 rfl (by cases fa3; rfl) rfl ?_
  refine go_iload (j := 3) (n := 53) rfl dX4_finish_51 rfl ?_
  refine go_if_eq (tgt := 74) (n := 56) dX4_finish_53 rfl rfl (fun c4 => ?_) (fun c4 => ?_)
  · rw [if_pos c4] at E
    refine go_aload_n (j := 0) (n := 75) rfl rfl dX4_finish_74 rfl ?_
    replace E := Option.bind_eq_some_iff.mp E; obtain ⟨v5, ev5, E⟩ := E
    refine go_getP (n := 78) ev5 fl_RX4_12 rfl dX4_finish_75 rfl ?_
    refine go_aload_n (j := 2) (n := 79) rfl rfl dX4_finish_78 rfl ?_
    replace E := Option.bind_eq_some_iff.mp E; obtain ⟨v6, ev6, E⟩ := E
    refine go_getP (n := 82) ev6 fl_RX4_126 rfl dX4_finish_79 rfl ?_
    refine go_aload_n (j := 0) (n := 83) rfl rfl dX4_finish_82 rfl ?_
    replace E := Option.bind_eq_some_iff.mp E; obtain ⟨v7, ev7, E⟩ := E
    refine go_getI (n := 86) ev7 fl_RX4_130 rfl dX4_finish_83 rfl ?_
    refine go_aload_n (j := 0) (n := 87) rfl rfl dX4_finish_86 rfl ?_
    replace E := Option.bind_eq_some_iff.mp E; obtain ⟨v8, ev8, E⟩ := E
    refine go_getI (n := 90) ev8 fl_RX4_133 rfl dX4_finish_87 rfl ?_
    replace E := Option.bind_eq_some_iff.mp E; obtain ⟨a11, ea11, E⟩ := E
    obtain ⟨fa11, ga11⟩ := xrc_some ea11
    replace E := xb_some E; obtain ⟨v9, h10, ev9, E⟩ := E
    refine go_callV (y := yX1_doText) (n := 93) (st := []) (as := [vr v6, vi v7, vi v8]) (stk9 := [vi v9]) (OX1_doText ev9) yw_X1_doText ci_1 ga11 wml_RX4_136 wim_X1_doText wse_X1_doText (Nat.le_of_ble_eq_true rfl) rfl ⟨Nat.le_of_ble_eq_true rfl, Nat.le_of_ble_eq_true rfl⟩ (Nat.le_of_ble_eq_true rfl) dX4_finish_90 rfl (by cases fa11; rfl) rfl ?_
    exact SX4_finish_L93     _ _ _ _ _ _ E
  · rw [if_neg c4] at E
    refine go_aload_n (j := 0) (n := 57) rfl rfl dX4_finish_56 rfl ?_
    replace E := Option.bind_eq_some_iff.mp E; obtain ⟨v12, ev12, E⟩ := E
    refine go_getP (n := 60) ev12 fl_RX4_12 rfl dX4_finish_57 rfl ?_
    refine go_aload_n (j := 2) (n := 61) rfl rfl dX4_finish_60 rfl ?_
    replace E := Option.bind_eq_some_iff.mp E; obtain ⟨a15, ea15, E⟩ := E
    obtain ⟨fa15, ga15⟩ := xrc_some ea15
    replace E := xb_some E; obtain ⟨v13, h14, ev13, E⟩ := E
    refine go_callV (y := yX2_writes) (n := 64) (st := [vr v12]) (as := []) (stk9 := [vl v13, vr v12]) (OX2_writes ev13) yw_X2_writes ci_2 ga15 wml_RX4_115 wim_X2_writes wse_X2_writes (Nat.le_of_ble_eq_true rfl) rfl ⟨Nat.le_of_ble_eq_true rfl, Nat.le_of_ble_eq_true rfl⟩ (Nat.le_of_ble_eq_true rfl) dX4_finish_61 rfl (by cases fa15; rfl) rfl ?_
    refine go_aload_n (j := 2) (n := 65) rfl rfl dX4_finish_64 rfl ?_
    replace E := Option.bind_eq_some_iff.mp E; obtain ⟨v16, ev16, E⟩ := E
    refine go_getI (n := 68) ev16 fl_RX4_119 rfl dX4_finish_65 rfl ?_
    replace E := Option.bind_eq_some_iff.mp E; obtain ⟨a19, ea19, E⟩ := E
    obtain ⟨fa19, ga19⟩ := xrc_some ea19
    replace E := xb_some E; obtain ⟨v17, h18, ev17, E⟩ := E
    refine go_callV (y := yX1_doShortly) (n := 71) (st := []) (as := [vl v13, vi v16]) (stk9 := [vi v17]) (OX1_doShortly ev17) yw_X1_doShortly ci_1 ga19 wml_RX4_122 wim_X1_doShortly wse_X1_doShortly (Nat.le_of_ble_eq_true rfl) rfl ⟨Nat.le_of_ble_eq_true rfl, Nat.le_of_ble_eq_true rfl⟩ (Nat.le_of_ble_eq_true rfl) dX4_finish_68 rfl (by cases fa19; rfl) rfl ?_
    refine go_goto (tgt := 93) dX4_finish_71 rfl ?_
    exact SX4_finish_L93     _ _ _ _ _ _ E
noncomputable def X4_finish_L26 (F : Nat)   (l0 : Nat) (l1 : Int) (l2 : Int) (l3 : Option Nat) (s0 : Int) (h : HP) : Option (Unit × HP) :=
  (xgP h (some l0) 4 12 1).bind fun v1 =>
  (xgI h (some l0) 4 12 6).bind fun v2 =>
  X4_finish_L48 F l0 l2 l3 s0 (if s0 = 0 then 1 else 0) l2 v2 l1 v1 h
set_option maxRecDepth 100000 in
theorem SX4_finish_L26 {K : Ctx} {F : Nat} {r : Unit} {hf : HP}     (l0 : Nat) (l1 : Int) (l2 : Int) (l3 : Option Nat) (s0 : Int) (h : HP) (E : X4_finish_L26 F   l0 l1 l2 l3 s0 h = some (r, hf)) : Go K MX4_finish (QM K none hf) hf 26 [(0, vr (some l0)), (1, vi l1), (2, vi l2), (3, vr l3)] [vi s0] h := by
  unfold X4_finish_L26 at E
  refine go_istore (n := 28) (lv' := [(4, vi s0), (0, vr (some l0)), (1, vi l1), (2, vi l2), (3, vr l3)]) dX4_finish_26 rfl (Nat.le_of_ble_eq_true rfl) rfl ?_
  refine go_aload_n (j := 1) (n := 29) rfl rfl dX4_finish_28 rfl ?_
  replace E := Option.bind_eq_some_iff.mp E; obtain ⟨v1, ev1, E⟩ := E
  refine go_getP (n := 32) ev1 fl_RX4_22 rfl dX4_finish_29 rfl ?_
  refine go_iload_n (j := 2) (n := 33) rfl rfl dX4_finish_32 rfl ?_
  refine go_aload_n (j := 1) (n := 34) rfl rfl dX4_finish_33 rfl ?_
  replace E := Option.bind_eq_some_iff.mp E; obtain ⟨v2, ev2, E⟩ := E
  refine go_getI (n := 37) ev2 fl_RX4_58 rfl dX4_finish_34 rfl ?_
  refine go_iload_n (j := 3) (n := 38) rfl rfl dX4_finish_37 rfl ?_
  refine go_iload (j := 0) (n := 40) rfl dX4_finish_38 rfl ?_
  refine go_if_ne (tgt := 47) (n := 43) dX4_finish_40 rfl rfl (fun c3 => ?_) (fun c3 => ?_)
  · simp only [if_neg c3] at E
    refine go_iconst (z := 0) (n := 48) ⟨by decide, by decide⟩ dX4_finish_47 rfl ?_
    refine go_pick (lv' := [(0, vr (some l0)), (2, vi l2), (3, vr l3), (4, vi s0)]) [1, 3, 4, 0] rfl ?_
    exact SX4_finish_L48     _ _ _ _ _ _ _ _ _ _ E
  · simp only [if_pos c3] at E
    refine go_iconst (z := 1) (n := 44) ⟨by decide, by decide⟩ dX4_finish_43 rfl ?_
    refine go_goto (tgt := 48) dX4_finish_44 rfl ?_
    refine go_pick (lv' := [(0, vr (some l0)), (2, vi l2), (3, vr l3), (4, vi s0)]) [1, 3, 4, 0] rfl ?_
    exact SX4_finish_L48     _ _ _ _ _ _ _ _ _ _ E
noncomputable def X4_finish_L25 (F : Nat)   (l0 : Nat) (l1 : Int) (l2 : Int) (l3 : Option Nat)  (h : HP) : Option (Unit × HP) :=
  X4_finish_L26 F l0 l1 l2 l3 0 h
set_option maxRecDepth 100000 in
theorem SX4_finish_L25 {K : Ctx} {F : Nat} {r : Unit} {hf : HP}     (l0 : Nat) (l1 : Int) (l2 : Int) (l3 : Option Nat)  (h : HP) (E : X4_finish_L25 F   l0 l1 l2 l3 h = some (r, hf)) : Go K MX4_finish (QM K none hf) hf 25 [(0, vr (some l0)), (1, vi l1), (2, vi l2), (3, vr l3)] [] h := by
  unfold X4_finish_L25 at E
  refine go_iconst (z := 0) (n := 26) ⟨by decide, by decide⟩ dX4_finish_25 rfl ?_
  exact SX4_finish_L26     _ _ _ _ _ _ E
noncomputable def X4_finish (F : Nat)   (l0 : Nat) (l1 : Int) (l2 : Int)  (h : HP) : Option (Unit × HP) :=
  (xgP h (some l0) 4 12 2).bind fun v1 =>
  (xrc h v1 3 7).bind fun a4 =>
  xb (X3_at F a4 l1 h) fun v2 h3 =>
  if l2 = 0 then
    X4_finish_L25 F l0 l1 l2 v2 h3
  else
    (xgI h3 v2 2 18 10).bind fun v6 =>
    if v6 = 1 then
      X4_finish_L26 F l0 l1 l2 v2 1 h3
    else
      X4_finish_L25 F l0 l1 l2 v2 h3
set_option maxRecDepth 100000 in
theorem SX4_finish {K : Ctx} {F : Nat} {r : Unit} {hf : HP}     (l0 : Nat) (l1 : Int) (l2 : Int)  (h : HP) (E : X4_finish F   l0 l1 l2 h = some (r, hf)) : Go K MX4_finish (QM K none hf) hf 0 [(0, vr (some l0)), (1, vi l1), (2, vi l2)] [] h := by
  unfold X4_finish at E
  refine go_aload_n (j := 0) (n := 1) rfl rfl dX4_finish_0 rfl ?_
  replace E := Option.bind_eq_some_iff.mp E; obtain ⟨v1, ev1, E⟩ := E
  refine go_getP (n := 4) ev1 fl_RX4_26 rfl dX4_finish_1 rfl ?_
  refine go_iload_n (j := 1) (n := 5) rfl rfl dX4_finish_4 rfl ?_
  replace E := Option.bind_eq_some_iff.mp E; obtain ⟨a4, ea4, E⟩ := E
  obtain ⟨fa4, ga4⟩ := xrc_some ea4
  replace E := xb_some E; obtain ⟨v2, h3, ev2, E⟩ := E
  refine go_callV (y := yX3_at) (n := 8) (st := []) (as := [vi l1]) (stk9 := [vr v2]) (OX3_at ev2) yw_X3_at ci_3 ga4 wml_RX4_74 wim_X3_at wse_X3_at (Nat.le_of_ble_eq_true rfl) rfl ⟨Nat.le_of_ble_eq_true rfl, Nat.le_of_ble_eq_true rfl⟩ (Nat.le_of_ble_eq_true rfl) dX4_finish_5 rfl (by cases fa4; rfl) rfl ?_
  refine go_astore_n (n := 9) (lv' := [(3, vr v2), (0, vr (some l0)), (1, vi l1), (2, vi l2)]) rfl dX4_finish_8 rfl (Nat.le_of_ble_eq_true rfl) rfl ?_
  refine go_iload_n (j := 3) (n := 10) rfl rfl dX4_finish_9 rfl ?_
  refine go_if_eq (tgt := 25) (n := 13) dX4_finish_10 rfl rfl (fun c5 => ?_) (fun c5 => ?_)
  · rw [if_pos c5] at E
    refine go_pick (lv' := [(0, vr (some l0)), (1, vi l1), (2, vi l2), (3, vr v2)]) [1, 2, 3, 0] rfl ?_
    exact SX4_finish_L25     _ _ _ _  _ E
  · rw [if_neg c5] at E
    refine go_aload_n (j := 0) (n := 14) rfl rfl dX4_finish_13 rfl ?_
    replace E := Option.bind_eq_some_iff.mp E; obtain ⟨v6, ev6, E⟩ := E
    refine go_getI (n := 17) ev6 fl_RX4_112 rfl dX4_finish_14 rfl ?_
    refine go_iconst (z := 1) (n := 18) ⟨by decide, by decide⟩ dX4_finish_17 rfl ?_
    refine go_icmp_ne (tgt := 25) (n := 21) dX4_finish_18 rfl rfl (fun c7 => ?_) (fun c7 => ?_)
    · rw [if_neg c7] at E
      refine go_pick (lv' := [(0, vr (some l0)), (1, vi l1), (2, vi l2), (3, vr v2)]) [1, 2, 3, 0] rfl ?_
      exact SX4_finish_L25     _ _ _ _  _ E
    · rw [if_pos c7] at E
      refine go_iconst (z := 1) (n := 22) ⟨by decide, by decide⟩ dX4_finish_21 rfl ?_
      refine go_goto (tgt := 26) dX4_finish_22 rfl ?_
      refine go_pick (lv' := [(0, vr (some l0)), (1, vi l1), (2, vi l2), (3, vr v2)]) [1, 2, 3, 0] rfl ?_
      exact SX4_finish_L26     _ _ _ _ _ _ E
theorem OX4_finish {F : Nat} {l0 : Nat} {l1 : Int} {l2 : Int} {h hf : HP} {r : Unit} (e : X4_finish F l0 l1 l2 h = some (r, hf)) : Ok MX4_finish [vr (some l0), vi l1, vi l2] none h hf := fun K _ _ _ => SX4_finish l0 l1 l2 h e
abbrev MX3_nextForClerks : MI := (RX3, cX3_nextForClerks, 2, (some .int), 3, none, "nextForClerks")
noncomputable def X3_nextForClerks_L35 (F : Nat)  (rc2 : Nat → Int → HP → Option (Int × HP)) (l0 : Nat) (l1 : Int)  (h : HP) : Option (Int × HP) :=
  rc2 l0 (w32 (l1 + 1)) h
set_option maxRecDepth 100000 in
theorem SX3_nextForClerks_L35 {K : Ctx} {F : Nat} {r : Int} {hf : HP}   (rc2 : Nat → Int → HP → Option (Int × HP)) (hrc2 : ∀ l0 l1 h, rc2 l0 l1 h = some (r, hf) → Go K MX3_nextForClerks (QM K (some (vi r)) hf) hf 2 [(0, vr (some l0)), (1, vi l1)] [] h) (l0 : Nat) (l1 : Int)  (h : HP) (E : X3_nextForClerks_L35 F  rc2 l0 l1 h = some (r, hf)) : Go K MX3_nextForClerks (QM K (some (vi r)) hf) hf 35 [(0, vr (some l0)), (1, vi l1)] [] h := by
  unfold X3_nextForClerks_L35 at E
  refine go_iinc (j := 1) (n := 38) (lv' := [(1, vi (w32 (l1 + 1))), (0, vr (some l0))]) rfl dX3_nextForClerks_35 rfl (Nat.le_of_ble_eq_true rfl) rfl ?_
  refine go_goto (tgt := 2) dX3_nextForClerks_38 rfl ?_
  refine go_pick (lv' := [(0, vr (some l0)), (1, vi (w32 (l1 + 1)))]) [1, 0] rfl ?_
  exact hrc2 _ _ _ E
noncomputable def X3_nextForClerks_L2 (F : Nat)   (k : Nat) : Nat → Int → HP → Option (Int × HP) :=
  Nat.rec (motive := fun _ => Nat → Int → HP → Option (Int × HP)) (fun _ _ _ => none) (fun _ rc2 l0 l1 h =>
    (xgI h (some l0) 3 7 5).bind fun v1 =>
    if v1 ≤ l1 then
      some ((-1), h)
    else
      (xrc h (some l0) 3 7).bind fun a5 =>
      xb (X3_at F a5 l1 h) fun v3 h4 =>
      (xgI h4 v3 2 18 9).bind fun v6 =>
      if v6 = 0 then
        (xrc h4 (some l0) 3 7).bind fun a10 =>
        xb (X3_at F a10 l1 h4) fun v8 h9 =>
        (xgI h9 v8 2 18 10).bind fun v11 =>
        if v11 = 2 then
          some (l1, h9)
        else
          X3_nextForClerks_L35 F rc2 l0 l1 h9
      else
        X3_nextForClerks_L35 F rc2 l0 l1 h4) k
theorem X3_nextForClerks_L2_s (F : Nat)   (k : Nat) (l0 : Nat) (l1 : Int)  (h : HP) : X3_nextForClerks_L2 F   (k + 1) l0 l1 h =
    (xgI h (some l0) 3 7 5).bind fun v1 =>
    if v1 ≤ l1 then
      some ((-1), h)
    else
      (xrc h (some l0) 3 7).bind fun a5 =>
      xb (X3_at F a5 l1 h) fun v3 h4 =>
      (xgI h4 v3 2 18 9).bind fun v6 =>
      if v6 = 0 then
        (xrc h4 (some l0) 3 7).bind fun a10 =>
        xb (X3_at F a10 l1 h4) fun v8 h9 =>
        (xgI h9 v8 2 18 10).bind fun v11 =>
        if v11 = 2 then
          some (l1, h9)
        else
          X3_nextForClerks_L35 F (X3_nextForClerks_L2 F k) l0 l1 h9
      else
        X3_nextForClerks_L35 F (X3_nextForClerks_L2 F k) l0 l1 h4 := rfl
set_option maxRecDepth 100000 in
theorem SX3_nextForClerks_L2 {K : Ctx} {F : Nat} {r : Int} {hf : HP}     : ∀ (k : Nat) (l0 : Nat) (l1 : Int)  (h : HP), X3_nextForClerks_L2 F   k l0 l1 h = some (r, hf) → Go K MX3_nextForClerks (QM K (some (vi r)) hf) hf 2 [(0, vr (some l0)), (1, vi l1)] [] h := by
  intro k
  induction k with
  | zero => intro l0 l1 h E; exact nomatch E
  | succ k hrc2 =>
    intro l0 l1 h E
    rw [X3_nextForClerks_L2_s] at E
    refine go_iload_n (j := 1) (n := 3) rfl rfl dX3_nextForClerks_2 rfl ?_
    refine go_aload_n (j := 0) (n := 4) rfl rfl dX3_nextForClerks_3 rfl ?_
    replace E := Option.bind_eq_some_iff.mp E; obtain ⟨v1, ev1, E⟩ := E
    refine go_getI (n := 7) ev1 fl_RX3_36 rfl dX3_nextForClerks_4 rfl ?_
    refine go_icmp_ge (tgt := 41) (n := 10) dX3_nextForClerks_7 rfl rfl (fun c2 => ?_) (fun c2 => ?_)
    · rw [if_pos c2] at E
      refine go_iconst (z := (-1)) (n := 42) ⟨by decide, by decide⟩ dX3_nextForClerks_41 rfl ?_
      cases E
      exact go_ireturn rfl dX3_nextForClerks_42
    · rw [if_neg c2] at E
      refine go_aload_n (j := 0) (n := 11) rfl rfl dX3_nextForClerks_10 rfl ?_
      refine go_iload_n (j := 1) (n := 12) rfl rfl dX3_nextForClerks_11 rfl ?_
      replace E := Option.bind_eq_some_iff.mp E; obtain ⟨a5, ea5, E⟩ := E
      obtain ⟨fa5, ga5⟩ := xrc_some ea5
      replace E := xb_some E; obtain ⟨v3, h4, ev3, E⟩ := E
      refine go_callV (y := yX3_at) (n := 15) (st := []) (as := [vi l1]) (stk9 := [vr v3]) (OX3_at ev3) yw_X3_at ci_3 ga5 wml_RX3_52 wim_X3_at wse_X3_at (Nat.le_of_ble_eq_true rfl) rfl ⟨Nat.le_of_ble_eq_true rfl, Nat.le_of_ble_eq_true rfl⟩ (Nat.le_of_ble_eq_true rfl) dX3_nextForClerks_12 rfl (by cases fa5; rfl) rfl ?_
      replace E := Option.bind_eq_some_iff.mp E; obtain ⟨v6, ev6, E⟩ := E
      refine go_getI (n := 18) ev6 fl_RX3_77 rfl dX3_nextForClerks_15 rfl ?_
      refine go_if_ne (tgt := 35) (n := 21) dX3_nextForClerks_18 rfl rfl (fun c7 => ?_) (fun c7 => ?_)
      · rw [if_neg c7] at E
        exact SX3_nextForClerks_L35   _ hrc2 _ _  _ E
      · rw [if_pos c7] at E
        refine go_aload_n (j := 0) (n := 22) rfl rfl dX3_nextForClerks_21 rfl ?_
        refine go_iload_n (j := 1) (n := 23) rfl rfl dX3_nextForClerks_22 rfl ?_
        replace E := Option.bind_eq_some_iff.mp E; obtain ⟨a10, ea10, E⟩ := E
        obtain ⟨fa10, ga10⟩ := xrc_some ea10
        replace E := xb_some E; obtain ⟨v8, h9, ev8, E⟩ := E
        refine go_callV (y := yX3_at) (n := 26) (st := []) (as := [vi l1]) (stk9 := [vr v8]) (OX3_at ev8) yw_X3_at ci_3 ga10 wml_RX3_52 wim_X3_at wse_X3_at (Nat.le_of_ble_eq_true rfl) rfl ⟨Nat.le_of_ble_eq_true rfl, Nat.le_of_ble_eq_true rfl⟩ (Nat.le_of_ble_eq_true rfl) dX3_nextForClerks_23 rfl (by cases fa10; rfl) rfl ?_
        replace E := Option.bind_eq_some_iff.mp E; obtain ⟨v11, ev11, E⟩ := E
        refine go_getI (n := 29) ev11 fl_RX3_80 rfl dX3_nextForClerks_26 rfl ?_
        refine go_iconst (z := 2) (n := 30) ⟨by decide, by decide⟩ dX3_nextForClerks_29 rfl ?_
        refine go_icmp_ne (tgt := 35) (n := 33) dX3_nextForClerks_30 rfl rfl (fun c12 => ?_) (fun c12 => ?_)
        · rw [if_neg c12] at E
          exact SX3_nextForClerks_L35   _ hrc2 _ _  _ E
        · rw [if_pos c12] at E
          refine go_iload_n (j := 1) (n := 34) rfl rfl dX3_nextForClerks_33 rfl ?_
          cases E
          exact go_ireturn rfl dX3_nextForClerks_34
noncomputable def X3_nextForClerks (F : Nat)   (l0 : Nat)  (h : HP) : Option (Int × HP) :=
  X3_nextForClerks_L2 F F l0 0 h
set_option maxRecDepth 100000 in
theorem SX3_nextForClerks {K : Ctx} {F : Nat} {r : Int} {hf : HP}     (l0 : Nat)  (h : HP) (E : X3_nextForClerks F   l0 h = some (r, hf)) : Go K MX3_nextForClerks (QM K (some (vi r)) hf) hf 0 [(0, vr (some l0))] [] h := by
  unfold X3_nextForClerks at E
  refine go_iconst (z := 0) (n := 1) ⟨by decide, by decide⟩ dX3_nextForClerks_0 rfl ?_
  refine go_istore_n (n := 2) (lv' := [(1, vi 0), (0, vr (some l0))]) rfl dX3_nextForClerks_1 rfl (Nat.le_of_ble_eq_true rfl) rfl ?_
  refine go_pick (lv' := [(0, vr (some l0)), (1, vi 0)]) [1, 0] rfl ?_
  exact SX3_nextForClerks_L2     F _ _ _ E
theorem OX3_nextForClerks {F : Nat} {l0 : Nat} {h hf : HP} {r : Int} (e : X3_nextForClerks F l0 h = some (r, hf)) : Ok MX3_nextForClerks [vr (some l0)] (some (vi r)) h hf := fun K _ _ _ => SX3_nextForClerks l0 h e
theorem yw_X3_nextForClerks : YW yX3_nextForClerks cX3_nextForClerks 2 (some .int) 0 := ⟨bw_of 1492 (by decide +kernel) rfl, bw_of 122 (by decide +kernel) rfl, ⟨by decide +kernel, by decide +kernel, by decide +kernel⟩, by decide +kernel⟩
theorem wml_RX4_103 : Cond.methodLink RX4 103 yX3_nextForClerks ∈ BW := bw_of 1489 (by decide +kernel) rfl
theorem wim_X3_nextForClerks : Cond.instanceMethod yX3_nextForClerks ∈ BW := bw_of 1490 (by decide +kernel) rfl
theorem wse_X3_nextForClerks : Cond.selects RX3 yX3_nextForClerks yX3_nextForClerks ∈ BW := bw_of 1491 (by decide +kernel) rfl
theorem fl_RX4_106 : FL RX4 106 2 18 13 false := ⟨RX2, TX2, ci_2, by decide, bw_of 340 (by decide +kernel) rfl, rfl, rfl⟩
theorem fl_RX4_109 : FL RX4 109 2 18 2 false := ⟨RX2, TX2, ci_2, by decide, bw_of 311 (by decide +kernel) rfl, rfl, rfl⟩
abbrev MX4_runClerks : MI := (RX4, cX4_runClerks, 3, (some .int), 4, none, "runClerks")
noncomputable def X4_runClerks (F : Nat)   (l0 : Nat)  (h : HP) : Option (Int × HP) :=
  (xgP h (some l0) 4 12 2).bind fun v1 =>
  (xrc h v1 3 7).bind fun a4 =>
  xb (X3_nextForClerks F a4 h) fun v2 h3 =>
  if v2 = (-1) then
    some ((-1), h3)
  else
    (xgP h3 (some l0) 4 12 2).bind fun v6 =>
    (xrc h3 v6 3 7).bind fun a9 =>
    xb (X3_at F a9 v2 h3) fun v7 h8 =>
    (xgI h8 v7 2 18 13).bind fun v10 =>
    (xpI h8 v7 2 18 13 (w32 (v10 + 1))).bind fun h11 =>
    (xgI h11 v7 2 18 13).bind fun v12 =>
    (xgI h11 v7 2 18 2).bind fun v13 =>
    some (if v12 < v13 then (-1) else v2, h11)
set_option maxRecDepth 100000 in
theorem SX4_runClerks {K : Ctx} {F : Nat} {r : Int} {hf : HP}     (l0 : Nat)  (h : HP) (E : X4_runClerks F   l0 h = some (r, hf)) : Go K MX4_runClerks (QM K (some (vi r)) hf) hf 0 [(0, vr (some l0))] [] h := by
  unfold X4_runClerks at E
  refine go_aload_n (j := 0) (n := 1) rfl rfl dX4_runClerks_0 rfl ?_
  replace E := Option.bind_eq_some_iff.mp E; obtain ⟨v1, ev1, E⟩ := E
  refine go_getP (n := 4) ev1 fl_RX4_26 rfl dX4_runClerks_1 rfl ?_
  replace E := Option.bind_eq_some_iff.mp E; obtain ⟨a4, ea4, E⟩ := E
  obtain ⟨fa4, ga4⟩ := xrc_some ea4
  replace E := xb_some E; obtain ⟨v2, h3, ev2, E⟩ := E
  refine go_callV (y := yX3_nextForClerks) (n := 7) (st := []) (as := []) (stk9 := [vi v2]) (OX3_nextForClerks ev2) yw_X3_nextForClerks ci_3 ga4 wml_RX4_103 wim_X3_nextForClerks wse_X3_nextForClerks (Nat.le_of_ble_eq_true rfl) rfl ⟨Nat.le_of_ble_eq_true rfl, Nat.le_of_ble_eq_true rfl⟩ (Nat.le_of_ble_eq_true rfl) dX4_runClerks_4 rfl (by cases fa4; rfl) rfl ?_
  refine go_istore_n (n := 8) (lv' := [(1, vi v2), (0, vr (some l0))]) rfl dX4_runClerks_7 rfl (Nat.le_of_ble_eq_true rfl) rfl ?_
  refine go_iload_n (j := 0) (n := 9) rfl rfl dX4_runClerks_8 rfl ?_
  refine go_iconst (z := (-1)) (n := 10) ⟨by decide, by decide⟩ dX4_runClerks_9 rfl ?_
  refine go_icmp_ne (tgt := 15) (n := 13) dX4_runClerks_10 rfl rfl (fun c5 => ?_) (fun c5 => ?_)
  · rw [if_neg c5] at E
    refine go_aload_n (j := 1) (n := 16) rfl rfl dX4_runClerks_15 rfl ?_
    replace E := Option.bind_eq_some_iff.mp E; obtain ⟨v6, ev6, E⟩ := E
    refine go_getP (n := 19) ev6 fl_RX4_26 rfl dX4_runClerks_16 rfl ?_
    refine go_iload_n (j := 0) (n := 20) rfl rfl dX4_runClerks_19 rfl ?_
    replace E := Option.bind_eq_some_iff.mp E; obtain ⟨a9, ea9, E⟩ := E
    obtain ⟨fa9, ga9⟩ := xrc_some ea9
    replace E := xb_some E; obtain ⟨v7, h8, ev7, E⟩ := E
    refine go_callV (y := yX3_at) (n := 23) (st := []) (as := [vi v2]) (stk9 := [vr v7]) (OX3_at ev7) yw_X3_at ci_3 ga9 wml_RX4_74 wim_X3_at wse_X3_at (Nat.le_of_ble_eq_true rfl) rfl ⟨Nat.le_of_ble_eq_true rfl, Nat.le_of_ble_eq_true rfl⟩ (Nat.le_of_ble_eq_true rfl) dX4_runClerks_20 rfl (by cases fa9; rfl) rfl ?_
    refine go_astore_n (n := 24) (lv' := [(2, vr v7), (1, vi v2), (0, vr (some l0))]) rfl dX4_runClerks_23 rfl (Nat.le_of_ble_eq_true rfl) rfl ?_
    refine go_aload_n (j := 0) (n := 25) rfl rfl dX4_runClerks_24 rfl ?_
    refine go_dup (n := 26) rfl dX4_runClerks_25 rfl ?_
    replace E := Option.bind_eq_some_iff.mp E; obtain ⟨v10, ev10, E⟩ := E
    refine go_getI (n := 29) ev10 fl_RX4_106 rfl dX4_runClerks_26 rfl ?_
    refine go_iconst (z := 1) (n := 30) ⟨by decide, by decide⟩ dX4_runClerks_29 rfl ?_
    refine go_iadd (n := 31) dX4_runClerks_30 rfl ?_
    replace E := Option.bind_eq_some_iff.mp E; obtain ⟨h11, eh11, E⟩ := E
    refine go_putI (n := 34) eh11 fl_RX4_106 rfl dX4_runClerks_31 rfl ?_
    refine go_aload_n (j := 0) (n := 35) rfl rfl dX4_runClerks_34 rfl ?_
    replace E := Option.bind_eq_some_iff.mp E; obtain ⟨v12, ev12, E⟩ := E
    refine go_getI (n := 38) ev12 fl_RX4_106 rfl dX4_runClerks_35 rfl ?_
    refine go_aload_n (j := 0) (n := 39) rfl rfl dX4_runClerks_38 rfl ?_
    replace E := Option.bind_eq_some_iff.mp E; obtain ⟨v13, ev13, E⟩ := E
    refine go_getI (n := 42) ev13 fl_RX4_109 rfl dX4_runClerks_39 rfl ?_
    refine go_icmp_lt (tgt := 49) (n := 45) dX4_runClerks_42 rfl rfl (fun c14 => ?_) (fun c14 => ?_)
    · simp only [if_pos c14] at E
      refine go_iconst (z := (-1)) (n := 50) ⟨by decide, by decide⟩ dX4_runClerks_49 rfl ?_
      cases E
      exact go_ireturn rfl dX4_runClerks_50
    · simp only [if_neg c14] at E
      refine go_iload_n (j := 1) (n := 46) rfl rfl dX4_runClerks_45 rfl ?_
      refine go_goto (tgt := 50) dX4_runClerks_46 rfl ?_
      cases E
      exact go_ireturn rfl dX4_runClerks_50
  · rw [if_pos c5] at E
    refine go_iconst (z := (-1)) (n := 14) ⟨by decide, by decide⟩ dX4_runClerks_13 rfl ?_
    cases E
    exact go_ireturn rfl dX4_runClerks_14
theorem OX4_runClerks {F : Nat} {l0 : Nat} {h hf : HP} {r : Int} (e : X4_runClerks F l0 h = some (r, hf)) : Ok MX4_runClerks [vr (some l0)] (some (vi r)) h hf := fun K _ _ _ => SX4_runClerks l0 h e
theorem yw_X4_runMachine : YW yX4_runMachine cX4_runMachine 3 (some .int) 0 := ⟨bw_of 1403 (by decide +kernel) rfl, bw_of 119 (by decide +kernel) rfl, ⟨by decide +kernel, by decide +kernel, by decide +kernel⟩, by decide +kernel⟩
theorem wml_RX4_83 : Cond.methodLink RX4 83 yX4_runMachine ∈ BW := bw_of 1400 (by decide +kernel) rfl
theorem wim_X4_runMachine : Cond.instanceMethod yX4_runMachine ∈ BW := bw_of 1402 (by decide +kernel) rfl
theorem wse_X4_runMachine : Cond.selects RX4 yX4_runMachine yX4_runMachine ∈ BW := bw_of 38 (by decide +kernel) rfl
theorem yw_X4_runClerks : YW yX4_runClerks cX4_runClerks 3 (some .int) 0 := ⟨bw_of 1488 (by decide +kernel) rfl, bw_of 119 (by decide +kernel) rfl, ⟨by decide +kernel, by decide +kernel, by decide +kernel⟩, by decide +kernel⟩
theorem wml_RX4_91 : Cond.methodLink RX4 91 yX4_runClerks ∈ BW := bw_of 1485 (by decide +kernel) rfl
theorem wim_X4_runClerks : Cond.instanceMethod yX4_runClerks ∈ BW := bw_of 1487 (by decide +kernel) rfl
theorem wse_X4_runClerks : Cond.selects RX4 yX4_runClerks yX4_runClerks ∈ BW := bw_of 49 (by decide +kernel) rfl
theorem yw_X4_finish : YW yX4_finish cX4_finish 7 none 2 := ⟨bw_of 1419 (by decide +kernel) rfl, bw_of 119 (by decide +kernel) rfl, ⟨by decide +kernel, by decide +kernel, by decide +kernel⟩, by decide +kernel⟩
theorem wml_RX4_87 : Cond.methodLink RX4 87 yX4_finish ∈ BW := bw_of 1416 (by decide +kernel) rfl
theorem wim_X4_finish : Cond.instanceMethod yX4_finish ∈ BW := bw_of 1418 (by decide +kernel) rfl
theorem wse_X4_finish : Cond.selects RX4 yX4_finish yX4_finish ∈ BW := bw_of 40 (by decide +kernel) rfl
abbrev MX4_oneMinute : MI := (RX4, cX4_oneMinute, 3, none, 8, none, "oneMinute")
noncomputable def X4_oneMinute_L48 (F : Nat)   (l0 : Nat)  (h : HP) : Option (Unit × HP) :=
  (xrc h (some l0) 4 12).bind fun a3 =>
  xb (X4_runClerks F a3 h) fun v1 h2 =>
  if v1 = (-1) then
    some ((), h2)
  else
    (xrc h2 (some l0) 4 12).bind fun a7 =>
    xb (X4_finish F a7 v1 0 h2) fun v5 h6 =>
    some ((), h6)
set_option maxRecDepth 100000 in
theorem SX4_oneMinute_L48 {K : Ctx} {F : Nat} {r : Unit} {hf : HP}     (l0 : Nat)  (h : HP) (E : X4_oneMinute_L48 F   l0 h = some (r, hf)) : Go K MX4_oneMinute (QM K none hf) hf 48 [(0, vr (some l0))] [] h := by
  unfold X4_oneMinute_L48 at E
  refine go_aload_n (j := 0) (n := 49) rfl rfl dX4_oneMinute_48 rfl ?_
  replace E := Option.bind_eq_some_iff.mp E; obtain ⟨a3, ea3, E⟩ := E
  obtain ⟨fa3, ga3⟩ := xrc_some ea3
  replace E := xb_some E; obtain ⟨v1, h2, ev1, E⟩ := E
  refine go_callV (y := yX4_runClerks) (n := 52) (st := []) (as := []) (stk9 := [vi v1]) (OX4_runClerks ev1) yw_X4_runClerks ci_4 ga3 wml_RX4_91 wim_X4_runClerks wse_X4_runClerks (Nat.le_of_ble_eq_true rfl) rfl ⟨Nat.le_of_ble_eq_true rfl, Nat.le_of_ble_eq_true rfl⟩ (Nat.le_of_ble_eq_true rfl) dX4_oneMinute_49 rfl (by cases fa3; rfl) rfl ?_
  refine go_istore_n (n := 53) (lv' := [(2, vi v1), (0, vr (some l0))]) rfl dX4_oneMinute_52 rfl (Nat.le_of_ble_eq_true rfl) rfl ?_
  refine go_iload_n (j := 0) (n := 54) rfl rfl dX4_oneMinute_53 rfl ?_
  refine go_iconst (z := (-1)) (n := 55) ⟨by decide, by decide⟩ dX4_oneMinute_54 rfl ?_
  refine go_icmp_eq (tgt := 64) (n := 58) dX4_oneMinute_55 rfl rfl (fun c4 => ?_) (fun c4 => ?_)
  · rw [if_pos c4] at E
    cases E
    exact go_return rfl dX4_oneMinute_64
  · rw [if_neg c4] at E
    refine go_aload_n (j := 1) (n := 59) rfl rfl dX4_oneMinute_58 rfl ?_
    refine go_iload_n (j := 0) (n := 60) rfl rfl dX4_oneMinute_59 rfl ?_
    refine go_iconst (z := 0) (n := 61) ⟨by decide, by decide⟩ dX4_oneMinute_60 rfl ?_
    replace E := Option.bind_eq_some_iff.mp E; obtain ⟨a7, ea7, E⟩ := E
    obtain ⟨fa7, ga7⟩ := xrc_some ea7
    replace E := xb_some E; obtain ⟨v5, h6, ev5, E⟩ := E
    refine go_callV (y := yX4_finish) (n := 64) (st := []) (as := [vi v1, vi 0]) (stk9 := []) (OX4_finish ev5) yw_X4_finish ci_4 ga7 wml_RX4_87 wim_X4_finish wse_X4_finish (Nat.le_of_ble_eq_true rfl) rfl ⟨Nat.le_of_ble_eq_true rfl, Nat.le_of_ble_eq_true rfl⟩ (Nat.le_of_ble_eq_true rfl) dX4_oneMinute_61 rfl (by cases fa7; rfl) rfl ?_
    cases E
    exact go_return rfl dX4_oneMinute_64
noncomputable def X4_oneMinute_L37 (F : Nat)   (l0 : Nat) (l1 : Int)  (h : HP) : Option (Unit × HP) :=
  if l1 = (-1) then
    X4_oneMinute_L48 F l0 h
  else
    (xrc h (some l0) 4 12).bind fun a4 =>
    xb (X4_finish F a4 l1 1 h) fun v2 h3 =>
    X4_oneMinute_L48 F l0 h3
set_option maxRecDepth 100000 in
theorem SX4_oneMinute_L37 {K : Ctx} {F : Nat} {r : Unit} {hf : HP}     (l0 : Nat) (l1 : Int)  (h : HP) (E : X4_oneMinute_L37 F   l0 l1 h = some (r, hf)) : Go K MX4_oneMinute (QM K none hf) hf 37 [(0, vr (some l0)), (1, vi l1)] [] h := by
  unfold X4_oneMinute_L37 at E
  refine go_iload_n (j := 1) (n := 38) rfl rfl dX4_oneMinute_37 rfl ?_
  refine go_iconst (z := (-1)) (n := 39) ⟨by decide, by decide⟩ dX4_oneMinute_38 rfl ?_
  refine go_icmp_eq (tgt := 48) (n := 42) dX4_oneMinute_39 rfl rfl (fun c1 => ?_) (fun c1 => ?_)
  · rw [if_pos c1] at E
    refine go_pick (lv' := [(0, vr (some l0))]) [0] rfl ?_
    exact SX4_oneMinute_L48     _  _ E
  · rw [if_neg c1] at E
    refine go_aload_n (j := 0) (n := 43) rfl rfl dX4_oneMinute_42 rfl ?_
    refine go_iload_n (j := 1) (n := 44) rfl rfl dX4_oneMinute_43 rfl ?_
    refine go_iconst (z := 1) (n := 45) ⟨by decide, by decide⟩ dX4_oneMinute_44 rfl ?_
    replace E := Option.bind_eq_some_iff.mp E; obtain ⟨a4, ea4, E⟩ := E
    obtain ⟨fa4, ga4⟩ := xrc_some ea4
    replace E := xb_some E; obtain ⟨v2, h3, ev2, E⟩ := E
    refine go_callV (y := yX4_finish) (n := 48) (st := []) (as := [vi l1, vi 1]) (stk9 := []) (OX4_finish ev2) yw_X4_finish ci_4 ga4 wml_RX4_87 wim_X4_finish wse_X4_finish (Nat.le_of_ble_eq_true rfl) rfl ⟨Nat.le_of_ble_eq_true rfl, Nat.le_of_ble_eq_true rfl⟩ (Nat.le_of_ble_eq_true rfl) dX4_oneMinute_45 rfl (by cases fa4; rfl) rfl ?_
    refine go_pick (lv' := [(0, vr (some l0))]) [0] rfl ?_
    exact SX4_oneMinute_L48     _  _ E
noncomputable def X4_oneMinute (F : Nat)   (l0 : Nat)  (h : HP) : Option (Unit × HP) :=
  (xgI h (some l0) 4 12 6).bind fun v1 =>
  (xpI h (some l0) 4 12 6 (w32 (v1 + 1))).bind fun h2 =>
  (xgI h2 (some l0) 4 12 9).bind fun v3 =>
  if v3 ≤ 0 then
    (xrc h2 (some l0) 4 12).bind fun a7 =>
    xb (X4_runMachine F a7 h2) fun v5 h6 =>
    X4_oneMinute_L37 F l0 v5 h6
  else
    (xgI h2 (some l0) 4 12 9).bind fun v8 =>
    (xpI h2 (some l0) 4 12 9 (w32 (v8 - 1))).bind fun h9 =>
    X4_oneMinute_L37 F l0 (-1) h9
set_option maxRecDepth 100000 in
theorem SX4_oneMinute {K : Ctx} {F : Nat} {r : Unit} {hf : HP}     (l0 : Nat)  (h : HP) (E : X4_oneMinute F   l0 h = some (r, hf)) : Go K MX4_oneMinute (QM K none hf) hf 0 [(0, vr (some l0))] [] h := by
  unfold X4_oneMinute at E
  refine go_aload_n (j := 0) (n := 1) rfl rfl dX4_oneMinute_0 rfl ?_
  refine go_dup (n := 2) rfl dX4_oneMinute_1 rfl ?_
  replace E := Option.bind_eq_some_iff.mp E; obtain ⟨v1, ev1, E⟩ := E
  refine go_getI (n := 5) ev1 fl_RX4_58 rfl dX4_oneMinute_2 rfl ?_
  refine go_iconst (z := 1) (n := 6) ⟨by decide, by decide⟩ dX4_oneMinute_5 rfl ?_
  refine go_iadd (n := 7) dX4_oneMinute_6 rfl ?_
  replace E := Option.bind_eq_some_iff.mp E; obtain ⟨h2, eh2, E⟩ := E
  refine go_putI (n := 10) eh2 fl_RX4_58 rfl dX4_oneMinute_7 rfl ?_
  refine go_iconst (z := (-1)) (n := 11) ⟨by decide, by decide⟩ dX4_oneMinute_10 rfl ?_
  refine go_istore_n (n := 12) (lv' := [(1, vi (-1)), (0, vr (some l0))]) rfl dX4_oneMinute_11 rfl (Nat.le_of_ble_eq_true rfl) rfl ?_
  refine go_aload_n (j := 1) (n := 13) rfl rfl dX4_oneMinute_12 rfl ?_
  replace E := Option.bind_eq_some_iff.mp E; obtain ⟨v3, ev3, E⟩ := E
  refine go_getI (n := 16) ev3 fl_RX4_71 rfl dX4_oneMinute_13 rfl ?_
  refine go_if_le (tgt := 32) (n := 19) dX4_oneMinute_16 rfl rfl (fun c4 => ?_) (fun c4 => ?_)
  · rw [if_pos c4] at E
    refine go_aload_n (j := 1) (n := 33) rfl rfl dX4_oneMinute_32 rfl ?_
    replace E := Option.bind_eq_some_iff.mp E; obtain ⟨a7, ea7, E⟩ := E
    obtain ⟨fa7, ga7⟩ := xrc_some ea7
    replace E := xb_some E; obtain ⟨v5, h6, ev5, E⟩ := E
    refine go_callV (y := yX4_runMachine) (n := 36) (st := []) (as := []) (stk9 := [vi v5]) (OX4_runMachine ev5) yw_X4_runMachine ci_4 ga7 wml_RX4_83 wim_X4_runMachine wse_X4_runMachine (Nat.le_of_ble_eq_true rfl) rfl ⟨Nat.le_of_ble_eq_true rfl, Nat.le_of_ble_eq_true rfl⟩ (Nat.le_of_ble_eq_true rfl) dX4_oneMinute_33 rfl (by cases fa7; rfl) rfl ?_
    refine go_istore_n (n := 37) (lv' := [(1, vi v5), (0, vr (some l0))]) rfl dX4_oneMinute_36 rfl (Nat.le_of_ble_eq_true rfl) rfl ?_
    refine go_pick (lv' := [(0, vr (some l0)), (1, vi v5)]) [1, 0] rfl ?_
    exact SX4_oneMinute_L37     _ _  _ E
  · rw [if_neg c4] at E
    refine go_aload_n (j := 1) (n := 20) rfl rfl dX4_oneMinute_19 rfl ?_
    refine go_dup (n := 21) rfl dX4_oneMinute_20 rfl ?_
    replace E := Option.bind_eq_some_iff.mp E; obtain ⟨v8, ev8, E⟩ := E
    refine go_getI (n := 24) ev8 fl_RX4_71 rfl dX4_oneMinute_21 rfl ?_
    refine go_iconst (z := 1) (n := 25) ⟨by decide, by decide⟩ dX4_oneMinute_24 rfl ?_
    refine go_isub (n := 26) dX4_oneMinute_25 rfl ?_
    replace E := Option.bind_eq_some_iff.mp E; obtain ⟨h9, eh9, E⟩ := E
    refine go_putI (n := 29) eh9 fl_RX4_71 rfl dX4_oneMinute_26 rfl ?_
    refine go_goto (tgt := 37) dX4_oneMinute_29 rfl ?_
    refine go_pick (lv' := [(0, vr (some l0)), (1, vi (-1))]) [1, 0] rfl ?_
    exact SX4_oneMinute_L37     _ _  _ E
theorem OX4_oneMinute {F : Nat} {l0 : Nat} {h hf : HP} {r : Unit} (e : X4_oneMinute F l0 h = some (r, hf)) : Ok MX4_oneMinute [vr (some l0)] none h hf := fun K _ _ _ => SX4_oneMinute l0 h e
theorem yw_X4_oneMinute : YW yX4_oneMinute cX4_oneMinute 3 none 0 := ⟨bw_of 1399 (by decide +kernel) rfl, bw_of 119 (by decide +kernel) rfl, ⟨by decide +kernel, by decide +kernel, by decide +kernel⟩, by decide +kernel⟩
theorem wml_RX11_181 : Cond.methodLink RX11 181 yX4_oneMinute ∈ BW := bw_of 1396 (by decide +kernel) rfl
theorem wim_X4_oneMinute : Cond.instanceMethod yX4_oneMinute ∈ BW := bw_of 1397 (by decide +kernel) rfl
theorem wse_X4_oneMinute : Cond.selects RX4 yX4_oneMinute yX4_oneMinute ∈ BW := bw_of 1398 (by decide +kernel) rfl
abbrev MX11_minutes : MI := (RX11, cX11_minutes, 3, (some .int), 13, some [], "minutes")
noncomputable def X11_minutes_L40 (F : Nat)   (l0 : Nat)  (h : HP) : Option ((String ⊕ Int) × HP) :=
  (xgP h (some l0) 11 6 2).bind fun v1 =>
  (xgI h v1 4 12 6).bind fun v2 =>
  some (.inr v2, h)
set_option maxRecDepth 100000 in
theorem SX11_minutes_L40 {K : Ctx} {F : Nat} {r : String ⊕ Int} {hf : HP}     (l0 : Nat)  (h : HP) (E : X11_minutes_L40 F   l0 h = some (r, hf)) : Go K MX11_minutes (QMX K (rI r) hf) hf 40 [(0, vr (some l0))] [] h := by
  unfold X11_minutes_L40 at E
  refine go_aload_n (j := 0) (n := 41) rfl rfl dX11_minutes_40 rfl ?_
  replace E := Option.bind_eq_some_iff.mp E; obtain ⟨v1, ev1, E⟩ := E
  refine go_getP (n := 44) ev1 fl_RX11_23 rfl dX11_minutes_41 rfl ?_
  replace E := Option.bind_eq_some_iff.mp E; obtain ⟨v2, ev2, E⟩ := E
  refine go_getI (n := 47) ev2 fl_RX11_178 rfl dX11_minutes_44 rfl ?_
  cases E
  exact go_ret (go_ireturn rfl dX11_minutes_47)
noncomputable def X11_minutes_L9 (F : Nat)   (k : Nat) : Nat → Int → Int → HP → Option ((String ⊕ Int) × HP) :=
  Nat.rec (motive := fun _ => Nat → Int → Int → HP → Option ((String ⊕ Int) × HP)) (fun _ _ _ _ => none) (fun _ rc9 l0 l1 l2 h =>
    if l1 ≤ l2 then
      X11_minutes_L40 F l0 h
    else
      (xgP h (some l0) 11 6 2).bind fun v2 =>
      (xgI h v2 4 12 6).bind fun v3 =>
      if 480 ≤ v3 then
        X11_minutes_L40 F l0 h
      else
        (xgP h (some l0) 11 6 2).bind fun v5 =>
        (xrc h v5 4 12).bind fun a8 =>
        xb (X4_oneMinute F a8 h) fun v6 h7 =>
        rc9 l0 l1 (w32 (l2 + 1)) h7) k
theorem X11_minutes_L9_s (F : Nat)   (k : Nat) (l0 : Nat) (l1 : Int) (l2 : Int)  (h : HP) : X11_minutes_L9 F   (k + 1) l0 l1 l2 h =
    if l1 ≤ l2 then
      X11_minutes_L40 F l0 h
    else
      (xgP h (some l0) 11 6 2).bind fun v2 =>
      (xgI h v2 4 12 6).bind fun v3 =>
      if 480 ≤ v3 then
        X11_minutes_L40 F l0 h
      else
        (xgP h (some l0) 11 6 2).bind fun v5 =>
        (xrc h v5 4 12).bind fun a8 =>
        xb (X4_oneMinute F a8 h) fun v6 h7 =>
        (X11_minutes_L9 F k) l0 l1 (w32 (l2 + 1)) h7 := rfl
set_option maxRecDepth 100000 in
theorem SX11_minutes_L9 {K : Ctx} {F : Nat} {r : String ⊕ Int} {hf : HP}     : ∀ (k : Nat) (l0 : Nat) (l1 : Int) (l2 : Int)  (h : HP), X11_minutes_L9 F   k l0 l1 l2 h = some (r, hf) → Go K MX11_minutes (QMX K (rI r) hf) hf 9 [(0, vr (some l0)), (1, vi l1), (2, vi l2)] [] h := by
  intro k
  induction k with
  | zero => intro l0 l1 l2 h E; exact nomatch E
  | succ k hrc9 =>
    intro l0 l1 l2 h E
    rw [X11_minutes_L9_s] at E
    refine go_iload_n (j := 2) (n := 10) rfl rfl dX11_minutes_9 rfl ?_
    refine go_iload_n (j := 1) (n := 11) rfl rfl dX11_minutes_10 rfl ?_
    refine go_icmp_ge (tgt := 40) (n := 14) dX11_minutes_11 rfl rfl (fun c1 => ?_) (fun c1 => ?_)
    · rw [if_pos c1] at E
      refine go_pick (lv' := [(0, vr (some l0))]) [0] rfl ?_
      exact SX11_minutes_L40     _  _ E
    · rw [if_neg c1] at E
      refine go_aload_n (j := 0) (n := 15) rfl rfl dX11_minutes_14 rfl ?_
      replace E := Option.bind_eq_some_iff.mp E; obtain ⟨v2, ev2, E⟩ := E
      refine go_getP (n := 18) ev2 fl_RX11_23 rfl dX11_minutes_15 rfl ?_
      replace E := Option.bind_eq_some_iff.mp E; obtain ⟨v3, ev3, E⟩ := E
      refine go_getI (n := 21) ev3 fl_RX11_178 rfl dX11_minutes_18 rfl ?_
      refine go_sipush (z := 480) (n := 24) ⟨by decide, by decide⟩ dX11_minutes_21 rfl ?_
      refine go_icmp_ge (tgt := 40) (n := 27) dX11_minutes_24 rfl rfl (fun c4 => ?_) (fun c4 => ?_)
      · rw [if_pos c4] at E
        refine go_pick (lv' := [(0, vr (some l0))]) [0] rfl ?_
        exact SX11_minutes_L40     _  _ E
      · rw [if_neg c4] at E
        refine go_aload_n (j := 0) (n := 28) rfl rfl dX11_minutes_27 rfl ?_
        replace E := Option.bind_eq_some_iff.mp E; obtain ⟨v5, ev5, E⟩ := E
        refine go_getP (n := 31) ev5 fl_RX11_23 rfl dX11_minutes_28 rfl ?_
        replace E := Option.bind_eq_some_iff.mp E; obtain ⟨a8, ea8, E⟩ := E
        obtain ⟨fa8, ga8⟩ := xrc_some ea8
        replace E := xb_some E; obtain ⟨v6, h7, ev6, E⟩ := E
        refine go_callV (y := yX4_oneMinute) (n := 34) (st := []) (as := []) (stk9 := []) (OX4_oneMinute ev6) yw_X4_oneMinute ci_4 ga8 wml_RX11_181 wim_X4_oneMinute wse_X4_oneMinute (Nat.le_of_ble_eq_true rfl) rfl ⟨Nat.le_of_ble_eq_true rfl, Nat.le_of_ble_eq_true rfl⟩ (Nat.le_of_ble_eq_true rfl) dX11_minutes_31 rfl (by cases fa8; rfl) rfl ?_
        refine go_iinc (j := 2) (n := 37) (lv' := [(2, vi (w32 (l2 + 1))), (0, vr (some l0)), (1, vi l1)]) rfl dX11_minutes_34 rfl (Nat.le_of_ble_eq_true rfl) rfl ?_
        refine go_goto (tgt := 9) dX11_minutes_37 rfl ?_
        refine go_pick (lv' := [(0, vr (some l0)), (1, vi l1), (2, vi (w32 (l2 + 1)))]) [1, 2, 0] rfl ?_
        exact hrc9 _ _ _ _ E
noncomputable def X11_minutes (F : Nat)   (l0 : Nat) (l1 : Int)  (h : HP) : Option ((String ⊕ Int) × HP) :=
  xth (X11_needNumber F l1 0 120 h) fun v1 h2 =>
  X11_minutes_L9 F F l0 l1 0 h2
set_option maxRecDepth 100000 in
theorem SX11_minutes {K : Ctx} {F : Nat} {r : String ⊕ Int} {hf : HP}     (l0 : Nat) (l1 : Int)  (h : HP) (E : X11_minutes F   l0 l1 h = some (r, hf)) : Go K MX11_minutes (QMX K (rI r) hf) hf 0 [(0, vr (some l0)), (1, vi l1)] [] h := by
  unfold X11_minutes at E
  refine go_iload_n (j := 1) (n := 1) rfl rfl dX11_minutes_0 rfl ?_
  refine go_iconst (z := 0) (n := 2) ⟨by decide, by decide⟩ dX11_minutes_1 rfl ?_
  refine go_bipush (z := 120) (n := 4) ⟨by decide, by decide⟩ dX11_minutes_2 rfl ?_
  replace E := xth_some E; rcases E with ⟨x3, ev1, rfl⟩ | ⟨v1, h2, ev1, E⟩
  · exact go_callXSt (y := yX11_needNumber) (as := [vi l1, vi 0, vi 120]) (st := []) (OXX11_needNumber ev1) yw_X11_needNumber wml_RX11_44 wst_X11_needNumber (Nat.le_of_ble_eq_true rfl) rfl ⟨Nat.le_of_ble_eq_true rfl, Nat.le_of_ble_eq_true rfl⟩ (Nat.le_of_ble_eq_true rfl) dX11_minutes_4 rfl rfl
  refine go_callXSr (y := yX11_needNumber) (n := 7) (st := []) (as := [vi l1, vi 0, vi 120]) (stk9 := []) (OXX11_needNumber ev1) yw_X11_needNumber wml_RX11_44 wst_X11_needNumber (Nat.le_of_ble_eq_true rfl) rfl ⟨Nat.le_of_ble_eq_true rfl, Nat.le_of_ble_eq_true rfl⟩ (Nat.le_of_ble_eq_true rfl) dX11_minutes_4 rfl rfl rfl ?_
  refine go_iconst (z := 0) (n := 8) ⟨by decide, by decide⟩ dX11_minutes_7 rfl ?_
  refine go_istore_n (n := 9) (lv' := [(2, vi 0), (0, vr (some l0)), (1, vi l1)]) rfl dX11_minutes_8 rfl (Nat.le_of_ble_eq_true rfl) rfl ?_
  refine go_pick (lv' := [(0, vr (some l0)), (1, vi l1), (2, vi 0)]) [1, 2, 0] rfl ?_
  exact SX11_minutes_L9     F _ _ _ _ E
theorem OXX11_minutes {F : Nat} {l0 : Nat} {l1 : Int} {h hf : HP} {r : String ⊕ Int} (e : X11_minutes F l0 l1 h = some (r, hf)) : OkX MX11_minutes [vr (some l0), vi l1] (rI r) h hf := fun K _ _ _ => SX11_minutes l0 l1 h e
abbrev MX7_putOld : MI := (RX7, cX7_putOld, 3, none, 2, none, "putOld")
noncomputable def X7_putOld (F : Nat)   (l0 : Nat) (l1 : Int) (l2 : Int)  (h : HP) : Option (Unit × HP) :=
  if l1 < 0 then
    some ((), h)
  else
    if 64 ≤ l1 then
      some ((), h)
    else
      (xgP h (some l0) 7 10 1).bind fun v3 =>
      (xsI h v3 l1 l2).bind fun h4 =>
      some ((), h4)
set_option maxRecDepth 100000 in
theorem SX7_putOld {K : Ctx} {F : Nat} {r : Unit} {hf : HP}     (l0 : Nat) (l1 : Int) (l2 : Int)  (h : HP) (E : X7_putOld F   l0 l1 l2 h = some (r, hf)) : Go K MX7_putOld (QM K none hf) hf 0 [(0, vr (some l0)), (1, vi l1), (2, vi l2)] [] h := by
  unfold X7_putOld at E
  refine go_iload_n (j := 1) (n := 1) rfl rfl dX7_putOld_0 rfl ?_
  refine go_if_lt (tgt := 17) (n := 4) dX7_putOld_1 rfl rfl (fun c1 => ?_) (fun c1 => ?_)
  · rw [if_pos c1] at E
    cases E
    exact go_return rfl dX7_putOld_17
  · rw [if_neg c1] at E
    refine go_iload_n (j := 1) (n := 5) rfl rfl dX7_putOld_4 rfl ?_
    refine go_bipush (z := 64) (n := 7) ⟨by decide, by decide⟩ dX7_putOld_5 rfl ?_
    refine go_icmp_ge (tgt := 17) (n := 10) dX7_putOld_7 rfl rfl (fun c2 => ?_) (fun c2 => ?_)
    · rw [if_pos c2] at E
      cases E
      exact go_return rfl dX7_putOld_17
    · rw [if_neg c2] at E
      refine go_aload_n (j := 0) (n := 11) rfl rfl dX7_putOld_10 rfl ?_
      replace E := Option.bind_eq_some_iff.mp E; obtain ⟨v3, ev3, E⟩ := E
      refine go_getP (n := 14) ev3 fl_RX7_15 rfl dX7_putOld_11 rfl ?_
      refine go_iload_n (j := 1) (n := 15) rfl rfl dX7_putOld_14 rfl ?_
      refine go_iload_n (j := 2) (n := 16) rfl rfl dX7_putOld_15 rfl ?_
      replace E := Option.bind_eq_some_iff.mp E; obtain ⟨h4, eh4, E⟩ := E
      refine go_iastore (n := 17) eh4 dX7_putOld_16 rfl ?_
      cases E
      exact go_return rfl dX7_putOld_17
theorem OX7_putOld {F : Nat} {l0 : Nat} {l1 : Int} {l2 : Int} {h hf : HP} {r : Unit} (e : X7_putOld F l0 l1 l2 h = some (r, hf)) : Ok MX7_putOld [vr (some l0), vi l1, vi l2] none h hf := fun K _ _ _ => SX7_putOld l0 l1 l2 h e
theorem wk_RX11_58 : Cond.constant RX11 58 (Int32.ofInt (-999999999)) ∈ BW := bw_of 982 (by decide +kernel) rfl
theorem wk_RX11_59 : Cond.constant RX11 59 (Int32.ofInt 999999999) ∈ BW := bw_of 983 (by decide +kernel) rfl
theorem yw_X7_putOld : YW yX7_putOld cX7_putOld 3 none 2 := ⟨bw_of 987 (by decide +kernel) rfl, bw_of 121 (by decide +kernel) rfl, ⟨by decide +kernel, by decide +kernel, by decide +kernel⟩, by decide +kernel⟩
theorem wml_RX11_64 : Cond.methodLink RX11 64 yX7_putOld ∈ BW := bw_of 984 (by decide +kernel) rfl
theorem wim_X7_putOld : Cond.instanceMethod yX7_putOld ∈ BW := bw_of 985 (by decide +kernel) rfl
theorem wse_X7_putOld : Cond.selects RX7 yX7_putOld yX7_putOld ∈ BW := bw_of 986 (by decide +kernel) rfl
abbrev MX11_old : MI := (RX11, cX11_old, 3, none, 13, some [], "old")
noncomputable def X11_old (F : Nat)   (l0 : Nat) (l1 : Int) (l2 : Int)  (h : HP) : Option ((String ⊕ Unit) × HP) :=
  xth (X11_needPlace F l1 64 h) fun v1 h2 =>
  xth (X11_needNumber F l2 (-999999999) 999999999 h2) fun v3 h4 =>
  (xgP h4 (some l0) 11 6 2).bind fun v5 =>
  (xgP h4 v5 4 12 1).bind fun v6 =>
  (xrc h4 v6 7 10).bind fun a9 =>
  xb (X7_putOld F a9 l1 l2 h4) fun v7 h8 =>
  some (.inr (), h8)
set_option maxRecDepth 100000 in
theorem SX11_old {K : Ctx} {F : Nat} {r : String ⊕ Unit} {hf : HP}     (l0 : Nat) (l1 : Int) (l2 : Int)  (h : HP) (E : X11_old F   l0 l1 l2 h = some (r, hf)) : Go K MX11_old (QMX K (rU r) hf) hf 0 [(0, vr (some l0)), (1, vi l1), (2, vi l2)] [] h := by
  unfold X11_old at E
  refine go_iload_n (j := 1) (n := 1) rfl rfl dX11_old_0 rfl ?_
  refine go_bipush (z := 64) (n := 3) ⟨by decide, by decide⟩ dX11_old_1 rfl ?_
  replace E := xth_some E; rcases E with ⟨x11, ev1, rfl⟩ | ⟨v1, h2, ev1, E⟩
  · exact go_callXSt (y := yX11_needPlace) (as := [vi l1, vi 64]) (st := []) (OXX11_needPlace ev1) yw_X11_needPlace wml_RX11_54 wst_X11_needPlace (Nat.le_of_ble_eq_true rfl) rfl ⟨Nat.le_of_ble_eq_true rfl, Nat.le_of_ble_eq_true rfl⟩ (Nat.le_of_ble_eq_true rfl) dX11_old_3 rfl rfl
  refine go_callXSr (y := yX11_needPlace) (n := 6) (st := []) (as := [vi l1, vi 64]) (stk9 := []) (OXX11_needPlace ev1) yw_X11_needPlace wml_RX11_54 wst_X11_needPlace (Nat.le_of_ble_eq_true rfl) rfl ⟨Nat.le_of_ble_eq_true rfl, Nat.le_of_ble_eq_true rfl⟩ (Nat.le_of_ble_eq_true rfl) dX11_old_3 rfl rfl rfl ?_
  refine go_iload_n (j := 2) (n := 7) rfl rfl dX11_old_6 rfl ?_
  refine go_ldc (z := (-999999999)) (n := 9) ⟨by decide, by decide⟩ wk_RX11_58 dX11_old_7 rfl ?_
  refine go_ldc (z := 999999999) (n := 11) ⟨by decide, by decide⟩ wk_RX11_59 dX11_old_9 rfl ?_
  replace E := xth_some E; rcases E with ⟨x10, ev3, rfl⟩ | ⟨v3, h4, ev3, E⟩
  · exact go_callXSt (y := yX11_needNumber) (as := [vi l2, vi (-999999999), vi 999999999]) (st := []) (OXX11_needNumber ev3) yw_X11_needNumber wml_RX11_44 wst_X11_needNumber (Nat.le_of_ble_eq_true rfl) rfl ⟨Nat.le_of_ble_eq_true rfl, Nat.le_of_ble_eq_true rfl⟩ (Nat.le_of_ble_eq_true rfl) dX11_old_11 rfl rfl
  refine go_callXSr (y := yX11_needNumber) (n := 14) (st := []) (as := [vi l2, vi (-999999999), vi 999999999]) (stk9 := []) (OXX11_needNumber ev3) yw_X11_needNumber wml_RX11_44 wst_X11_needNumber (Nat.le_of_ble_eq_true rfl) rfl ⟨Nat.le_of_ble_eq_true rfl, Nat.le_of_ble_eq_true rfl⟩ (Nat.le_of_ble_eq_true rfl) dX11_old_11 rfl rfl rfl ?_
  refine go_aload_n (j := 0) (n := 15) rfl rfl dX11_old_14 rfl ?_
  replace E := Option.bind_eq_some_iff.mp E; obtain ⟨v5, ev5, E⟩ := E
  refine go_getP (n := 18) ev5 fl_RX11_23 rfl dX11_old_15 rfl ?_
  replace E := Option.bind_eq_some_iff.mp E; obtain ⟨v6, ev6, E⟩ := E
  refine go_getP (n := 21) ev6 fl_RX11_60 rfl dX11_old_18 rfl ?_
  refine go_iload_n (j := 1) (n := 22) rfl rfl dX11_old_21 rfl ?_
  refine go_iload_n (j := 2) (n := 23) rfl rfl dX11_old_22 rfl ?_
  replace E := Option.bind_eq_some_iff.mp E; obtain ⟨a9, ea9, E⟩ := E
  obtain ⟨fa9, ga9⟩ := xrc_some ea9
  replace E := xb_some E; obtain ⟨v7, h8, ev7, E⟩ := E
  refine go_callV (y := yX7_putOld) (n := 26) (st := []) (as := [vi l1, vi l2]) (stk9 := []) (OX7_putOld ev7) yw_X7_putOld ci_7 ga9 wml_RX11_64 wim_X7_putOld wse_X7_putOld (Nat.le_of_ble_eq_true rfl) rfl ⟨Nat.le_of_ble_eq_true rfl, Nat.le_of_ble_eq_true rfl⟩ (Nat.le_of_ble_eq_true rfl) dX11_old_23 rfl (by cases fa9; rfl) rfl ?_
  cases E
  exact go_ret (go_return rfl dX11_old_26)
theorem OXX11_old {F : Nat} {l0 : Nat} {l1 : Int} {l2 : Int} {h hf : HP} {r : String ⊕ Unit} (e : X11_old F l0 l1 l2 h = some (r, hf)) : OkX MX11_old [vr (some l0), vi l1, vi l2] (rU r) h hf := fun K _ _ _ => SX11_old l0 l1 l2 h e
theorem wml_RX11_151 : Cond.methodLink RX11 151 yX3_placed ∈ BW := bw_of 671 (by decide +kernel) rfl
abbrev MX11_order : MI := (RX11, cX11_order, 2, (some .int), 3, none, "order")
noncomputable def X11_order (F : Nat)   (l0 : Nat) (l1 : Int)  (h : HP) : Option (Int × HP) :=
  (xgP h (some l0) 11 6 2).bind fun v1 =>
  (xgP h v1 4 12 2).bind fun v2 =>
  (xrc h v2 3 7).bind fun a5 =>
  xb (X3_placed F a5 l1 h) fun v3 h4 =>
  some (v3, h4)
set_option maxRecDepth 100000 in
theorem SX11_order {K : Ctx} {F : Nat} {r : Int} {hf : HP}     (l0 : Nat) (l1 : Int)  (h : HP) (E : X11_order F   l0 l1 h = some (r, hf)) : Go K MX11_order (QM K (some (vi r)) hf) hf 0 [(0, vr (some l0)), (1, vi l1)] [] h := by
  unfold X11_order at E
  refine go_aload_n (j := 0) (n := 1) rfl rfl dX11_order_0 rfl ?_
  replace E := Option.bind_eq_some_iff.mp E; obtain ⟨v1, ev1, E⟩ := E
  refine go_getP (n := 4) ev1 fl_RX11_23 rfl dX11_order_1 rfl ?_
  replace E := Option.bind_eq_some_iff.mp E; obtain ⟨v2, ev2, E⟩ := E
  refine go_getP (n := 7) ev2 fl_RX11_101 rfl dX11_order_4 rfl ?_
  refine go_iload_n (j := 1) (n := 8) rfl rfl dX11_order_7 rfl ?_
  replace E := Option.bind_eq_some_iff.mp E; obtain ⟨a5, ea5, E⟩ := E
  obtain ⟨fa5, ga5⟩ := xrc_some ea5
  replace E := xb_some E; obtain ⟨v3, h4, ev3, E⟩ := E
  refine go_callV (y := yX3_placed) (n := 11) (st := []) (as := [vi l1]) (stk9 := [vi v3]) (OX3_placed ev3) yw_X3_placed ci_3 ga5 wml_RX11_151 wim_X3_placed wse_X3_placed (Nat.le_of_ble_eq_true rfl) rfl ⟨Nat.le_of_ble_eq_true rfl, Nat.le_of_ble_eq_true rfl⟩ (Nat.le_of_ble_eq_true rfl) dX11_order_8 rfl (by cases fa5; rfl) rfl ?_
  cases E
  exact go_ireturn rfl dX11_order_11
theorem OX11_order {F : Nat} {l0 : Nat} {l1 : Int} {h hf : HP} {r : Int} (e : X11_order F l0 l1 h = some (r, hf)) : Ok MX11_order [vr (some l0), vi l1] (some (vi r)) h hf := fun K _ _ _ => SX11_order l0 l1 h e
abbrev MX2_fallBack : MI := (RX2, cX2_fallBack, 2, none, 2, none, "fallBack")
noncomputable def X2_fallBack_L41 (F : Nat)    (s0 : Int) (s1 : Option Nat) (h : HP) : Option (Unit × HP) :=
  (xpI h s1 2 18 12 s0).bind fun h1 =>
  some ((), h1)
set_option maxRecDepth 100000 in
theorem SX2_fallBack_L41 {K : Ctx} {F : Nat} {r : Unit} {hf : HP}      (s0 : Int) (s1 : Option Nat) (h : HP) (E : X2_fallBack_L41 F   s0 s1 h = some (r, hf)) : Go K MX2_fallBack (QM K none hf) hf 41 [] [vi s0, vr s1] h := by
  unfold X2_fallBack_L41 at E
  replace E := Option.bind_eq_some_iff.mp E; obtain ⟨h1, eh1, E⟩ := E
  refine go_putI (n := 44) eh1 fl_RX2_50 rfl dX2_fallBack_41 rfl ?_
  cases E
  exact go_return rfl dX2_fallBack_44
noncomputable def X2_fallBack (F : Nat)   (l0 : Nat)  (h : HP) : Option (Unit × HP) :=
  (xgI h (some l0) 2 18 11).bind fun v1 =>
  (xgI h (some l0) 2 18 12).bind fun v2 =>
  (xgI h (some l0) 2 18 3).bind fun v3 =>
  if v3 ≤ 0 then
    (xgI h (some l0) 2 18 11).bind fun v5 =>
    X2_fallBack_L41 F v5 (some l0) h
  else
    (xgI h (some l0) 2 18 11).bind fun v6 =>
    (xgI h (some l0) 2 18 3).bind fun v7 =>
    (xd v7).bind fun u8 =>
    (xgI h (some l0) 2 18 3).bind fun v9 =>
    X2_fallBack_L41 F (w32 (v6 - (w32 ((w32 ((w32 (v1 - v2)).tdiv v7)) * v9)))) (some l0) h
set_option maxRecDepth 100000 in
theorem SX2_fallBack {K : Ctx} {F : Nat} {r : Unit} {hf : HP}     (l0 : Nat)  (h : HP) (E : X2_fallBack F   l0 h = some (r, hf)) : Go K MX2_fallBack (QM K none hf) hf 0 [(0, vr (some l0))] [] h := by
  unfold X2_fallBack at E
  refine go_aload_n (j := 0) (n := 1) rfl rfl dX2_fallBack_0 rfl ?_
  replace E := Option.bind_eq_some_iff.mp E; obtain ⟨v1, ev1, E⟩ := E
  refine go_getI (n := 4) ev1 fl_RX2_47 rfl dX2_fallBack_1 rfl ?_
  refine go_aload_n (j := 0) (n := 5) rfl rfl dX2_fallBack_4 rfl ?_
  replace E := Option.bind_eq_some_iff.mp E; obtain ⟨v2, ev2, E⟩ := E
  refine go_getI (n := 8) ev2 fl_RX2_50 rfl dX2_fallBack_5 rfl ?_
  refine go_isub (n := 9) dX2_fallBack_8 rfl ?_
  refine go_istore_n (n := 10) (lv' := [(1, vi (w32 (v1 - v2))), (0, vr (some l0))]) rfl dX2_fallBack_9 rfl (Nat.le_of_ble_eq_true rfl) rfl ?_
  refine go_aload_n (j := 1) (n := 11) rfl rfl dX2_fallBack_10 rfl ?_
  refine go_aload_n (j := 1) (n := 12) rfl rfl dX2_fallBack_11 rfl ?_
  replace E := Option.bind_eq_some_iff.mp E; obtain ⟨v3, ev3, E⟩ := E
  refine go_getI (n := 15) ev3 fl_RX2_21 rfl dX2_fallBack_12 rfl ?_
  refine go_if_le (tgt := 37) (n := 18) dX2_fallBack_15 rfl rfl (fun c4 => ?_) (fun c4 => ?_)
  · rw [if_pos c4] at E
    refine go_aload_n (j := 1) (n := 38) rfl rfl dX2_fallBack_37 rfl ?_
    replace E := Option.bind_eq_some_iff.mp E; obtain ⟨v5, ev5, E⟩ := E
    refine go_getI (n := 41) ev5 fl_RX2_47 rfl dX2_fallBack_38 rfl ?_
    refine go_pick (lv' := []) [] rfl ?_
    exact SX2_fallBack_L41      _ _ _ E
  · rw [if_neg c4] at E
    refine go_aload_n (j := 1) (n := 19) rfl rfl dX2_fallBack_18 rfl ?_
    replace E := Option.bind_eq_some_iff.mp E; obtain ⟨v6, ev6, E⟩ := E
    refine go_getI (n := 22) ev6 fl_RX2_47 rfl dX2_fallBack_19 rfl ?_
    refine go_iload_n (j := 0) (n := 23) rfl rfl dX2_fallBack_22 rfl ?_
    refine go_aload_n (j := 1) (n := 24) rfl rfl dX2_fallBack_23 rfl ?_
    replace E := Option.bind_eq_some_iff.mp E; obtain ⟨v7, ev7, E⟩ := E
    refine go_getI (n := 27) ev7 fl_RX2_21 rfl dX2_fallBack_24 rfl ?_
    replace E := Option.bind_eq_some_iff.mp E; obtain ⟨u8, eu8, E⟩ := E
    refine go_idiv (n := 28) (xd_some eu8) dX2_fallBack_27 rfl ?_
    refine go_aload_n (j := 1) (n := 29) rfl rfl dX2_fallBack_28 rfl ?_
    replace E := Option.bind_eq_some_iff.mp E; obtain ⟨v9, ev9, E⟩ := E
    refine go_getI (n := 32) ev9 fl_RX2_21 rfl dX2_fallBack_29 rfl ?_
    refine go_imul (n := 33) dX2_fallBack_32 rfl ?_
    refine go_isub (n := 34) dX2_fallBack_33 rfl ?_
    refine go_goto (tgt := 41) dX2_fallBack_34 rfl ?_
    refine go_pick (lv' := []) [] rfl ?_
    exact SX2_fallBack_L41      _ _ _ E
theorem OX2_fallBack {F : Nat} {l0 : Nat} {h hf : HP} {r : Unit} (e : X2_fallBack F l0 h = some (r, hf)) : Ok MX2_fallBack [vr (some l0)] none h hf := fun K _ _ _ => SX2_fallBack l0 h e
theorem yw_X2_fallBack : YW yX2_fallBack cX2_fallBack 2 none 0 := ⟨bw_of 1388 (by decide +kernel) rfl, bw_of 123 (by decide +kernel) rfl, ⟨by decide +kernel, by decide +kernel, by decide +kernel⟩, by decide +kernel⟩
theorem wml_RX4_78 : Cond.methodLink RX4 78 yX2_fallBack ∈ BW := bw_of 1385 (by decide +kernel) rfl
theorem wim_X2_fallBack : Cond.instanceMethod yX2_fallBack ∈ BW := bw_of 1386 (by decide +kernel) rfl
theorem wse_X2_fallBack : Cond.selects RX2 yX2_fallBack yX2_fallBack ∈ BW := bw_of 1387 (by decide +kernel) rfl
abbrev MX4_breakDown : MI := (RX4, cX4_breakDown, 2, none, 3, none, "breakDown")
noncomputable def X4_breakDown (F : Nat)   (l0 : Nat) (l1 : Int)  (h : HP) : Option (Unit × HP) :=
  (xgI h (some l0) 4 12 9).bind fun v1 =>
  (xpI h (some l0) 4 12 9 (w32 (v1 + l1))).bind fun h2 =>
  (xgI h2 (some l0) 4 12 10).bind fun v3 =>
  if v3 = (-1) then
    some ((), h2)
  else
    (xgP h2 (some l0) 4 12 2).bind fun v5 =>
    (xgI h2 (some l0) 4 12 10).bind fun v6 =>
    (xrc h2 v5 3 7).bind fun a9 =>
    xb (X3_at F a9 v6 h2) fun v7 h8 =>
    (xrc h8 v7 2 18).bind fun a12 =>
    xb (X2_fallBack F a12 h8) fun v10 h11 =>
    some ((), h11)
set_option maxRecDepth 100000 in
theorem SX4_breakDown {K : Ctx} {F : Nat} {r : Unit} {hf : HP}     (l0 : Nat) (l1 : Int)  (h : HP) (E : X4_breakDown F   l0 l1 h = some (r, hf)) : Go K MX4_breakDown (QM K none hf) hf 0 [(0, vr (some l0)), (1, vi l1)] [] h := by
  unfold X4_breakDown at E
  refine go_aload_n (j := 0) (n := 1) rfl rfl dX4_breakDown_0 rfl ?_
  refine go_dup (n := 2) rfl dX4_breakDown_1 rfl ?_
  replace E := Option.bind_eq_some_iff.mp E; obtain ⟨v1, ev1, E⟩ := E
  refine go_getI (n := 5) ev1 fl_RX4_71 rfl dX4_breakDown_2 rfl ?_
  refine go_iload_n (j := 1) (n := 6) rfl rfl dX4_breakDown_5 rfl ?_
  refine go_iadd (n := 7) dX4_breakDown_6 rfl ?_
  replace E := Option.bind_eq_some_iff.mp E; obtain ⟨h2, eh2, E⟩ := E
  refine go_putI (n := 10) eh2 fl_RX4_71 rfl dX4_breakDown_7 rfl ?_
  refine go_aload_n (j := 0) (n := 11) rfl rfl dX4_breakDown_10 rfl ?_
  replace E := Option.bind_eq_some_iff.mp E; obtain ⟨v3, ev3, E⟩ := E
  refine go_getI (n := 14) ev3 fl_RX4_51 rfl dX4_breakDown_11 rfl ?_
  refine go_iconst (z := (-1)) (n := 15) ⟨by decide, by decide⟩ dX4_breakDown_14 rfl ?_
  refine go_icmp_eq (tgt := 32) (n := 18) dX4_breakDown_15 rfl rfl (fun c4 => ?_) (fun c4 => ?_)
  · rw [if_pos c4] at E
    cases E
    exact go_return rfl dX4_breakDown_32
  · rw [if_neg c4] at E
    refine go_aload_n (j := 0) (n := 19) rfl rfl dX4_breakDown_18 rfl ?_
    replace E := Option.bind_eq_some_iff.mp E; obtain ⟨v5, ev5, E⟩ := E
    refine go_getP (n := 22) ev5 fl_RX4_26 rfl dX4_breakDown_19 rfl ?_
    refine go_aload_n (j := 0) (n := 23) rfl rfl dX4_breakDown_22 rfl ?_
    replace E := Option.bind_eq_some_iff.mp E; obtain ⟨v6, ev6, E⟩ := E
    refine go_getI (n := 26) ev6 fl_RX4_51 rfl dX4_breakDown_23 rfl ?_
    replace E := Option.bind_eq_some_iff.mp E; obtain ⟨a9, ea9, E⟩ := E
    obtain ⟨fa9, ga9⟩ := xrc_some ea9
    replace E := xb_some E; obtain ⟨v7, h8, ev7, E⟩ := E
    refine go_callV (y := yX3_at) (n := 29) (st := []) (as := [vi v6]) (stk9 := [vr v7]) (OX3_at ev7) yw_X3_at ci_3 ga9 wml_RX4_74 wim_X3_at wse_X3_at (Nat.le_of_ble_eq_true rfl) rfl ⟨Nat.le_of_ble_eq_true rfl, Nat.le_of_ble_eq_true rfl⟩ (Nat.le_of_ble_eq_true rfl) dX4_breakDown_26 rfl (by cases fa9; rfl) rfl ?_
    replace E := Option.bind_eq_some_iff.mp E; obtain ⟨a12, ea12, E⟩ := E
    obtain ⟨fa12, ga12⟩ := xrc_some ea12
    replace E := xb_some E; obtain ⟨v10, h11, ev10, E⟩ := E
    refine go_callV (y := yX2_fallBack) (n := 32) (st := []) (as := []) (stk9 := []) (OX2_fallBack ev10) yw_X2_fallBack ci_2 ga12 wml_RX4_78 wim_X2_fallBack wse_X2_fallBack (Nat.le_of_ble_eq_true rfl) rfl ⟨Nat.le_of_ble_eq_true rfl, Nat.le_of_ble_eq_true rfl⟩ (Nat.le_of_ble_eq_true rfl) dX4_breakDown_29 rfl (by cases fa12; rfl) rfl ?_
    cases E
    exact go_return rfl dX4_breakDown_32
theorem OX4_breakDown {F : Nat} {l0 : Nat} {l1 : Int} {h hf : HP} {r : Unit} (e : X4_breakDown F l0 l1 h = some (r, hf)) : Ok MX4_breakDown [vr (some l0), vi l1] none h hf := fun K _ _ _ => SX4_breakDown l0 l1 h e
theorem yw_X4_breakDown : YW yX4_breakDown cX4_breakDown 2 none 1 := ⟨bw_of 1383 (by decide +kernel) rfl, bw_of 119 (by decide +kernel) rfl, ⟨by decide +kernel, by decide +kernel, by decide +kernel⟩, by decide +kernel⟩
theorem wml_RX11_175 : Cond.methodLink RX11 175 yX4_breakDown ∈ BW := bw_of 1380 (by decide +kernel) rfl
theorem wim_X4_breakDown : Cond.instanceMethod yX4_breakDown ∈ BW := bw_of 1381 (by decide +kernel) rfl
theorem wse_X4_breakDown : Cond.selects RX4 yX4_breakDown yX4_breakDown ∈ BW := bw_of 1382 (by decide +kernel) rfl
abbrev MX11_out : MI := (RX11, cX11_out, 2, (some .int), 13, some [], "out")
noncomputable def X11_out (F : Nat)   (l0 : Nat) (l1 : Int)  (h : HP) : Option ((String ⊕ Int) × HP) :=
  xth (X11_needNumber F l1 1 60 h) fun v1 h2 =>
  (xgP h2 (some l0) 11 6 2).bind fun v3 =>
  (xgI h2 v3 4 12 9).bind fun v4 =>
  if (w32 (v4 + l1)) ≤ 480 then
    (xgP h2 (some l0) 11 6 2).bind fun v6 =>
    (xrc h2 v6 4 12).bind fun a9 =>
    xb (X4_breakDown F a9 l1 h2) fun v7 h8 =>
    (xgP h8 (some l0) 11 6 2).bind fun v10 =>
    (xgI h8 v10 4 12 9).bind fun v11 =>
    some (.inr v11, h8)
  else
    some (.inl "java/lang/IllegalStateException", exc h2)
set_option maxRecDepth 100000 in
theorem SX11_out {K : Ctx} {F : Nat} {r : String ⊕ Int} {hf : HP}     (l0 : Nat) (l1 : Int)  (h : HP) (E : X11_out F   l0 l1 h = some (r, hf)) : Go K MX11_out (QMX K (rI r) hf) hf 0 [(0, vr (some l0)), (1, vi l1)] [] h := by
  unfold X11_out at E
  refine go_iload_n (j := 1) (n := 1) rfl rfl dX11_out_0 rfl ?_
  refine go_iconst (z := 1) (n := 2) ⟨by decide, by decide⟩ dX11_out_1 rfl ?_
  refine go_bipush (z := 60) (n := 4) ⟨by decide, by decide⟩ dX11_out_2 rfl ?_
  replace E := xth_some E; rcases E with ⟨x12, ev1, rfl⟩ | ⟨v1, h2, ev1, E⟩
  · exact go_callXSt (y := yX11_needNumber) (as := [vi l1, vi 1, vi 60]) (st := []) (OXX11_needNumber ev1) yw_X11_needNumber wml_RX11_44 wst_X11_needNumber (Nat.le_of_ble_eq_true rfl) rfl ⟨Nat.le_of_ble_eq_true rfl, Nat.le_of_ble_eq_true rfl⟩ (Nat.le_of_ble_eq_true rfl) dX11_out_4 rfl rfl
  refine go_callXSr (y := yX11_needNumber) (n := 7) (st := []) (as := [vi l1, vi 1, vi 60]) (stk9 := []) (OXX11_needNumber ev1) yw_X11_needNumber wml_RX11_44 wst_X11_needNumber (Nat.le_of_ble_eq_true rfl) rfl ⟨Nat.le_of_ble_eq_true rfl, Nat.le_of_ble_eq_true rfl⟩ (Nat.le_of_ble_eq_true rfl) dX11_out_4 rfl rfl rfl ?_
  refine go_aload_n (j := 0) (n := 8) rfl rfl dX11_out_7 rfl ?_
  replace E := Option.bind_eq_some_iff.mp E; obtain ⟨v3, ev3, E⟩ := E
  refine go_getP (n := 11) ev3 fl_RX11_23 rfl dX11_out_8 rfl ?_
  replace E := Option.bind_eq_some_iff.mp E; obtain ⟨v4, ev4, E⟩ := E
  refine go_getI (n := 14) ev4 fl_RX11_167 rfl dX11_out_11 rfl ?_
  refine go_iload_n (j := 1) (n := 15) rfl rfl dX11_out_14 rfl ?_
  refine go_iadd (n := 16) dX11_out_15 rfl ?_
  refine go_sipush (z := 480) (n := 19) ⟨by decide, by decide⟩ dX11_out_16 rfl ?_
  refine go_icmp_le (tgt := 32) (n := 22) dX11_out_19 rfl rfl (fun c5 => ?_) (fun c5 => ?_)
  · rw [if_pos c5] at E
    refine go_aload_n (j := 0) (n := 33) rfl rfl dX11_out_32 rfl ?_
    replace E := Option.bind_eq_some_iff.mp E; obtain ⟨v6, ev6, E⟩ := E
    refine go_getP (n := 36) ev6 fl_RX11_23 rfl dX11_out_33 rfl ?_
    refine go_iload_n (j := 1) (n := 37) rfl rfl dX11_out_36 rfl ?_
    replace E := Option.bind_eq_some_iff.mp E; obtain ⟨a9, ea9, E⟩ := E
    obtain ⟨fa9, ga9⟩ := xrc_some ea9
    replace E := xb_some E; obtain ⟨v7, h8, ev7, E⟩ := E
    refine go_callV (y := yX4_breakDown) (n := 40) (st := []) (as := [vi l1]) (stk9 := []) (OX4_breakDown ev7) yw_X4_breakDown ci_4 ga9 wml_RX11_175 wim_X4_breakDown wse_X4_breakDown (Nat.le_of_ble_eq_true rfl) rfl ⟨Nat.le_of_ble_eq_true rfl, Nat.le_of_ble_eq_true rfl⟩ (Nat.le_of_ble_eq_true rfl) dX11_out_37 rfl (by cases fa9; rfl) rfl ?_
    refine go_aload_n (j := 0) (n := 41) rfl rfl dX11_out_40 rfl ?_
    replace E := Option.bind_eq_some_iff.mp E; obtain ⟨v10, ev10, E⟩ := E
    refine go_getP (n := 44) ev10 fl_RX11_23 rfl dX11_out_41 rfl ?_
    replace E := Option.bind_eq_some_iff.mp E; obtain ⟨v11, ev11, E⟩ := E
    refine go_getI (n := 47) ev11 fl_RX11_167 rfl dX11_out_44 rfl ?_
    cases E
    exact go_ret (go_ireturn rfl dX11_out_47)
  · rw [if_neg c5] at E
    cases E
    exact go_throw (j := 22) xt_RX11_170_174 rfl rfl rfl (Nat.le_of_ble_eq_true rfl) dX11_out_22 dX11_out_25 dX11_out_26 dX11_out_28 dX11_out_31 (Nat.le_of_ble_eq_true rfl)
theorem OXX11_out {F : Nat} {l0 : Nat} {l1 : Int} {h hf : HP} {r : String ⊕ Int} (e : X11_out F l0 l1 h = some (r, hf)) : OkX MX11_out [vr (some l0), vi l1] (rI r) h hf := fun K _ _ _ => SX11_out l0 l1 h e
theorem wml_RX5_32 : Cond.methodLink RX5 32 Lib.Math.max.name ∈ BW := bw_of 779 (by decide +kernel) rfl
abbrev MX5_due : MI := (RX5, cX5_due, 3, (some .int), 2, none, "due")
noncomputable def X5_due (F : Nat)   (l0 : Nat) (l1 : Int)  (h : HP) : Option (Int × HP) :=
  if l1 < 0 then
    some (0, h)
  else
    if l1 < 20 then
      (xgP h (some l0) 5 6 0).bind fun v3 =>
      (xaI h v3 100 l1).bind fun v4 =>
      (xgP h (some l0) 5 6 0).bind fun v5 =>
      (xaI h v5 100 l1).bind fun v6 =>
      (xgP h (some l0) 5 6 1).bind fun v7 =>
      (xaI h v7 100 l1).bind fun v8 =>
      some (w32 ((w32 ((w32 ((w32 (2 * v6)) + (max 0 (w32 (v4 - 40))))) * v8)).tdiv 2), h)
    else
      some (0, h)
set_option maxRecDepth 100000 in
theorem SX5_due {K : Ctx} {F : Nat} {r : Int} {hf : HP}     (l0 : Nat) (l1 : Int)  (h : HP) (E : X5_due F   l0 l1 h = some (r, hf)) : Go K MX5_due (QM K (some (vi r)) hf) hf 0 [(0, vr (some l0)), (1, vi l1)] [] h := by
  unfold X5_due at E
  refine go_iload_n (j := 1) (n := 1) rfl rfl dX5_due_0 rfl ?_
  refine go_if_lt (tgt := 10) (n := 4) dX5_due_1 rfl rfl (fun c1 => ?_) (fun c1 => ?_)
  · rw [if_pos c1] at E
    refine go_iconst (z := 0) (n := 11) ⟨by decide, by decide⟩ dX5_due_10 rfl ?_
    cases E
    exact go_ireturn rfl dX5_due_11
  · rw [if_neg c1] at E
    refine go_iload_n (j := 1) (n := 5) rfl rfl dX5_due_4 rfl ?_
    refine go_bipush (z := 20) (n := 7) ⟨by decide, by decide⟩ dX5_due_5 rfl ?_
    refine go_icmp_lt (tgt := 12) (n := 10) dX5_due_7 rfl rfl (fun c2 => ?_) (fun c2 => ?_)
    · rw [if_pos c2] at E
      refine go_iconst (z := 0) (n := 13) ⟨by decide, by decide⟩ dX5_due_12 rfl ?_
      refine go_aload_n (j := 0) (n := 14) rfl rfl dX5_due_13 rfl ?_
      replace E := Option.bind_eq_some_iff.mp E; obtain ⟨v3, ev3, E⟩ := E
      refine go_getP (n := 17) ev3 fl_RX5_9 rfl dX5_due_14 rfl ?_
      refine go_iload_n (j := 1) (n := 18) rfl rfl dX5_due_17 rfl ?_
      replace E := Option.bind_eq_some_iff.mp E; obtain ⟨v4, ev4, E⟩ := E
      refine go_iaload (n := 19) ev4 dX5_due_18 rfl ?_
      refine go_bipush (z := 40) (n := 21) ⟨by decide, by decide⟩ dX5_due_19 rfl ?_
      refine go_isub (n := 22) dX5_due_21 rfl ?_
      refine go_mmax (n := 25) wml_RX5_32 jm_max_i (Nat.le_of_ble_eq_true rfl) (Nat.le_of_ble_eq_true rfl) dX5_due_22 rfl ?_
      refine go_istore_n (n := 26) (lv' := [(2, vi (max 0 (w32 (v4 - 40)))), (0, vr (some l0)), (1, vi l1)]) rfl dX5_due_25 rfl (Nat.le_of_ble_eq_true rfl) rfl ?_
      refine go_iconst (z := 2) (n := 27) ⟨by decide, by decide⟩ dX5_due_26 rfl ?_
      refine go_aload_n (j := 1) (n := 28) rfl rfl dX5_due_27 rfl ?_
      replace E := Option.bind_eq_some_iff.mp E; obtain ⟨v5, ev5, E⟩ := E
      refine go_getP (n := 31) ev5 fl_RX5_9 rfl dX5_due_28 rfl ?_
      refine go_iload_n (j := 2) (n := 32) rfl rfl dX5_due_31 rfl ?_
      replace E := Option.bind_eq_some_iff.mp E; obtain ⟨v6, ev6, E⟩ := E
      refine go_iaload (n := 33) ev6 dX5_due_32 rfl ?_
      refine go_imul (n := 34) dX5_due_33 rfl ?_
      refine go_iload_n (j := 0) (n := 35) rfl rfl dX5_due_34 rfl ?_
      refine go_iadd (n := 36) dX5_due_35 rfl ?_
      refine go_aload_n (j := 1) (n := 37) rfl rfl dX5_due_36 rfl ?_
      replace E := Option.bind_eq_some_iff.mp E; obtain ⟨v7, ev7, E⟩ := E
      refine go_getP (n := 40) ev7 fl_RX5_15 rfl dX5_due_37 rfl ?_
      refine go_iload_n (j := 2) (n := 41) rfl rfl dX5_due_40 rfl ?_
      replace E := Option.bind_eq_some_iff.mp E; obtain ⟨v8, ev8, E⟩ := E
      refine go_iaload (n := 42) ev8 dX5_due_41 rfl ?_
      refine go_imul (n := 43) dX5_due_42 rfl ?_
      refine go_iconst (z := 2) (n := 44) ⟨by decide, by decide⟩ dX5_due_43 rfl ?_
      refine go_idiv (n := 45) (by decide) dX5_due_44 rfl ?_
      cases E
      exact go_ireturn rfl dX5_due_45
    · rw [if_neg c2] at E
      refine go_iconst (z := 0) (n := 11) ⟨by decide, by decide⟩ dX5_due_10 rfl ?_
      cases E
      exact go_ireturn rfl dX5_due_11
theorem OX5_due {F : Nat} {l0 : Nat} {l1 : Int} {h hf : HP} {r : Int} (e : X5_due F l0 l1 h = some (r, hf)) : Ok MX5_due [vr (some l0), vi l1] (some (vi r)) h hf := fun K _ _ _ => SX5_due l0 l1 h e
theorem yw_X5_due : YW yX5_due cX5_due 3 (some .int) 1 := ⟨bw_of 778 (by decide +kernel) rfl, bw_of 127 (by decide +kernel) rfl, ⟨by decide +kernel, by decide +kernel, by decide +kernel⟩, by decide +kernel⟩
theorem wml_RX5_28 : Cond.methodLink RX5 28 yX5_due ∈ BW := bw_of 775 (by decide +kernel) rfl
theorem wim_X5_due : Cond.instanceMethod yX5_due ∈ BW := bw_of 777 (by decide +kernel) rfl
theorem wse_X5_due : Cond.selects RX5 yX5_due yX5_due ∈ BW := bw_of 5 (by decide +kernel) rfl
abbrev MX5_shown : MI := (RX5, cX5_shown, 3, (some .int), 3, none, "shown")
noncomputable def X5_shown (F : Nat)   (l0 : Nat) (l1 : Int) (l2 : Int)  (h : HP) : Option (Int × HP) :=
  if l1 < 0 then
    some ((-1), h)
  else
    if l1 < 20 then
      if l2 = 0 then
        (xrc h (some l0) 5 6).bind fun a5 =>
        xb (X5_due F a5 l1 h) fun v3 h4 =>
        some (v3, h4)
      else
        if l2 = 1 then
          (xgP h (some l0) 5 6 0).bind fun v6 =>
          (xaI h v6 100 l1).bind fun v7 =>
          some (v7, h)
        else
          if l2 = 2 then
            (xgP h (some l0) 5 6 2).bind fun v8 =>
            (xaI h v8 100 l1).bind fun v9 =>
            some (v9, h)
          else
            (xgP h (some l0) 5 6 3).bind fun v10 =>
            (xaI h v10 100 l1).bind fun v11 =>
            some (v11, h)
    else
      some ((-1), h)
set_option maxRecDepth 100000 in
theorem SX5_shown {K : Ctx} {F : Nat} {r : Int} {hf : HP}     (l0 : Nat) (l1 : Int) (l2 : Int)  (h : HP) (E : X5_shown F   l0 l1 l2 h = some (r, hf)) : Go K MX5_shown (QM K (some (vi r)) hf) hf 0 [(0, vr (some l0)), (1, vi l1), (2, vi l2)] [] h := by
  unfold X5_shown at E
  refine go_iload_n (j := 1) (n := 1) rfl rfl dX5_shown_0 rfl ?_
  refine go_if_lt (tgt := 10) (n := 4) dX5_shown_1 rfl rfl (fun c1 => ?_) (fun c1 => ?_)
  · rw [if_pos c1] at E
    refine go_iconst (z := (-1)) (n := 11) ⟨by decide, by decide⟩ dX5_shown_10 rfl ?_
    cases E
    exact go_ireturn rfl dX5_shown_11
  · rw [if_neg c1] at E
    refine go_iload_n (j := 1) (n := 5) rfl rfl dX5_shown_4 rfl ?_
    refine go_bipush (z := 20) (n := 7) ⟨by decide, by decide⟩ dX5_shown_5 rfl ?_
    refine go_icmp_lt (tgt := 12) (n := 10) dX5_shown_7 rfl rfl (fun c2 => ?_) (fun c2 => ?_)
    · rw [if_pos c2] at E
      refine go_iload_n (j := 2) (n := 13) rfl rfl dX5_shown_12 rfl ?_
      by_cases c12 : l2 = 0
      · rw [if_pos c12] at E
        refine go_tableIn (tgt := 40) dX5_shown_13 (by omega) (by omega) (by rw [c12]; rfl) rfl ?_
        refine go_aload_n (j := 0) (n := 41) rfl rfl dX5_shown_40 rfl ?_
        refine go_iload_n (j := 1) (n := 42) rfl rfl dX5_shown_41 rfl ?_
        replace E := Option.bind_eq_some_iff.mp E; obtain ⟨a5, ea5, E⟩ := E
        obtain ⟨fa5, ga5⟩ := xrc_some ea5
        replace E := xb_some E; obtain ⟨v3, h4, ev3, E⟩ := E
        refine go_callV (y := yX5_due) (n := 45) (st := []) (as := [vi l1]) (stk9 := [vi v3]) (OX5_due ev3) yw_X5_due ci_5 ga5 wml_RX5_28 wim_X5_due wse_X5_due (Nat.le_of_ble_eq_true rfl) rfl ⟨Nat.le_of_ble_eq_true rfl, Nat.le_of_ble_eq_true rfl⟩ (Nat.le_of_ble_eq_true rfl) dX5_shown_42 rfl (by cases fa5; rfl) rfl ?_
        cases E
        exact go_ireturn rfl dX5_shown_45
      rw [if_neg c12] at E
      by_cases c13 : l2 = 1
      · rw [if_pos c13] at E
        refine go_tableIn (tgt := 46) dX5_shown_13 (by omega) (by omega) (by rw [c13]; rfl) rfl ?_
        refine go_aload_n (j := 0) (n := 47) rfl rfl dX5_shown_46 rfl ?_
        replace E := Option.bind_eq_some_iff.mp E; obtain ⟨v6, ev6, E⟩ := E
        refine go_getP (n := 50) ev6 fl_RX5_9 rfl dX5_shown_47 rfl ?_
        refine go_iload_n (j := 1) (n := 51) rfl rfl dX5_shown_50 rfl ?_
        replace E := Option.bind_eq_some_iff.mp E; obtain ⟨v7, ev7, E⟩ := E
        refine go_iaload (n := 52) ev7 dX5_shown_51 rfl ?_
        cases E
        exact go_ireturn rfl dX5_shown_52
      rw [if_neg c13] at E
      by_cases c14 : l2 = 2
      · rw [if_pos c14] at E
        refine go_tableIn (tgt := 53) dX5_shown_13 (by omega) (by omega) (by rw [c14]; rfl) rfl ?_
        refine go_aload_n (j := 0) (n := 54) rfl rfl dX5_shown_53 rfl ?_
        replace E := Option.bind_eq_some_iff.mp E; obtain ⟨v8, ev8, E⟩ := E
        refine go_getP (n := 57) ev8 fl_RX5_18 rfl dX5_shown_54 rfl ?_
        refine go_iload_n (j := 1) (n := 58) rfl rfl dX5_shown_57 rfl ?_
        replace E := Option.bind_eq_some_iff.mp E; obtain ⟨v9, ev9, E⟩ := E
        refine go_iaload (n := 59) ev9 dX5_shown_58 rfl ?_
        cases E
        exact go_ireturn rfl dX5_shown_59
      rw [if_neg c14] at E
      refine go_tableOut (tgt := 60) dX5_shown_13 (by omega) rfl ?_
      refine go_aload_n (j := 0) (n := 61) rfl rfl dX5_shown_60 rfl ?_
      replace E := Option.bind_eq_some_iff.mp E; obtain ⟨v10, ev10, E⟩ := E
      refine go_getP (n := 64) ev10 fl_RX5_21 rfl dX5_shown_61 rfl ?_
      refine go_iload_n (j := 1) (n := 65) rfl rfl dX5_shown_64 rfl ?_
      replace E := Option.bind_eq_some_iff.mp E; obtain ⟨v11, ev11, E⟩ := E
      refine go_iaload (n := 66) ev11 dX5_shown_65 rfl ?_
      cases E
      exact go_ireturn rfl dX5_shown_66
    · rw [if_neg c2] at E
      refine go_iconst (z := (-1)) (n := 11) ⟨by decide, by decide⟩ dX5_shown_10 rfl ?_
      cases E
      exact go_ireturn rfl dX5_shown_11
theorem OX5_shown {F : Nat} {l0 : Nat} {l1 : Int} {l2 : Int} {h hf : HP} {r : Int} (e : X5_shown F l0 l1 l2 h = some (r, hf)) : Ok MX5_shown [vr (some l0), vi l1, vi l2] (some (vi r)) h hf := fun K _ _ _ => SX5_shown l0 l1 l2 h e
theorem yw_X5_shown : YW yX5_shown cX5_shown 3 (some .int) 2 := ⟨bw_of 1677 (by decide +kernel) rfl, bw_of 127 (by decide +kernel) rfl, ⟨by decide +kernel, by decide +kernel, by decide +kernel⟩, by decide +kernel⟩
theorem wml_RX11_277 : Cond.methodLink RX11 277 yX5_shown ∈ BW := bw_of 1674 (by decide +kernel) rfl
theorem wim_X5_shown : Cond.instanceMethod yX5_shown ∈ BW := bw_of 1675 (by decide +kernel) rfl
theorem wse_X5_shown : Cond.selects RX5 yX5_shown yX5_shown ∈ BW := bw_of 1676 (by decide +kernel) rfl
abbrev MX11_pay : MI := (RX11, cX11_pay, 3, (some .int), 13, some [], "pay")
noncomputable def X11_pay (F : Nat)   (l0 : Nat) (l1 : Int) (l2 : Int)  (h : HP) : Option ((String ⊕ Int) × HP) :=
  (xgP h (some l0) 11 6 2).bind fun v1 =>
  (xgP h v1 4 12 5).bind fun v2 =>
  (xgI h v2 5 6 4).bind fun v3 =>
  xth (X11_needPlace F l1 v3 h) fun v4 h5 =>
  xth (X11_needWhat F l2 3 h5) fun v6 h7 =>
  (xgP h7 (some l0) 11 6 2).bind fun v8 =>
  (xgP h7 v8 4 12 5).bind fun v9 =>
  (xrc h7 v9 5 6).bind fun a12 =>
  xb (X5_shown F a12 l1 l2 h7) fun v10 h11 =>
  some (.inr v10, h11)
set_option maxRecDepth 100000 in
theorem SX11_pay {K : Ctx} {F : Nat} {r : String ⊕ Int} {hf : HP}     (l0 : Nat) (l1 : Int) (l2 : Int)  (h : HP) (E : X11_pay F   l0 l1 l2 h = some (r, hf)) : Go K MX11_pay (QMX K (rI r) hf) hf 0 [(0, vr (some l0)), (1, vi l1), (2, vi l2)] [] h := by
  unfold X11_pay at E
  refine go_iload_n (j := 1) (n := 1) rfl rfl dX11_pay_0 rfl ?_
  refine go_aload_n (j := 0) (n := 2) rfl rfl dX11_pay_1 rfl ?_
  replace E := Option.bind_eq_some_iff.mp E; obtain ⟨v1, ev1, E⟩ := E
  refine go_getP (n := 5) ev1 fl_RX11_23 rfl dX11_pay_2 rfl ?_
  replace E := Option.bind_eq_some_iff.mp E; obtain ⟨v2, ev2, E⟩ := E
  refine go_getP (n := 8) ev2 fl_RX11_256 rfl dX11_pay_5 rfl ?_
  replace E := Option.bind_eq_some_iff.mp E; obtain ⟨v3, ev3, E⟩ := E
  refine go_getI (n := 11) ev3 fl_RX11_260 rfl dX11_pay_8 rfl ?_
  replace E := xth_some E; rcases E with ⟨x14, ev4, rfl⟩ | ⟨v4, h5, ev4, E⟩
  · exact go_callXSt (y := yX11_needPlace) (as := [vi l1, vi v3]) (st := []) (OXX11_needPlace ev4) yw_X11_needPlace wml_RX11_54 wst_X11_needPlace (Nat.le_of_ble_eq_true rfl) rfl ⟨Nat.le_of_ble_eq_true rfl, Nat.le_of_ble_eq_true rfl⟩ (Nat.le_of_ble_eq_true rfl) dX11_pay_11 rfl rfl
  refine go_callXSr (y := yX11_needPlace) (n := 14) (st := []) (as := [vi l1, vi v3]) (stk9 := []) (OXX11_needPlace ev4) yw_X11_needPlace wml_RX11_54 wst_X11_needPlace (Nat.le_of_ble_eq_true rfl) rfl ⟨Nat.le_of_ble_eq_true rfl, Nat.le_of_ble_eq_true rfl⟩ (Nat.le_of_ble_eq_true rfl) dX11_pay_11 rfl rfl rfl ?_
  refine go_iload_n (j := 2) (n := 15) rfl rfl dX11_pay_14 rfl ?_
  refine go_iconst (z := 3) (n := 16) ⟨by decide, by decide⟩ dX11_pay_15 rfl ?_
  replace E := xth_some E; rcases E with ⟨x13, ev6, rfl⟩ | ⟨v6, h7, ev6, E⟩
  · exact go_callXSt (y := yX11_needWhat) (as := [vi l2, vi 3]) (st := []) (OXX11_needWhat ev6) yw_X11_needWhat wml_RX11_184 wst_X11_needWhat (Nat.le_of_ble_eq_true rfl) rfl ⟨Nat.le_of_ble_eq_true rfl, Nat.le_of_ble_eq_true rfl⟩ (Nat.le_of_ble_eq_true rfl) dX11_pay_16 rfl rfl
  refine go_callXSr (y := yX11_needWhat) (n := 19) (st := []) (as := [vi l2, vi 3]) (stk9 := []) (OXX11_needWhat ev6) yw_X11_needWhat wml_RX11_184 wst_X11_needWhat (Nat.le_of_ble_eq_true rfl) rfl ⟨Nat.le_of_ble_eq_true rfl, Nat.le_of_ble_eq_true rfl⟩ (Nat.le_of_ble_eq_true rfl) dX11_pay_16 rfl rfl rfl ?_
  refine go_aload_n (j := 0) (n := 20) rfl rfl dX11_pay_19 rfl ?_
  replace E := Option.bind_eq_some_iff.mp E; obtain ⟨v8, ev8, E⟩ := E
  refine go_getP (n := 23) ev8 fl_RX11_23 rfl dX11_pay_20 rfl ?_
  replace E := Option.bind_eq_some_iff.mp E; obtain ⟨v9, ev9, E⟩ := E
  refine go_getP (n := 26) ev9 fl_RX11_256 rfl dX11_pay_23 rfl ?_
  refine go_iload_n (j := 1) (n := 27) rfl rfl dX11_pay_26 rfl ?_
  refine go_iload_n (j := 2) (n := 28) rfl rfl dX11_pay_27 rfl ?_
  replace E := Option.bind_eq_some_iff.mp E; obtain ⟨a12, ea12, E⟩ := E
  obtain ⟨fa12, ga12⟩ := xrc_some ea12
  replace E := xb_some E; obtain ⟨v10, h11, ev10, E⟩ := E
  refine go_callV (y := yX5_shown) (n := 31) (st := []) (as := [vi l1, vi l2]) (stk9 := [vi v10]) (OX5_shown ev10) yw_X5_shown ci_5 ga12 wml_RX11_277 wim_X5_shown wse_X5_shown (Nat.le_of_ble_eq_true rfl) rfl ⟨Nat.le_of_ble_eq_true rfl, Nat.le_of_ble_eq_true rfl⟩ (Nat.le_of_ble_eq_true rfl) dX11_pay_28 rfl (by cases fa12; rfl) rfl ?_
  cases E
  exact go_ret (go_ireturn rfl dX11_pay_31)
theorem OXX11_pay {F : Nat} {l0 : Nat} {l1 : Int} {l2 : Int} {h hf : HP} {r : String ⊕ Int} (e : X11_pay F l0 l1 l2 h = some (r, hf)) : OkX MX11_pay [vr (some l0), vi l1, vi l2] (rI r) h hf := fun K _ _ _ => SX11_pay l0 l1 l2 h e
abbrev MX2_hasWay : MI := (RX2, cX2_hasWay, 2, (some .boolean), 2, none, "hasWay")
noncomputable def X2_hasWay_L28 (F : Nat)     (h : HP) : Option (Int × HP) :=
  some (1, h)
set_option maxRecDepth 100000 in
theorem SX2_hasWay_L28 {K : Ctx} {F : Nat} {r : Int} {hf : HP}       (h : HP) (E : X2_hasWay_L28 F    h = some (r, hf)) : Go K MX2_hasWay (QM K (some (vi r)) hf) hf 28 [] [] h := by
  unfold X2_hasWay_L28 at E
  refine go_iconst (z := 1) (n := 29) ⟨by decide, by decide⟩ dX2_hasWay_28 rfl ?_
  refine go_goto (tgt := 33) dX2_hasWay_29 rfl ?_
  cases E
  exact go_zreturn rfl (Or.inr rfl) dX2_hasWay_33
noncomputable def X2_hasWay_L16 (F : Nat)   (l0 : Nat) (l1 : Int)  (h : HP) : Option (Int × HP) :=
  if l1 = 2 then
    (xgI h (some l0) 2 18 2).bind fun v2 =>
    if v2 ≤ 0 then
      some (0, h)
    else
      X2_hasWay_L28 F h
  else
    some (0, h)
set_option maxRecDepth 100000 in
theorem SX2_hasWay_L16 {K : Ctx} {F : Nat} {r : Int} {hf : HP}     (l0 : Nat) (l1 : Int)  (h : HP) (E : X2_hasWay_L16 F   l0 l1 h = some (r, hf)) : Go K MX2_hasWay (QM K (some (vi r)) hf) hf 16 [(0, vr (some l0)), (1, vi l1)] [] h := by
  unfold X2_hasWay_L16 at E
  refine go_iload_n (j := 1) (n := 17) rfl rfl dX2_hasWay_16 rfl ?_
  refine go_iconst (z := 2) (n := 18) ⟨by decide, by decide⟩ dX2_hasWay_17 rfl ?_
  refine go_icmp_ne (tgt := 32) (n := 21) dX2_hasWay_18 rfl rfl (fun c1 => ?_) (fun c1 => ?_)
  · rw [if_neg c1] at E
    refine go_iconst (z := 0) (n := 33) ⟨by decide, by decide⟩ dX2_hasWay_32 rfl ?_
    cases E
    exact go_zreturn rfl (Or.inl rfl) dX2_hasWay_33
  · rw [if_pos c1] at E
    refine go_aload_n (j := 0) (n := 22) rfl rfl dX2_hasWay_21 rfl ?_
    replace E := Option.bind_eq_some_iff.mp E; obtain ⟨v2, ev2, E⟩ := E
    refine go_getI (n := 25) ev2 fl_RX2_18 rfl dX2_hasWay_22 rfl ?_
    refine go_if_le (tgt := 32) (n := 28) dX2_hasWay_25 rfl rfl (fun c3 => ?_) (fun c3 => ?_)
    · rw [if_pos c3] at E
      refine go_iconst (z := 0) (n := 33) ⟨by decide, by decide⟩ dX2_hasWay_32 rfl ?_
      cases E
      exact go_zreturn rfl (Or.inl rfl) dX2_hasWay_33
    · rw [if_neg c3] at E
      refine go_pick (lv' := []) [] rfl ?_
      exact SX2_hasWay_L28       _ E
noncomputable def X2_hasWay (F : Nat)   (l0 : Nat) (l1 : Int)  (h : HP) : Option (Int × HP) :=
  if l1 = 0 then
    X2_hasWay_L28 F h
  else
    if l1 = 1 then
      (xgI h (some l0) 2 18 6).bind fun v3 =>
      if 0 < v3 then
        X2_hasWay_L28 F h
      else
        X2_hasWay_L16 F l0 l1 h
    else
      X2_hasWay_L16 F l0 l1 h
set_option maxRecDepth 100000 in
theorem SX2_hasWay {K : Ctx} {F : Nat} {r : Int} {hf : HP}     (l0 : Nat) (l1 : Int)  (h : HP) (E : X2_hasWay F   l0 l1 h = some (r, hf)) : Go K MX2_hasWay (QM K (some (vi r)) hf) hf 0 [(0, vr (some l0)), (1, vi l1)] [] h := by
  unfold X2_hasWay at E
  refine go_iload_n (j := 1) (n := 1) rfl rfl dX2_hasWay_0 rfl ?_
  refine go_if_eq (tgt := 28) (n := 4) dX2_hasWay_1 rfl rfl (fun c1 => ?_) (fun c1 => ?_)
  · rw [if_pos c1] at E
    refine go_pick (lv' := []) [] rfl ?_
    exact SX2_hasWay_L28       _ E
  · rw [if_neg c1] at E
    refine go_iload_n (j := 1) (n := 5) rfl rfl dX2_hasWay_4 rfl ?_
    refine go_iconst (z := 1) (n := 6) ⟨by decide, by decide⟩ dX2_hasWay_5 rfl ?_
    refine go_icmp_ne (tgt := 16) (n := 9) dX2_hasWay_6 rfl rfl (fun c2 => ?_) (fun c2 => ?_)
    · rw [if_neg c2] at E
      exact SX2_hasWay_L16     _ _  _ E
    · rw [if_pos c2] at E
      refine go_aload_n (j := 0) (n := 10) rfl rfl dX2_hasWay_9 rfl ?_
      replace E := Option.bind_eq_some_iff.mp E; obtain ⟨v3, ev3, E⟩ := E
      refine go_getI (n := 13) ev3 fl_RX2_32 rfl dX2_hasWay_10 rfl ?_
      refine go_if_gt (tgt := 28) (n := 16) dX2_hasWay_13 rfl rfl (fun c4 => ?_) (fun c4 => ?_)
      · rw [if_pos c4] at E
        refine go_pick (lv' := []) [] rfl ?_
        exact SX2_hasWay_L28       _ E
      · rw [if_neg c4] at E
        exact SX2_hasWay_L16     _ _  _ E
theorem OX2_hasWay {F : Nat} {l0 : Nat} {l1 : Int} {h hf : HP} {r : Int} (e : X2_hasWay F l0 l1 h = some (r, hf)) : Ok MX2_hasWay [vr (some l0), vi l1] (some (vi r)) h hf := fun K _ _ _ => SX2_hasWay l0 l1 h e
