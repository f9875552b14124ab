/-! the methods, decompiled: written by dec.py -/
theorem yw_X12_sign : YW yX12_sign cX12_sign 2 (some .boolean) 1 := ⟨bw_of 2007 (by decide +kernel) rfl, bw_of 129 (by decide +kernel) rfl, ⟨by decide +kernel, by decide +kernel, by decide +kernel⟩, by decide +kernel⟩
theorem wml_RX12_178 : Cond.methodLink RX12 178 yX12_sign ∈ BW := bw_of 2004 (by decide +kernel) rfl
theorem wim_X12_sign : Cond.instanceMethod yX12_sign ∈ BW := bw_of 2006 (by decide +kernel) rfl
theorem wse_X12_sign : Cond.selects RX12 yX12_sign yX12_sign ∈ BW := bw_of 77 (by decide +kernel) rfl
theorem yw_X12_readAtom : YW yX12_readAtom cX12_readAtom 3 (some .boolean) 0 := ⟨bw_of 2028 (by decide +kernel) rfl, bw_of 129 (by decide +kernel) rfl, ⟨by decide +kernel, by decide +kernel, by decide +kernel⟩, by decide +kernel⟩
theorem wml_RX12_174 : Cond.methodLink RX12 174 yX12_readAtom ∈ BW := bw_of 2025 (by decide +kernel) rfl
theorem wim_X12_readAtom : Cond.instanceMethod yX12_readAtom ∈ BW := bw_of 2027 (by decide +kernel) rfl
theorem wse_X12_readAtom : Cond.selects RX12 yX12_readAtom yX12_readAtom ∈ BW := bw_of 82 (by decide +kernel) rfl
abbrev MX12_readPart : MI := (RX12, cX12_readPart, 2, (some .boolean), 10, none, "readPart")
noncomputable def X12_readPart (F : Nat)   (l0 : Nat)  (h : HP) : Option (Int × HP) :=
  (xrc h (some l0) 12 31).bind fun a3 =>
  xb (X12_blanks F a3 h) fun v1 h2 =>
  (xrc h2 (some l0) 12 31).bind fun a6 =>
  xb (X12_isAt F a6 48 57 h2) fun v4 h5 =>
  if v4 = 0 then
    (xrc h5 (some l0) 12 31).bind fun a28 =>
    xb (X12_readAtom F a28 h5) fun v26 h27 =>
    xz v26 h27
  else
    (xrc h5 (some l0) 12 31).bind fun a10 =>
    xb (X12_number F a10 0 999999 h5) fun v8 h9 =>
    if 0 ≤ v8 then
      (xrc h9 (some l0) 12 31).bind fun a14 =>
      xb (X12_sign F a14 42 h9) fun v12 h13 =>
      if v12 = 0 then
        (xrc h13 (some l0) 12 31).bind fun a25 =>
        xb (X12_emits F a25 0 v8 h13) fun v23 h24 =>
        some (1, h24)
      else
        (xrc h13 (some l0) 12 31).bind fun a18 =>
        xb (X12_readAtom F a18 h13) fun v16 h17 =>
        if v16 = 0 then
          some (0, h17)
        else
          (xrc h17 (some l0) 12 31).bind fun a22 =>
          xb (X12_emits F a22 5 v8 h17) fun v20 h21 =>
          some (1, h21)
    else
      some (0, h9)
set_option maxRecDepth 100000 in
theorem SX12_readPart {K : Ctx} {F : Nat} {r : Int} {hf : HP}     (l0 : Nat)  (h : HP) (E : X12_readPart F   l0 h = some (r, hf)) : Go K MX12_readPart (QM K (some (vi r)) hf) hf 0 [(0, vr (some l0))] [] h := by
  unfold X12_readPart at E
  refine go_aload_n (j := 0) (n := 1) rfl rfl dX12_readPart_0 rfl ?_
  replace E := Option.bind_eq_some_iff.mp E; obtain ⟨a3, ea3, E⟩ := E
  obtain ⟨fa3, ga3⟩ := xrc_some ea3
  replace E := xb_some E; obtain ⟨v1, h2, ev1, E⟩ := E
  refine go_callV (y := yX12_blanks) (n := 4) (st := []) (as := []) (stk9 := []) (OX12_blanks ev1) yw_X12_blanks ci_12 ga3 wml_RX12_122 wim_X12_blanks wse_X12_blanks (Nat.le_of_ble_eq_true rfl) rfl ⟨Nat.le_of_ble_eq_true rfl, Nat.le_of_ble_eq_true rfl⟩ (Nat.le_of_ble_eq_true rfl) dX12_readPart_1 rfl (by cases fa3; rfl) rfl ?_
  refine go_aload_n (j := 0) (n := 5) rfl rfl dX12_readPart_4 rfl ?_
  refine go_bipush (z := 48) (n := 7) ⟨by decide, by decide⟩ dX12_readPart_5 rfl ?_
  refine go_bipush (z := 57) (n := 9) ⟨by decide, by decide⟩ dX12_readPart_7 rfl ?_
  replace E := Option.bind_eq_some_iff.mp E; obtain ⟨a6, ea6, E⟩ := E
  obtain ⟨fa6, ga6⟩ := xrc_some ea6
  replace E := xb_some E; obtain ⟨v4, h5, ev4, E⟩ := E
  refine go_callV (y := yX12_isAt) (n := 12) (st := []) (as := [vi 48, vi 57]) (stk9 := [vi v4]) (OX12_isAt ev4) yw_X12_isAt ci_12 ga6 wml_RX12_115 wim_X12_isAt wse_X12_isAt (Nat.le_of_ble_eq_true rfl) rfl ⟨Nat.le_of_ble_eq_true rfl, Nat.le_of_ble_eq_true rfl⟩ (Nat.le_of_ble_eq_true rfl) dX12_readPart_9 rfl (by cases fa6; rfl) rfl ?_
  refine go_if_ne (tgt := 20) (n := 15) dX12_readPart_12 rfl rfl (fun c7 => ?_) (fun c7 => ?_)
  · rw [if_neg c7] at E
    refine go_aload_n (j := 0) (n := 21) rfl rfl dX12_readPart_20 rfl ?_
    refine go_iconst (z := 0) (n := 22) ⟨by decide, by decide⟩ dX12_readPart_21 rfl ?_
    refine go_ldc (z := 999999) (n := 24) ⟨by decide, by decide⟩ wk_RX12_154 dX12_readPart_22 rfl ?_
    replace E := Option.bind_eq_some_iff.mp E; obtain ⟨a10, ea10, E⟩ := E
    obtain ⟨fa10, ga10⟩ := xrc_some ea10
    replace E := xb_some E; obtain ⟨v8, h9, ev8, E⟩ := E
    refine go_callV (y := yX12_number) (n := 27) (st := []) (as := [vi 0, vi 999999]) (stk9 := [vi v8]) (OX12_number ev8) yw_X12_number ci_12 ga10 wml_RX12_155 wim_X12_number wse_X12_number (Nat.le_of_ble_eq_true rfl) rfl ⟨Nat.le_of_ble_eq_true rfl, Nat.le_of_ble_eq_true rfl⟩ (Nat.le_of_ble_eq_true rfl) dX12_readPart_24 rfl (by cases fa10; rfl) rfl ?_
    refine go_istore_n (n := 28) (lv' := [(1, vi v8), (0, vr (some l0))]) rfl dX12_readPart_27 rfl (Nat.le_of_ble_eq_true rfl) rfl ?_
    refine go_iload_n (j := 0) (n := 29) rfl rfl dX12_readPart_28 rfl ?_
    refine go_if_ge (tgt := 34) (n := 32) dX12_readPart_29 rfl rfl (fun c11 => ?_) (fun c11 => ?_)
    · rw [if_pos c11] at E
      refine go_aload_n (j := 1) (n := 35) rfl rfl dX12_readPart_34 rfl ?_
      refine go_bipush (z := 42) (n := 37) ⟨by decide, by decide⟩ dX12_readPart_35 rfl ?_
      replace E := Option.bind_eq_some_iff.mp E; obtain ⟨a14, ea14, E⟩ := E
      obtain ⟨fa14, ga14⟩ := xrc_some ea14
      replace E := xb_some E; obtain ⟨v12, h13, ev12, E⟩ := E
      refine go_callV (y := yX12_sign) (n := 40) (st := []) (as := [vi 42]) (stk9 := [vi v12]) (OX12_sign ev12) yw_X12_sign ci_12 ga14 wml_RX12_178 wim_X12_sign wse_X12_sign (Nat.le_of_ble_eq_true rfl) rfl ⟨Nat.le_of_ble_eq_true rfl, Nat.le_of_ble_eq_true rfl⟩ (Nat.le_of_ble_eq_true rfl) dX12_readPart_37 rfl (by cases fa14; rfl) rfl ?_
      refine go_if_ne (tgt := 51) (n := 43) dX12_readPart_40 rfl rfl (fun c15 => ?_) (fun c15 => ?_)
      · rw [if_neg c15] at E
        refine go_aload_n (j := 1) (n := 52) rfl rfl dX12_readPart_51 rfl ?_
        replace E := Option.bind_eq_some_iff.mp E; obtain ⟨a18, ea18, E⟩ := E
        obtain ⟨fa18, ga18⟩ := xrc_some ea18
        replace E := xb_some E; obtain ⟨v16, h17, ev16, E⟩ := E
        refine go_callV (y := yX12_readAtom) (n := 55) (st := []) (as := []) (stk9 := [vi v16]) (OX12_readAtom ev16) yw_X12_readAtom ci_12 ga18 wml_RX12_174 wim_X12_readAtom wse_X12_readAtom (Nat.le_of_ble_eq_true rfl) rfl ⟨Nat.le_of_ble_eq_true rfl, Nat.le_of_ble_eq_true rfl⟩ (Nat.le_of_ble_eq_true rfl) dX12_readPart_52 rfl (by cases fa18; rfl) rfl ?_
        refine go_if_ne (tgt := 60) (n := 58) dX12_readPart_55 rfl rfl (fun c19 => ?_) (fun c19 => ?_)
        · rw [if_neg c19] at E
          refine go_aload_n (j := 1) (n := 61) rfl rfl dX12_readPart_60 rfl ?_
          refine go_iconst (z := 5) (n := 62) ⟨by decide, by decide⟩ dX12_readPart_61 rfl ?_
          refine go_iload_n (j := 0) (n := 63) rfl rfl dX12_readPart_62 rfl ?_
          replace E := Option.bind_eq_some_iff.mp E; obtain ⟨a22, ea22, E⟩ := E
          obtain ⟨fa22, ga22⟩ := xrc_some ea22
          replace E := xb_some E; obtain ⟨v20, h21, ev20, E⟩ := E
          refine go_callV (y := yX12_emits) (n := 66) (st := []) (as := [vi 5, vi v8]) (stk9 := []) (OX12_emits ev20) yw_X12_emits ci_12 ga22 wml_RX12_158 wim_X12_emits wse_X12_emits (Nat.le_of_ble_eq_true rfl) rfl ⟨Nat.le_of_ble_eq_true rfl, Nat.le_of_ble_eq_true rfl⟩ (Nat.le_of_ble_eq_true rfl) dX12_readPart_63 rfl (by cases fa22; rfl) rfl ?_
          refine go_iconst (z := 1) (n := 67) ⟨by decide, by decide⟩ dX12_readPart_66 rfl ?_
          cases E
          exact go_zreturn rfl (Or.inr rfl) dX12_readPart_67
        · rw [if_pos c19] at E
          refine go_iconst (z := 0) (n := 59) ⟨by decide, by decide⟩ dX12_readPart_58 rfl ?_
          cases E
          exact go_zreturn rfl (Or.inl rfl) dX12_readPart_59
      · rw [if_pos c15] at E
        refine go_aload_n (j := 1) (n := 44) rfl rfl dX12_readPart_43 rfl ?_
        refine go_iconst (z := 0) (n := 45) ⟨by decide, by decide⟩ dX12_readPart_44 rfl ?_
        refine go_iload_n (j := 0) (n := 46) rfl rfl dX12_readPart_45 rfl ?_
        replace E := Option.bind_eq_some_iff.mp E; obtain ⟨a25, ea25, E⟩ := E
        obtain ⟨fa25, ga25⟩ := xrc_some ea25
        replace E := xb_some E; obtain ⟨v23, h24, ev23, E⟩ := E
        refine go_callV (y := yX12_emits) (n := 49) (st := []) (as := [vi 0, vi v8]) (stk9 := []) (OX12_emits ev23) yw_X12_emits ci_12 ga25 wml_RX12_158 wim_X12_emits wse_X12_emits (Nat.le_of_ble_eq_true rfl) rfl ⟨Nat.le_of_ble_eq_true rfl, Nat.le_of_ble_eq_true rfl⟩ (Nat.le_of_ble_eq_true rfl) dX12_readPart_46 rfl (by cases fa25; rfl) rfl ?_
        refine go_iconst (z := 1) (n := 50) ⟨by decide, by decide⟩ dX12_readPart_49 rfl ?_
        cases E
        exact go_zreturn rfl (Or.inr rfl) dX12_readPart_50
    · rw [if_neg c11] at E
      refine go_iconst (z := 0) (n := 33) ⟨by decide, by decide⟩ dX12_readPart_32 rfl ?_
      cases E
      exact go_zreturn rfl (Or.inl rfl) dX12_readPart_33
  · rw [if_pos c7] at E
    refine go_aload_n (j := 0) (n := 16) rfl rfl dX12_readPart_15 rfl ?_
    replace E := Option.bind_eq_some_iff.mp E; obtain ⟨a28, ea28, E⟩ := E
    obtain ⟨fa28, ga28⟩ := xrc_some ea28
    replace E := xb_some E; obtain ⟨v26, h27, ev26, E⟩ := E
    refine go_callV (y := yX12_readAtom) (n := 19) (st := []) (as := []) (stk9 := [vi v26]) (OX12_readAtom ev26) yw_X12_readAtom ci_12 ga28 wml_RX12_174 wim_X12_readAtom wse_X12_readAtom (Nat.le_of_ble_eq_true rfl) rfl ⟨Nat.le_of_ble_eq_true rfl, Nat.le_of_ble_eq_true rfl⟩ (Nat.le_of_ble_eq_true rfl) dX12_readPart_16 rfl (by cases fa28; rfl) rfl ?_
    unfold xz at E
    split at E
    · next c29 =>
      cases E
      exact go_zreturn rfl c29 dX12_readPart_19
    · cases E
theorem OX12_readPart {F : Nat} {l0 : Nat} {h hf : HP} {r : Int} (e : X12_readPart F l0 h = some (r, hf)) : Ok MX12_readPart [vr (some l0)] (some (vi r)) h hf := fun K _ _ _ => SX12_readPart l0 h e
theorem yw_X12_readPart : YW yX12_readPart cX12_readPart 2 (some .boolean) 0 := ⟨bw_of 2024 (by decide +kernel) rfl, bw_of 129 (by decide +kernel) rfl, ⟨by decide +kernel, by decide +kernel, by decide +kernel⟩, by decide +kernel⟩
theorem wml_RX12_181 : Cond.methodLink RX12 181 yX12_readPart ∈ BW := bw_of 2021 (by decide +kernel) rfl
theorem wim_X12_readPart : Cond.instanceMethod yX12_readPart ∈ BW := bw_of 2023 (by decide +kernel) rfl
theorem wse_X12_readPart : Cond.selects RX12 yX12_readPart yX12_readPart ∈ BW := bw_of 81 (by decide +kernel) rfl
abbrev MX12_readSum : MI := (RX12, cX12_readSum, 2, (some .boolean), 11, none, "readSum")
noncomputable def X12_readSum_L52 (F : Nat)  (rc9 : Nat → HP → Option (Int × HP)) (l0 : Nat) (s0 : Int) (s1 : Option Nat) (h : HP) : Option (Int × HP) :=
  (xrc h s1 12 31).bind fun a3 =>
  xb (X12_emits F a3 s0 0 h) fun v1 h2 =>
  rc9 l0 h2
set_option maxRecDepth 100000 in
theorem SX12_readSum_L52 {K : Ctx} {F : Nat} {r : Int} {hf : HP}   (rc9 : Nat → HP → Option (Int × HP)) (hrc9 : ∀ l0 h, rc9 l0 h = some (r, hf) → Go K MX12_readSum (QM K (some (vi r)) hf) hf 9 [(0, vr (some l0))] [] h) (l0 : Nat) (s0 : Int) (s1 : Option Nat) (h : HP) (E : X12_readSum_L52 F  rc9 l0 s0 s1 h = some (r, hf)) : Go K MX12_readSum (QM K (some (vi r)) hf) hf 52 [(0, vr (some l0))] [vi s0, vr s1] h := by
  unfold X12_readSum_L52 at E
  refine go_iconst (z := 0) (n := 53) ⟨by decide, by decide⟩ dX12_readSum_52 rfl ?_
  replace E := Option.bind_eq_some_iff.mp E; obtain ⟨a3, ea3, E⟩ := E
  obtain ⟨fa3, ga3⟩ := xrc_some ea3
  replace E := xb_some E; obtain ⟨v1, h2, ev1, E⟩ := E
  refine go_callV (y := yX12_emits) (n := 56) (st := []) (as := [vi s0, vi 0]) (stk9 := []) (OX12_emits ev1) yw_X12_emits ci_12 ga3 wml_RX12_158 wim_X12_emits wse_X12_emits (Nat.le_of_ble_eq_true rfl) rfl ⟨Nat.le_of_ble_eq_true rfl, Nat.le_of_ble_eq_true rfl⟩ (Nat.le_of_ble_eq_true rfl) dX12_readSum_53 rfl (by cases fa3; rfl) rfl ?_
  refine go_goto (tgt := 9) dX12_readSum_56 rfl ?_
  exact hrc9 _ _ E
noncomputable def X12_readSum_L31 (F : Nat)  (rc9 : Nat → HP → Option (Int × HP)) (l0 : Nat) (l1 : Int)  (h : HP) : Option (Int × HP) :=
  (xrc h (some l0) 12 31).bind fun a3 =>
  xb (X12_readPart F a3 h) fun v1 h2 =>
  if v1 = 0 then
    some (0, h2)
  else
    X12_readSum_L52 F rc9 l0 (if l1 = 0 then 7 else 6) (some l0) h2
set_option maxRecDepth 100000 in
theorem SX12_readSum_L31 {K : Ctx} {F : Nat} {r : Int} {hf : HP}   (rc9 : Nat → HP → Option (Int × HP)) (hrc9 : ∀ l0 h, rc9 l0 h = some (r, hf) → Go K MX12_readSum (QM K (some (vi r)) hf) hf 9 [(0, vr (some l0))] [] h) (l0 : Nat) (l1 : Int)  (h : HP) (E : X12_readSum_L31 F  rc9 l0 l1 h = some (r, hf)) : Go K MX12_readSum (QM K (some (vi r)) hf) hf 31 [(0, vr (some l0)), (1, vi l1)] [] h := by
  unfold X12_readSum_L31 at E
  refine go_aload_n (j := 0) (n := 32) rfl rfl dX12_readSum_31 rfl ?_
  replace E := Option.bind_eq_some_iff.mp E; obtain ⟨a3, ea3, E⟩ := E
  obtain ⟨fa3, ga3⟩ := xrc_some ea3
  replace E := xb_some E; obtain ⟨v1, h2, ev1, E⟩ := E
  refine go_callV (y := yX12_readPart) (n := 35) (st := []) (as := []) (stk9 := [vi v1]) (OX12_readPart ev1) yw_X12_readPart ci_12 ga3 wml_RX12_181 wim_X12_readPart wse_X12_readPart (Nat.le_of_ble_eq_true rfl) rfl ⟨Nat.le_of_ble_eq_true rfl, Nat.le_of_ble_eq_true rfl⟩ (Nat.le_of_ble_eq_true rfl) dX12_readSum_32 rfl (by cases fa3; rfl) rfl ?_
  refine go_if_ne (tgt := 40) (n := 38) dX12_readSum_35 rfl rfl (fun c4 => ?_) (fun c4 => ?_)
  · rw [if_neg c4] at E
    refine go_aload_n (j := 0) (n := 41) rfl rfl dX12_readSum_40 rfl ?_
    refine go_iload_n (j := 1) (n := 42) rfl rfl dX12_readSum_41 rfl ?_
    refine go_if_eq (tgt := 50) (n := 45) dX12_readSum_42 rfl rfl (fun c5 => ?_) (fun c5 => ?_)
    · simp only [if_pos c5] at E
      refine go_bipush (z := 7) (n := 52) ⟨by decide, by decide⟩ dX12_readSum_50 rfl ?_
      refine go_pick (lv' := [(0, vr (some l0))]) [0] rfl ?_
      exact SX12_readSum_L52   _ hrc9 _ _ _ _ E
    · simp only [if_neg c5] at E
      refine go_bipush (z := 6) (n := 47) ⟨by decide, by decide⟩ dX12_readSum_45 rfl ?_
      refine go_goto (tgt := 52) dX12_readSum_47 rfl ?_
      refine go_pick (lv' := [(0, vr (some l0))]) [0] rfl ?_
      exact SX12_readSum_L52   _ hrc9 _ _ _ _ E
  · rw [if_pos c4] at E
    refine go_iconst (z := 0) (n := 39) ⟨by decide, by decide⟩ dX12_readSum_38 rfl ?_
    cases E
    exact go_zreturn rfl (Or.inl rfl) dX12_readSum_39
noncomputable def X12_readSum_L9 (F : Nat)   (k : Nat) : Nat → HP → Option (Int × HP) :=
  Nat.rec (motive := fun _ => Nat → HP → Option (Int × HP)) (fun _ _ => none) (fun _ rc9 l0 h =>
    (xrc h (some l0) 12 31).bind fun a3 =>
    xb (X12_sign F a3 43 h) fun v1 h2 =>
    if v1 = 0 then
      (xrc h2 (some l0) 12 31).bind fun a7 =>
      xb (X12_sign F a7 45 h2) fun v5 h6 =>
      if v5 = 0 then
        some (1, h6)
      else
        X12_readSum_L31 F rc9 l0 v1 h6
    else
      X12_readSum_L31 F rc9 l0 v1 h2) k
theorem X12_readSum_L9_s (F : Nat)   (k : Nat) (l0 : Nat)  (h : HP) : X12_readSum_L9 F   (k + 1) l0 h =
    (xrc h (some l0) 12 31).bind fun a3 =>
    xb (X12_sign F a3 43 h) fun v1 h2 =>
    if v1 = 0 then
      (xrc h2 (some l0) 12 31).bind fun a7 =>
      xb (X12_sign F a7 45 h2) fun v5 h6 =>
      if v5 = 0 then
        some (1, h6)
      else
        X12_readSum_L31 F (X12_readSum_L9 F k) l0 v1 h6
    else
      X12_readSum_L31 F (X12_readSum_L9 F k) l0 v1 h2 := rfl
set_option maxRecDepth 100000 in
theorem SX12_readSum_L9 {K : Ctx} {F : Nat} {r : Int} {hf : HP}     : ∀ (k : Nat) (l0 : Nat)  (h : HP), X12_readSum_L9 F   k l0 h = some (r, hf) → Go K MX12_readSum (QM K (some (vi r)) hf) hf 9 [(0, vr (some l0))] [] h := by
  intro k
  induction k with
  | zero => intro l0 h E; exact nomatch E
  | succ k hrc9 =>
    intro l0 h E
    rw [X12_readSum_L9_s] at E
    refine go_aload_n (j := 0) (n := 10) rfl rfl dX12_readSum_9 rfl ?_
    refine go_bipush (z := 43) (n := 12) ⟨by decide, by decide⟩ dX12_readSum_10 rfl ?_
    replace E := Option.bind_eq_some_iff.mp E; obtain ⟨a3, ea3, E⟩ := E
    obtain ⟨fa3, ga3⟩ := xrc_some ea3
    replace E := xb_some E; obtain ⟨v1, h2, ev1, E⟩ := E
    refine go_callV (y := yX12_sign) (n := 15) (st := []) (as := [vi 43]) (stk9 := [vi v1]) (OX12_sign ev1) yw_X12_sign ci_12 ga3 wml_RX12_178 wim_X12_sign wse_X12_sign (Nat.le_of_ble_eq_true rfl) rfl ⟨Nat.le_of_ble_eq_true rfl, Nat.le_of_ble_eq_true rfl⟩ (Nat.le_of_ble_eq_true rfl) dX12_readSum_12 rfl (by cases fa3; rfl) rfl ?_
    refine go_istore_n (n := 16) (lv' := [(1, vi v1), (0, vr (some l0))]) rfl dX12_readSum_15 rfl (Nat.le_of_ble_eq_true rfl) rfl ?_
    refine go_iload_n (j := 0) (n := 17) rfl rfl dX12_readSum_16 rfl ?_
    refine go_if_ne (tgt := 31) (n := 20) dX12_readSum_17 rfl rfl (fun c4 => ?_) (fun c4 => ?_)
    · rw [if_neg c4] at E
      refine go_pick (lv' := [(0, vr (some l0)), (1, vi v1)]) [1, 0] rfl ?_
      exact SX12_readSum_L31   _ hrc9 _ _  _ E
    · rw [if_pos c4] at E
      refine go_aload_n (j := 1) (n := 21) rfl rfl dX12_readSum_20 rfl ?_
      refine go_bipush (z := 45) (n := 23) ⟨by decide, by decide⟩ dX12_readSum_21 rfl ?_
      replace E := Option.bind_eq_some_iff.mp E; obtain ⟨a7, ea7, E⟩ := E
      obtain ⟨fa7, ga7⟩ := xrc_some ea7
      replace E := xb_some E; obtain ⟨v5, h6, ev5, E⟩ := E
      refine go_callV (y := yX12_sign) (n := 26) (st := []) (as := [vi 45]) (stk9 := [vi v5]) (OX12_sign ev5) yw_X12_sign ci_12 ga7 wml_RX12_178 wim_X12_sign wse_X12_sign (Nat.le_of_ble_eq_true rfl) rfl ⟨Nat.le_of_ble_eq_true rfl, Nat.le_of_ble_eq_true rfl⟩ (Nat.le_of_ble_eq_true rfl) dX12_readSum_23 rfl (by cases fa7; rfl) rfl ?_
      refine go_if_ne (tgt := 31) (n := 29) dX12_readSum_26 rfl rfl (fun c8 => ?_) (fun c8 => ?_)
      · rw [if_neg c8] at E
        refine go_pick (lv' := [(0, vr (some l0)), (1, vi v1)]) [1, 0] rfl ?_
        exact SX12_readSum_L31   _ hrc9 _ _  _ E
      · rw [if_pos c8] at E
        refine go_iconst (z := 1) (n := 30) ⟨by decide, by decide⟩ dX12_readSum_29 rfl ?_
        cases E
        exact go_zreturn rfl (Or.inr rfl) dX12_readSum_30
noncomputable def X12_readSum (F : Nat)   (l0 : Nat)  (h : HP) : Option (Int × HP) :=
  (xrc h (some l0) 12 31).bind fun a3 =>
  xb (X12_readPart F a3 h) fun v1 h2 =>
  if v1 = 0 then
    some (0, h2)
  else
    X12_readSum_L9 F F l0 h2
set_option maxRecDepth 100000 in
theorem SX12_readSum {K : Ctx} {F : Nat} {r : Int} {hf : HP}     (l0 : Nat)  (h : HP) (E : X12_readSum F   l0 h = some (r, hf)) : Go K MX12_readSum (QM K (some (vi r)) hf) hf 0 [(0, vr (some l0))] [] h := by
  unfold X12_readSum at E
  refine go_aload_n (j := 0) (n := 1) rfl rfl dX12_readSum_0 rfl ?_
  replace E := Option.bind_eq_some_iff.mp E; obtain ⟨a3, ea3, E⟩ := E
  obtain ⟨fa3, ga3⟩ := xrc_some ea3
  replace E := xb_some E; obtain ⟨v1, h2, ev1, E⟩ := E
  refine go_callV (y := yX12_readPart) (n := 4) (st := []) (as := []) (stk9 := [vi v1]) (OX12_readPart ev1) yw_X12_readPart ci_12 ga3 wml_RX12_181 wim_X12_readPart wse_X12_readPart (Nat.le_of_ble_eq_true rfl) rfl ⟨Nat.le_of_ble_eq_true rfl, Nat.le_of_ble_eq_true rfl⟩ (Nat.le_of_ble_eq_true rfl) dX12_readSum_1 rfl (by cases fa3; rfl) rfl ?_
  refine go_if_ne (tgt := 9) (n := 7) dX12_readSum_4 rfl rfl (fun c4 => ?_) (fun c4 => ?_)
  · rw [if_neg c4] at E
    exact SX12_readSum_L9     F _ _ E
  · rw [if_pos c4] at E
    refine go_iconst (z := 0) (n := 8) ⟨by decide, by decide⟩ dX12_readSum_7 rfl ?_
    cases E
    exact go_zreturn rfl (Or.inl rfl) dX12_readSum_8
theorem OX12_readSum {F : Nat} {l0 : Nat} {h hf : HP} {r : Int} (e : X12_readSum F l0 h = some (r, hf)) : Ok MX12_readSum [vr (some l0)] (some (vi r)) h hf := fun K _ _ _ => SX12_readSum l0 h e
abbrev MX12_readAllOf (dd : Nat) : MI := (RX12, cX12_readAllOf, 1, (some .boolean), 12 + dd, none, "readAllOf")
abbrev MX12_readCond (dd : Nat) : MI := (RX12, cX12_readCond, 1, (some .boolean), 12 + dd, none, "readCond")
abbrev MX12_readTest (dd : Nat) : MI := (RX12, cX12_readTest, 2, (some .boolean), 12 + dd, none, "readTest")
theorem yw_X12_readTest : YW yX12_readTest cX12_readTest 2 (some .boolean) 0 := ⟨bw_of 2003 (by decide +kernel) rfl, bw_of 129 (by decide +kernel) rfl, ⟨by decide +kernel, by decide +kernel, by decide +kernel⟩, by decide +kernel⟩
theorem wml_RX12_195 : Cond.methodLink RX12 195 yX12_readTest ∈ BW := bw_of 2000 (by decide +kernel) rfl
theorem wim_X12_readTest : Cond.instanceMethod yX12_readTest ∈ BW := bw_of 2002 (by decide +kernel) rfl
theorem wse_X12_readTest : Cond.selects RX12 yX12_readTest yX12_readTest ∈ BW := bw_of 76 (by decide +kernel) rfl
theorem yw_X12_passes : YW yX12_passes cX12_passes 2 (some .boolean) 1 := ⟨bw_of 2012 (by decide +kernel) rfl, bw_of 129 (by decide +kernel) rfl, ⟨by decide +kernel, by decide +kernel, by decide +kernel⟩, by decide +kernel⟩
theorem wml_RX12_192 : Cond.methodLink RX12 192 yX12_passes ∈ BW := bw_of 2009 (by decide +kernel) rfl
theorem wim_X12_passes : Cond.instanceMethod yX12_passes ∈ BW := bw_of 2011 (by decide +kernel) rfl
theorem wse_X12_passes : Cond.selects RX12 yX12_passes yX12_passes ∈ BW := bw_of 78 (by decide +kernel) rfl
noncomputable def X12_readAllOf_L9 (F : Nat) (cl_readAllOf : Nat → HP → Option (Int × HP)) (cl_readCond : Nat → HP → Option (Int × HP)) (cl_readTest : Nat → HP → Option (Int × HP))  (k : Nat) : Nat → HP → Option (Int × HP) :=
  Nat.rec (motive := fun _ => Nat → HP → Option (Int × HP)) (fun _ _ => none) (fun _ rc9 l0 h =>
    (xrc h (some l0) 12 31).bind fun a3 =>
    xb (X12_passes F a3 (some 1000013) h) fun v1 h2 =>
    if v1 = 0 then
      some (1, h2)
    else
      (xrc h2 (some l0) 12 31).bind fun a7 =>
      xb (cl_readTest a7 h2) fun v5 h6 =>
      if v5 = 0 then
        some (0, h6)
      else
        (xrc h6 (some l0) 12 31).bind fun a11 =>
        xb (X12_emits F a11 11 0 h6) fun v9 h10 =>
        rc9 l0 h10) k
theorem X12_readAllOf_L9_s (F : Nat) (cl_readAllOf : Nat → HP → Option (Int × HP)) (cl_readCond : Nat → HP → Option (Int × HP)) (cl_readTest : Nat → HP → Option (Int × HP))  (k : Nat) (l0 : Nat)  (h : HP) : X12_readAllOf_L9 F cl_readAllOf cl_readCond cl_readTest  (k + 1) l0 h =
    (xrc h (some l0) 12 31).bind fun a3 =>
    xb (X12_passes F a3 (some 1000013) h) fun v1 h2 =>
    if v1 = 0 then
      some (1, h2)
    else
      (xrc h2 (some l0) 12 31).bind fun a7 =>
      xb (cl_readTest a7 h2) fun v5 h6 =>
      if v5 = 0 then
        some (0, h6)
      else
        (xrc h6 (some l0) 12 31).bind fun a11 =>
        xb (X12_emits F a11 11 0 h6) fun v9 h10 =>
        (X12_readAllOf_L9 F cl_readAllOf cl_readCond cl_readTest k) l0 h10 := rfl
set_option maxRecDepth 100000 in
theorem SX12_readAllOf_L9 {dd : Nat} {K : Ctx} {F : Nat} {r : Int} {hf : HP} (cl_readAllOf : Nat → HP → Option (Int × HP)) (cl_readCond : Nat → HP → Option (Int × HP)) (cl_readTest : Nat → HP → Option (Int × HP)) (hcl_readAllOf : ∀ a0 h9 r9 f9, cl_readAllOf a0 h9 = some (r9, f9) → Ok (MX12_readAllOf dd) [vr (some a0)] (some (vi r9)) h9 f9) (hcl_readCond : ∀ a0 h9 r9 f9, cl_readCond a0 h9 = some (r9, f9) → Ok (MX12_readCond dd) [vr (some a0)] (some (vi r9)) h9 f9) (hcl_readTest : ∀ a0 h9 r9 f9, cl_readTest a0 h9 = some (r9, f9) → Ok (MX12_readTest dd) [vr (some a0)] (some (vi r9)) h9 f9)   : ∀ (k : Nat) (l0 : Nat)  (h : HP), X12_readAllOf_L9 F cl_readAllOf cl_readCond cl_readTest  k l0 h = some (r, hf) → Go K (MX12_readAllOf (dd + 1)) (QM K (some (vi r)) hf) hf 9 [(0, vr (some l0))] [] h := by
  intro k
  induction k with
  | zero => intro l0 h E; exact nomatch E
  | succ k hrc9 =>
    intro l0 h E
    rw [X12_readAllOf_L9_s] at E
    refine go_aload_n (j := 0) (n := 10) rfl rfl dX12_readAllOf_9 rfl ?_
    refine go_ldcS (j := 13) (n := 12) rfl rfl dX12_readAllOf_10 rfl ?_
    replace E := Option.bind_eq_some_iff.mp E; obtain ⟨a3, ea3, E⟩ := E
    obtain ⟨fa3, ga3⟩ := xrc_some ea3
    replace E := xb_some E; obtain ⟨v1, h2, ev1, E⟩ := E
    refine go_callV (y := yX12_passes) (n := 15) (st := []) (as := [vr (some 1000013)]) (stk9 := [vi v1]) (OX12_passes ev1) yw_X12_passes ci_12 ga3 wml_RX12_192 wim_X12_passes wse_X12_passes (Nat.le_of_ble_eq_true rfl) rfl (by first | exact ⟨Nat.le_of_ble_eq_true rfl, Nat.le_of_ble_eq_true rfl⟩ | (refine ⟨?_, ?_⟩ <;> simp only [MX12_readAllOf, MX12_readCond, MX12_readTest] <;> omega)) (Nat.le_of_ble_eq_true rfl) dX12_readAllOf_12 rfl (by cases fa3; rfl) rfl ?_
    refine go_if_eq (tgt := 37) (n := 18) dX12_readAllOf_15 rfl rfl (fun c4 => ?_) (fun c4 => ?_)
    · rw [if_pos c4] at E
      refine go_iconst (z := 1) (n := 38) ⟨by decide, by decide⟩ dX12_readAllOf_37 rfl ?_
      cases E
      exact go_zreturn rfl (Or.inr rfl) dX12_readAllOf_38
    · rw [if_neg c4] at E
      refine go_aload_n (j := 0) (n := 19) rfl rfl dX12_readAllOf_18 rfl ?_
      replace E := Option.bind_eq_some_iff.mp E; obtain ⟨a7, ea7, E⟩ := E
      obtain ⟨fa7, ga7⟩ := xrc_some ea7
      replace E := xb_some E; obtain ⟨v5, h6, ev5, E⟩ := E
      refine go_callV (y := yX12_readTest) (n := 22) (st := []) (as := []) (stk9 := [vi v5]) (hcl_readTest _ _ _ _ ev5) yw_X12_readTest ci_12 ga7 wml_RX12_195 wim_X12_readTest wse_X12_readTest (Nat.le_of_ble_eq_true rfl) rfl (by first | exact ⟨Nat.le_of_ble_eq_true rfl, Nat.le_of_ble_eq_true rfl⟩ | (refine ⟨?_, ?_⟩ <;> simp only [MX12_readAllOf, MX12_readCond, MX12_readTest] <;> omega)) (Nat.le_of_ble_eq_true rfl) dX12_readAllOf_19 rfl (by cases fa7; rfl) rfl ?_
      refine go_if_ne (tgt := 27) (n := 25) dX12_readAllOf_22 rfl rfl (fun c8 => ?_) (fun c8 => ?_)
      · rw [if_neg c8] at E
        refine go_aload_n (j := 0) (n := 28) rfl rfl dX12_readAllOf_27 rfl ?_
        refine go_bipush (z := 11) (n := 30) ⟨by decide, by decide⟩ dX12_readAllOf_28 rfl ?_
        refine go_iconst (z := 0) (n := 31) ⟨by decide, by decide⟩ dX12_readAllOf_30 rfl ?_
        replace E := Option.bind_eq_some_iff.mp E; obtain ⟨a11, ea11, E⟩ := E
        obtain ⟨fa11, ga11⟩ := xrc_some ea11
        replace E := xb_some E; obtain ⟨v9, h10, ev9, E⟩ := E
        refine go_callV (y := yX12_emits) (n := 34) (st := []) (as := [vi 11, vi 0]) (stk9 := []) (OX12_emits ev9) yw_X12_emits ci_12 ga11 wml_RX12_158 wim_X12_emits wse_X12_emits (Nat.le_of_ble_eq_true rfl) rfl (by first | exact ⟨Nat.le_of_ble_eq_true rfl, Nat.le_of_ble_eq_true rfl⟩ | (refine ⟨?_, ?_⟩ <;> simp only [MX12_readAllOf, MX12_readCond, MX12_readTest] <;> omega)) (Nat.le_of_ble_eq_true rfl) dX12_readAllOf_31 rfl (by cases fa11; rfl) rfl ?_
        refine go_goto (tgt := 9) dX12_readAllOf_34 rfl ?_
        exact hrc9 _ _ E
      · rw [if_pos c8] at E
        refine go_iconst (z := 0) (n := 26) ⟨by decide, by decide⟩ dX12_readAllOf_25 rfl ?_
        cases E
        exact go_zreturn rfl (Or.inl rfl) dX12_readAllOf_26
noncomputable def X12_readAllOf (F : Nat) (cl_readAllOf : Nat → HP → Option (Int × HP)) (cl_readCond : Nat → HP → Option (Int × HP)) (cl_readTest : Nat → HP → Option (Int × HP))  (l0 : Nat)  (h : HP) : Option (Int × HP) :=
  (xrc h (some l0) 12 31).bind fun a3 =>
  xb (cl_readTest a3 h) fun v1 h2 =>
  if v1 = 0 then
    some (0, h2)
  else
    X12_readAllOf_L9 F cl_readAllOf cl_readCond cl_readTest F l0 h2
set_option maxRecDepth 100000 in
theorem SX12_readAllOf {dd : Nat} {K : Ctx} {F : Nat} {r : Int} {hf : HP} (cl_readAllOf : Nat → HP → Option (Int × HP)) (cl_readCond : Nat → HP → Option (Int × HP)) (cl_readTest : Nat → HP → Option (Int × HP)) (hcl_readAllOf : ∀ a0 h9 r9 f9, cl_readAllOf a0 h9 = some (r9, f9) → Ok (MX12_readAllOf dd) [vr (some a0)] (some (vi r9)) h9 f9) (hcl_readCond : ∀ a0 h9 r9 f9, cl_readCond a0 h9 = some (r9, f9) → Ok (MX12_readCond dd) [vr (some a0)] (some (vi r9)) h9 f9) (hcl_readTest : ∀ a0 h9 r9 f9, cl_readTest a0 h9 = some (r9, f9) → Ok (MX12_readTest dd) [vr (some a0)] (some (vi r9)) h9 f9)   (l0 : Nat)  (h : HP) (E : X12_readAllOf F cl_readAllOf cl_readCond cl_readTest  l0 h = some (r, hf)) : Go K (MX12_readAllOf (dd + 1)) (QM K (some (vi r)) hf) hf 0 [(0, vr (some l0))] [] h := by
  unfold X12_readAllOf at E
  refine go_aload_n (j := 0) (n := 1) rfl rfl dX12_readAllOf_0 rfl ?_
  replace E := Option.bind_eq_some_iff.mp E; obtain ⟨a3, ea3, E⟩ := E
  obtain ⟨fa3, ga3⟩ := xrc_some ea3
  replace E := xb_some E; obtain ⟨v1, h2, ev1, E⟩ := E
  refine go_callV (y := yX12_readTest) (n := 4) (st := []) (as := []) (stk9 := [vi v1]) (hcl_readTest _ _ _ _ ev1) yw_X12_readTest ci_12 ga3 wml_RX12_195 wim_X12_readTest wse_X12_readTest (Nat.le_of_ble_eq_true rfl) rfl (by first | exact ⟨Nat.le_of_ble_eq_true rfl, Nat.le_of_ble_eq_true rfl⟩ | (refine ⟨?_, ?_⟩ <;> simp only [MX12_readAllOf, MX12_readCond, MX12_readTest] <;> omega)) (Nat.le_of_ble_eq_true rfl) dX12_readAllOf_1 rfl (by cases fa3; rfl) rfl ?_
  refine go_if_ne (tgt := 9) (n := 7) dX12_readAllOf_4 rfl rfl (fun c4 => ?_) (fun c4 => ?_)
  · rw [if_neg c4] at E
    exact SX12_readAllOf_L9 cl_readAllOf cl_readCond cl_readTest hcl_readAllOf hcl_readCond hcl_readTest   F _ _ E
  · rw [if_pos c4] at E
    refine go_iconst (z := 0) (n := 8) ⟨by decide, by decide⟩ dX12_readAllOf_7 rfl ?_
    cases E
    exact go_zreturn rfl (Or.inl rfl) dX12_readAllOf_8
theorem yw_X12_readAllOf : YW yX12_readAllOf cX12_readAllOf 1 (some .boolean) 0 := ⟨bw_of 1999 (by decide +kernel) rfl, bw_of 129 (by decide +kernel) rfl, ⟨by decide +kernel, by decide +kernel, by decide +kernel⟩, by decide +kernel⟩
theorem wml_RX12_203 : Cond.methodLink RX12 203 yX12_readAllOf ∈ BW := bw_of 1996 (by decide +kernel) rfl
theorem wim_X12_readAllOf : Cond.instanceMethod yX12_readAllOf ∈ BW := bw_of 1998 (by decide +kernel) rfl
theorem wse_X12_readAllOf : Cond.selects RX12 yX12_readAllOf yX12_readAllOf ∈ BW := bw_of 75 (by decide +kernel) rfl
noncomputable def X12_readCond_L9 (F : Nat) (cl_readAllOf : Nat → HP → Option (Int × HP)) (cl_readCond : Nat → HP → Option (Int × HP)) (cl_readTest : Nat → HP → Option (Int × HP))  (k : Nat) : Nat → HP → Option (Int × HP) :=
  Nat.rec (motive := fun _ => Nat → HP → Option (Int × HP)) (fun _ _ => none) (fun _ rc9 l0 h =>
    (xrc h (some l0) 12 31).bind fun a3 =>
    xb (X12_passes F a3 (some 1000014) h) fun v1 h2 =>
    if v1 = 0 then
      some (1, h2)
    else
      (xrc h2 (some l0) 12 31).bind fun a7 =>
      xb (cl_readAllOf a7 h2) fun v5 h6 =>
      if v5 = 0 then
        some (0, h6)
      else
        (xrc h6 (some l0) 12 31).bind fun a11 =>
        xb (X12_emits F a11 12 0 h6) fun v9 h10 =>
        rc9 l0 h10) k
theorem X12_readCond_L9_s (F : Nat) (cl_readAllOf : Nat → HP → Option (Int × HP)) (cl_readCond : Nat → HP → Option (Int × HP)) (cl_readTest : Nat → HP → Option (Int × HP))  (k : Nat) (l0 : Nat)  (h : HP) : X12_readCond_L9 F cl_readAllOf cl_readCond cl_readTest  (k + 1) l0 h =
    (xrc h (some l0) 12 31).bind fun a3 =>
    xb (X12_passes F a3 (some 1000014) h) fun v1 h2 =>
    if v1 = 0 then
      some (1, h2)
    else
      (xrc h2 (some l0) 12 31).bind fun a7 =>
      xb (cl_readAllOf a7 h2) fun v5 h6 =>
      if v5 = 0 then
        some (0, h6)
      else
        (xrc h6 (some l0) 12 31).bind fun a11 =>
        xb (X12_emits F a11 12 0 h6) fun v9 h10 =>
        (X12_readCond_L9 F cl_readAllOf cl_readCond cl_readTest k) l0 h10 := rfl
set_option maxRecDepth 100000 in
theorem SX12_readCond_L9 {dd : Nat} {K : Ctx} {F : Nat} {r : Int} {hf : HP} (cl_readAllOf : Nat → HP → Option (Int × HP)) (cl_readCond : Nat → HP → Option (Int × HP)) (cl_readTest : Nat → HP → Option (Int × HP)) (hcl_readAllOf : ∀ a0 h9 r9 f9, cl_readAllOf a0 h9 = some (r9, f9) → Ok (MX12_readAllOf dd) [vr (some a0)] (some (vi r9)) h9 f9) (hcl_readCond : ∀ a0 h9 r9 f9, cl_readCond a0 h9 = some (r9, f9) → Ok (MX12_readCond dd) [vr (some a0)] (some (vi r9)) h9 f9) (hcl_readTest : ∀ a0 h9 r9 f9, cl_readTest a0 h9 = some (r9, f9) → Ok (MX12_readTest dd) [vr (some a0)] (some (vi r9)) h9 f9)   : ∀ (k : Nat) (l0 : Nat)  (h : HP), X12_readCond_L9 F cl_readAllOf cl_readCond cl_readTest  k l0 h = some (r, hf) → Go K (MX12_readCond (dd + 1)) (QM K (some (vi r)) hf) hf 9 [(0, vr (some l0))] [] h := by
  intro k
  induction k with
  | zero => intro l0 h E; exact nomatch E
  | succ k hrc9 =>
    intro l0 h E
    rw [X12_readCond_L9_s] at E
    refine go_aload_n (j := 0) (n := 10) rfl rfl dX12_readCond_9 rfl ?_
    refine go_ldcS (j := 14) (n := 12) rfl rfl dX12_readCond_10 rfl ?_
    replace E := Option.bind_eq_some_iff.mp E; obtain ⟨a3, ea3, E⟩ := E
    obtain ⟨fa3, ga3⟩ := xrc_some ea3
    replace E := xb_some E; obtain ⟨v1, h2, ev1, E⟩ := E
    refine go_callV (y := yX12_passes) (n := 15) (st := []) (as := [vr (some 1000014)]) (stk9 := [vi v1]) (OX12_passes ev1) yw_X12_passes ci_12 ga3 wml_RX12_192 wim_X12_passes wse_X12_passes (Nat.le_of_ble_eq_true rfl) rfl (by first | exact ⟨Nat.le_of_ble_eq_true rfl, Nat.le_of_ble_eq_true rfl⟩ | (refine ⟨?_, ?_⟩ <;> simp only [MX12_readAllOf, MX12_readCond, MX12_readTest] <;> omega)) (Nat.le_of_ble_eq_true rfl) dX12_readCond_12 rfl (by cases fa3; rfl) rfl ?_
    refine go_if_eq (tgt := 37) (n := 18) dX12_readCond_15 rfl rfl (fun c4 => ?_) (fun c4 => ?_)
    · rw [if_pos c4] at E
      refine go_iconst (z := 1) (n := 38) ⟨by decide, by decide⟩ dX12_readCond_37 rfl ?_
      cases E
      exact go_zreturn rfl (Or.inr rfl) dX12_readCond_38
    · rw [if_neg c4] at E
      refine go_aload_n (j := 0) (n := 19) rfl rfl dX12_readCond_18 rfl ?_
      replace E := Option.bind_eq_some_iff.mp E; obtain ⟨a7, ea7, E⟩ := E
      obtain ⟨fa7, ga7⟩ := xrc_some ea7
      replace E := xb_some E; obtain ⟨v5, h6, ev5, E⟩ := E
      refine go_callV (y := yX12_readAllOf) (n := 22) (st := []) (as := []) (stk9 := [vi v5]) (hcl_readAllOf _ _ _ _ ev5) yw_X12_readAllOf ci_12 ga7 wml_RX12_203 wim_X12_readAllOf wse_X12_readAllOf (Nat.le_of_ble_eq_true rfl) rfl (by first | exact ⟨Nat.le_of_ble_eq_true rfl, Nat.le_of_ble_eq_true rfl⟩ | (refine ⟨?_, ?_⟩ <;> simp only [MX12_readAllOf, MX12_readCond, MX12_readTest] <;> omega)) (Nat.le_of_ble_eq_true rfl) dX12_readCond_19 rfl (by cases fa7; rfl) rfl ?_
      refine go_if_ne (tgt := 27) (n := 25) dX12_readCond_22 rfl rfl (fun c8 => ?_) (fun c8 => ?_)
      · rw [if_neg c8] at E
        refine go_aload_n (j := 0) (n := 28) rfl rfl dX12_readCond_27 rfl ?_
        refine go_bipush (z := 12) (n := 30) ⟨by decide, by decide⟩ dX12_readCond_28 rfl ?_
        refine go_iconst (z := 0) (n := 31) ⟨by decide, by decide⟩ dX12_readCond_30 rfl ?_
        replace E := Option.bind_eq_some_iff.mp E; obtain ⟨a11, ea11, E⟩ := E
        obtain ⟨fa11, ga11⟩ := xrc_some ea11
        replace E := xb_some E; obtain ⟨v9, h10, ev9, E⟩ := E
        refine go_callV (y := yX12_emits) (n := 34) (st := []) (as := [vi 12, vi 0]) (stk9 := []) (OX12_emits ev9) yw_X12_emits ci_12 ga11 wml_RX12_158 wim_X12_emits wse_X12_emits (Nat.le_of_ble_eq_true rfl) rfl (by first | exact ⟨Nat.le_of_ble_eq_true rfl, Nat.le_of_ble_eq_true rfl⟩ | (refine ⟨?_, ?_⟩ <;> simp only [MX12_readAllOf, MX12_readCond, MX12_readTest] <;> omega)) (Nat.le_of_ble_eq_true rfl) dX12_readCond_31 rfl (by cases fa11; rfl) rfl ?_
        refine go_goto (tgt := 9) dX12_readCond_34 rfl ?_
        exact hrc9 _ _ E
      · rw [if_pos c8] at E
        refine go_iconst (z := 0) (n := 26) ⟨by decide, by decide⟩ dX12_readCond_25 rfl ?_
        cases E
        exact go_zreturn rfl (Or.inl rfl) dX12_readCond_26
noncomputable def X12_readCond (F : Nat) (cl_readAllOf : Nat → HP → Option (Int × HP)) (cl_readCond : Nat → HP → Option (Int × HP)) (cl_readTest : Nat → HP → Option (Int × HP))  (l0 : Nat)  (h : HP) : Option (Int × HP) :=
  (xrc h (some l0) 12 31).bind fun a3 =>
  xb (cl_readAllOf a3 h) fun v1 h2 =>
  if v1 = 0 then
    some (0, h2)
  else
    X12_readCond_L9 F cl_readAllOf cl_readCond cl_readTest F l0 h2
set_option maxRecDepth 100000 in
theorem SX12_readCond {dd : Nat} {K : Ctx} {F : Nat} {r : Int} {hf : HP} (cl_readAllOf : Nat → HP → Option (Int × HP)) (cl_readCond : Nat → HP → Option (Int × HP)) (cl_readTest : Nat → HP → Option (Int × HP)) (hcl_readAllOf : ∀ a0 h9 r9 f9, cl_readAllOf a0 h9 = some (r9, f9) → Ok (MX12_readAllOf dd) [vr (some a0)] (some (vi r9)) h9 f9) (hcl_readCond : ∀ a0 h9 r9 f9, cl_readCond a0 h9 = some (r9, f9) → Ok (MX12_readCond dd) [vr (some a0)] (some (vi r9)) h9 f9) (hcl_readTest : ∀ a0 h9 r9 f9, cl_readTest a0 h9 = some (r9, f9) → Ok (MX12_readTest dd) [vr (some a0)] (some (vi r9)) h9 f9)   (l0 : Nat)  (h : HP) (E : X12_readCond F cl_readAllOf cl_readCond cl_readTest  l0 h = some (r, hf)) : Go K (MX12_readCond (dd + 1)) (QM K (some (vi r)) hf) hf 0 [(0, vr (some l0))] [] h := by
  unfold X12_readCond at E
  refine go_aload_n (j := 0) (n := 1) rfl rfl dX12_readCond_0 rfl ?_
  replace E := Option.bind_eq_some_iff.mp E; obtain ⟨a3, ea3, E⟩ := E
  obtain ⟨fa3, ga3⟩ := xrc_some ea3
  replace E := xb_some E; obtain ⟨v1, h2, ev1, E⟩ := E
  refine go_callV (y := yX12_readAllOf) (n := 4) (st := []) (as := []) (stk9 := [vi v1]) (hcl_readAllOf _ _ _ _ ev1) yw_X12_readAllOf ci_12 ga3 wml_RX12_203 wim_X12_readAllOf wse_X12_readAllOf (Nat.le_of_ble_eq_true rfl) rfl (by first | exact ⟨Nat.le_of_ble_eq_true rfl, Nat.le_of_ble_eq_true rfl⟩ | (refine ⟨?_, ?_⟩ <;> simp only [MX12_readAllOf, MX12_readCond, MX12_readTest] <;> omega)) (Nat.le_of_ble_eq_true rfl) dX12_readCond_1 rfl (by cases fa3; rfl) rfl ?_
  refine go_if_ne (tgt := 9) (n := 7) dX12_readCond_4 rfl rfl (fun c4 => ?_) (fun c4 => ?_)
  · rw [if_neg c4] at E
    exact SX12_readCond_L9 cl_readAllOf cl_readCond cl_readTest hcl_readAllOf hcl_readCond hcl_readTest   F _ _ E
  · rw [if_pos c4] at E
    refine go_iconst (z := 0) (n := 8) ⟨by decide, by decide⟩ dX12_readCond_7 rfl ?_
    cases E
    exact go_zreturn rfl (Or.inl rfl) dX12_readCond_8
theorem yw_X12_readSum : YW yX12_readSum cX12_readSum 2 (some .boolean) 0 := ⟨bw_of 2020 (by decide +kernel) rfl, bw_of 129 (by decide +kernel) rfl, ⟨by decide +kernel, by decide +kernel, by decide +kernel⟩, by decide +kernel⟩
theorem wml_RX12_198 : Cond.methodLink RX12 198 yX12_readSum ∈ BW := bw_of 2017 (by decide +kernel) rfl
theorem wim_X12_readSum : Cond.instanceMethod yX12_readSum ∈ BW := bw_of 2019 (by decide +kernel) rfl
theorem wse_X12_readSum : Cond.selects RX12 yX12_readSum yX12_readSum ∈ BW := bw_of 80 (by decide +kernel) rfl
theorem fl_RX12_184 : FL RX12 184 12 31 9 false := ⟨RX12, TX12, ci_12, by decide, bw_of 1762 (by decide +kernel) rfl, rfl, rfl⟩
theorem yw_X12_readCond : YW yX12_readCond cX12_readCond 1 (some .boolean) 0 := ⟨bw_of 1995 (by decide +kernel) rfl, bw_of 129 (by decide +kernel) rfl, ⟨by decide +kernel, by decide +kernel, by decide +kernel⟩, by decide +kernel⟩
theorem wml_RX12_187 : Cond.methodLink RX12 187 yX12_readCond ∈ BW := bw_of 1992 (by decide +kernel) rfl
theorem wim_X12_readCond : Cond.instanceMethod yX12_readCond ∈ BW := bw_of 1994 (by decide +kernel) rfl
theorem wse_X12_readCond : Cond.selects RX12 yX12_readCond yX12_readCond ∈ BW := bw_of 74 (by decide +kernel) rfl
noncomputable def X12_readTest_L164 (F : Nat) (cl_readAllOf : Nat → HP → Option (Int × HP)) (cl_readCond : Nat → HP → Option (Int × HP)) (cl_readTest : Nat → HP → Option (Int × HP))   (s0 : Int) (s1 : Option Nat) (h : HP) : Option (Int × HP) :=
  (xrc h s1 12 31).bind fun a3 =>
  xb (X12_emits F a3 s0 0 h) fun v1 h2 =>
  some (1, h2)
set_option maxRecDepth 100000 in
theorem SX12_readTest_L164 {dd : Nat} {K : Ctx} {F : Nat} {r : Int} {hf : HP} (cl_readAllOf : Nat → HP → Option (Int × HP)) (cl_readCond : Nat → HP → Option (Int × HP)) (cl_readTest : Nat → HP → Option (Int × HP)) (hcl_readAllOf : ∀ a0 h9 r9 f9, cl_readAllOf a0 h9 = some (r9, f9) → Ok (MX12_readAllOf dd) [vr (some a0)] (some (vi r9)) h9 f9) (hcl_readCond : ∀ a0 h9 r9 f9, cl_readCond a0 h9 = some (r9, f9) → Ok (MX12_readCond dd) [vr (some a0)] (some (vi r9)) h9 f9) (hcl_readTest : ∀ a0 h9 r9 f9, cl_readTest a0 h9 = some (r9, f9) → Ok (MX12_readTest dd) [vr (some a0)] (some (vi r9)) h9 f9)    (s0 : Int) (s1 : Option Nat) (h : HP) (E : X12_readTest_L164 F cl_readAllOf cl_readCond cl_readTest  s0 s1 h = some (r, hf)) : Go K (MX12_readTest (dd + 1)) (QM K (some (vi r)) hf) hf 164 [] [vi s0, vr s1] h := by
  unfold X12_readTest_L164 at E
  refine go_iconst (z := 0) (n := 165) ⟨by decide, by decide⟩ dX12_readTest_164 rfl ?_
  replace E := Option.bind_eq_some_iff.mp E; obtain ⟨a3, ea3, E⟩ := E
  obtain ⟨fa3, ga3⟩ := xrc_some ea3
  replace E := xb_some E; obtain ⟨v1, h2, ev1, E⟩ := E
  refine go_callV (y := yX12_emits) (n := 168) (st := []) (as := [vi s0, vi 0]) (stk9 := []) (OX12_emits ev1) yw_X12_emits ci_12 ga3 wml_RX12_158 wim_X12_emits wse_X12_emits (Nat.le_of_ble_eq_true rfl) rfl (by first | exact ⟨Nat.le_of_ble_eq_true rfl, Nat.le_of_ble_eq_true rfl⟩ | (refine ⟨?_, ?_⟩ <;> simp only [MX12_readAllOf, MX12_readCond, MX12_readTest] <;> omega)) (Nat.le_of_ble_eq_true rfl) dX12_readTest_165 rfl (by cases fa3; rfl) rfl ?_
  refine go_iconst (z := 1) (n := 169) ⟨by decide, by decide⟩ dX12_readTest_168 rfl ?_
  cases E
  exact go_zreturn rfl (Or.inr rfl) dX12_readTest_169
noncomputable def X12_readTest_L143 (F : Nat) (cl_readAllOf : Nat → HP → Option (Int × HP)) (cl_readCond : Nat → HP → Option (Int × HP)) (cl_readTest : Nat → HP → Option (Int × HP))  (l0 : Nat) (l1 : Int)  (h : HP) : Option (Int × HP) :=
  (xrc h (some l0) 12 31).bind fun a3 =>
  xb (X12_readSum F a3 h) fun v1 h2 =>
  if v1 = 0 then
    some (0, h2)
  else
    X12_readTest_L164 F cl_readAllOf cl_readCond cl_readTest (if l1 = 0 then 9 else 8) (some l0) h2
set_option maxRecDepth 100000 in
theorem SX12_readTest_L143 {dd : Nat} {K : Ctx} {F : Nat} {r : Int} {hf : HP} (cl_readAllOf : Nat → HP → Option (Int × HP)) (cl_readCond : Nat → HP → Option (Int × HP)) (cl_readTest : Nat → HP → Option (Int × HP)) (hcl_readAllOf : ∀ a0 h9 r9 f9, cl_readAllOf a0 h9 = some (r9, f9) → Ok (MX12_readAllOf dd) [vr (some a0)] (some (vi r9)) h9 f9) (hcl_readCond : ∀ a0 h9 r9 f9, cl_readCond a0 h9 = some (r9, f9) → Ok (MX12_readCond dd) [vr (some a0)] (some (vi r9)) h9 f9) (hcl_readTest : ∀ a0 h9 r9 f9, cl_readTest a0 h9 = some (r9, f9) → Ok (MX12_readTest dd) [vr (some a0)] (some (vi r9)) h9 f9)   (l0 : Nat) (l1 : Int)  (h : HP) (E : X12_readTest_L143 F cl_readAllOf cl_readCond cl_readTest  l0 l1 h = some (r, hf)) : Go K (MX12_readTest (dd + 1)) (QM K (some (vi r)) hf) hf 143 [(0, vr (some l0)), (1, vi l1)] [] h := by
  unfold X12_readTest_L143 at E
  refine go_aload_n (j := 0) (n := 144) rfl rfl dX12_readTest_143 rfl ?_
  replace E := Option.bind_eq_some_iff.mp E; obtain ⟨a3, ea3, E⟩ := E
  obtain ⟨fa3, ga3⟩ := xrc_some ea3
  replace E := xb_some E; obtain ⟨v1, h2, ev1, E⟩ := E
  refine go_callV (y := yX12_readSum) (n := 147) (st := []) (as := []) (stk9 := [vi v1]) (OX12_readSum ev1) yw_X12_readSum ci_12 ga3 wml_RX12_198 wim_X12_readSum wse_X12_readSum (Nat.le_of_ble_eq_true rfl) rfl (by first | exact ⟨Nat.le_of_ble_eq_true rfl, Nat.le_of_ble_eq_true rfl⟩ | (refine ⟨?_, ?_⟩ <;> simp only [MX12_readAllOf, MX12_readCond, MX12_readTest] <;> omega)) (Nat.le_of_ble_eq_true rfl) dX12_readTest_144 rfl (by cases fa3; rfl) rfl ?_
  refine go_if_ne (tgt := 152) (n := 150) dX12_readTest_147 rfl rfl (fun c4 => ?_) (fun c4 => ?_)
  · rw [if_neg c4] at E
    refine go_aload_n (j := 0) (n := 153) rfl rfl dX12_readTest_152 rfl ?_
    refine go_iload_n (j := 1) (n := 154) rfl rfl dX12_readTest_153 rfl ?_
    refine go_if_eq (tgt := 162) (n := 157) dX12_readTest_154 rfl rfl (fun c5 => ?_) (fun c5 => ?_)
    · simp only [if_pos c5] at E
      refine go_bipush (z := 9) (n := 164) ⟨by decide, by decide⟩ dX12_readTest_162 rfl ?_
      refine go_pick (lv' := []) [] rfl ?_
      exact SX12_readTest_L164 cl_readAllOf cl_readCond cl_readTest hcl_readAllOf hcl_readCond hcl_readTest    _ _ _ E
    · simp only [if_neg c5] at E
      refine go_bipush (z := 8) (n := 159) ⟨by decide, by decide⟩ dX12_readTest_157 rfl ?_
      refine go_goto (tgt := 164) dX12_readTest_159 rfl ?_
      refine go_pick (lv' := []) [] rfl ?_
      exact SX12_readTest_L164 cl_readAllOf cl_readCond cl_readTest hcl_readAllOf hcl_readCond hcl_readTest    _ _ _ E
  · rw [if_pos c4] at E
    refine go_iconst (z := 0) (n := 151) ⟨by decide, by decide⟩ dX12_readTest_150 rfl ?_
    cases E
    exact go_zreturn rfl (Or.inl rfl) dX12_readTest_151
noncomputable def X12_readTest (F : Nat) (cl_readAllOf : Nat → HP → Option (Int × HP)) (cl_readCond : Nat → HP → Option (Int × HP)) (cl_readTest : Nat → HP → Option (Int × HP))  (l0 : Nat)  (h : HP) : Option (Int × HP) :=
  (xrc h (some l0) 12 31).bind fun a3 =>
  xb (X12_sign F a3 40 h) fun v1 h2 =>
  if v1 = 0 then
    (xrc h2 (some l0) 12 31).bind fun a7 =>
    xb (X12_passes F a7 (some 1000008) h2) fun v5 h6 =>
    if v5 = 0 then
      (xrc h6 (some l0) 12 31).bind fun a11 =>
      xb (X12_readSum F a11 h6) fun v9 h10 =>
      if v9 = 0 then
        some (0, h10)
      else
        (xrc h10 (some l0) 12 31).bind fun a15 =>
        xb (X12_sign F a15 60 h10) fun v13 h14 =>
        if v13 = 0 then
          (xrc h14 (some l0) 12 31).bind fun a19 =>
          xb (X12_sign F a19 62 h14) fun v17 h18 =>
          if v17 = 0 then
            some (0, h18)
          else
            X12_readTest_L143 F cl_readAllOf cl_readCond cl_readTest l0 v13 h18
        else
          X12_readTest_L143 F cl_readAllOf cl_readCond cl_readTest l0 v13 h14
    else
      (xgI h6 (some l0) 12 31 9).bind fun v21 =>
      if v21 = 6 then
        some (0, h6)
      else
        (xgI h6 (some l0) 12 31 9).bind fun v23 =>
        (xpI h6 (some l0) 12 31 9 (w32 (v23 + 1))).bind fun h24 =>
        (xrc h24 (some l0) 12 31).bind fun a27 =>
        xb (cl_readTest a27 h24) fun v25 h26 =>
        if v25 = 0 then
          some (0, h26)
        else
          (xgI h26 (some l0) 12 31 9).bind fun v29 =>
          (xpI h26 (some l0) 12 31 9 (w32 (v29 - 1))).bind fun h30 =>
          (xrc h30 (some l0) 12 31).bind fun a33 =>
          xb (X12_emits F a33 10 0 h30) fun v31 h32 =>
          some (1, h32)
  else
    (xgI h2 (some l0) 12 31 9).bind fun v34 =>
    if v34 = 6 then
      some (0, h2)
    else
      (xgI h2 (some l0) 12 31 9).bind fun v36 =>
      (xpI h2 (some l0) 12 31 9 (w32 (v36 + 1))).bind fun h37 =>
      (xrc h37 (some l0) 12 31).bind fun a40 =>
      xb (cl_readCond a40 h37) fun v38 h39 =>
      if v38 = 0 then
        some (0, h39)
      else
        (xgI h39 (some l0) 12 31 9).bind fun v42 =>
        (xpI h39 (some l0) 12 31 9 (w32 (v42 - 1))).bind fun h43 =>
        (xrc h43 (some l0) 12 31).bind fun a46 =>
        xb (X12_sign F a46 41 h43) fun v44 h45 =>
        xz v44 h45
set_option maxRecDepth 100000 in
theorem SX12_readTest {dd : Nat} {K : Ctx} {F : Nat} {r : Int} {hf : HP} (cl_readAllOf : Nat → HP → Option (Int × HP)) (cl_readCond : Nat → HP → Option (Int × HP)) (cl_readTest : Nat → HP → Option (Int × HP)) (hcl_readAllOf : ∀ a0 h9 r9 f9, cl_readAllOf a0 h9 = some (r9, f9) → Ok (MX12_readAllOf dd) [vr (some a0)] (some (vi r9)) h9 f9) (hcl_readCond : ∀ a0 h9 r9 f9, cl_readCond a0 h9 = some (r9, f9) → Ok (MX12_readCond dd) [vr (some a0)] (some (vi r9)) h9 f9) (hcl_readTest : ∀ a0 h9 r9 f9, cl_readTest a0 h9 = some (r9, f9) → Ok (MX12_readTest dd) [vr (some a0)] (some (vi r9)) h9 f9)   (l0 : Nat)  (h : HP) (E : X12_readTest F cl_readAllOf cl_readCond cl_readTest  l0 h = some (r, hf)) : Go K (MX12_readTest (dd + 1)) (QM K (some (vi r)) hf) hf 0 [(0, vr (some l0))] [] h := by
  unfold X12_readTest at E
  refine go_aload_n (j := 0) (n := 1) rfl rfl dX12_readTest_0 rfl ?_
  refine go_bipush (z := 40) (n := 3) ⟨by decide, by decide⟩ dX12_readTest_1 rfl ?_
  replace E := Option.bind_eq_some_iff.mp E; obtain ⟨a3, ea3, E⟩ := E
  obtain ⟨fa3, ga3⟩ := xrc_some ea3
  replace E := xb_some E; obtain ⟨v1, h2, ev1, E⟩ := E
  refine go_callV (y := yX12_sign) (n := 6) (st := []) (as := [vi 40]) (stk9 := [vi v1]) (OX12_sign ev1) yw_X12_sign ci_12 ga3 wml_RX12_178 wim_X12_sign wse_X12_sign (Nat.le_of_ble_eq_true rfl) rfl (by first | exact ⟨Nat.le_of_ble_eq_true rfl, Nat.le_of_ble_eq_true rfl⟩ | (refine ⟨?_, ?_⟩ <;> simp only [MX12_readAllOf, MX12_readCond, MX12_readTest] <;> omega)) (Nat.le_of_ble_eq_true rfl) dX12_readTest_3 rfl (by cases fa3; rfl) rfl ?_
  refine go_if_eq (tgt := 56) (n := 9) dX12_readTest_6 rfl rfl (fun c4 => ?_) (fun c4 => ?_)
  · rw [if_pos c4] at E
    refine go_aload_n (j := 0) (n := 57) rfl rfl dX12_readTest_56 rfl ?_
    refine go_ldcS (j := 8) (n := 59) rfl rfl dX12_readTest_57 rfl ?_
    replace E := Option.bind_eq_some_iff.mp E; obtain ⟨a7, ea7, E⟩ := E
    obtain ⟨fa7, ga7⟩ := xrc_some ea7
    replace E := xb_some E; obtain ⟨v5, h6, ev5, E⟩ := E
    refine go_callV (y := yX12_passes) (n := 62) (st := []) (as := [vr (some 1000008)]) (stk9 := [vi v5]) (OX12_passes ev5) yw_X12_passes ci_12 ga7 wml_RX12_192 wim_X12_passes wse_X12_passes (Nat.le_of_ble_eq_true rfl) rfl (by first | exact ⟨Nat.le_of_ble_eq_true rfl, Nat.le_of_ble_eq_true rfl⟩ | (refine ⟨?_, ?_⟩ <;> simp only [MX12_readAllOf, MX12_readCond, MX12_readTest] <;> omega)) (Nat.le_of_ble_eq_true rfl) dX12_readTest_59 rfl (by cases fa7; rfl) rfl ?_
    refine go_if_eq (tgt := 114) (n := 65) dX12_readTest_62 rfl rfl (fun c8 => ?_) (fun c8 => ?_)
    · rw [if_pos c8] at E
      refine go_aload_n (j := 0) (n := 115) rfl rfl dX12_readTest_114 rfl ?_
      replace E := Option.bind_eq_some_iff.mp E; obtain ⟨a11, ea11, E⟩ := E
      obtain ⟨fa11, ga11⟩ := xrc_some ea11
      replace E := xb_some E; obtain ⟨v9, h10, ev9, E⟩ := E
      refine go_callV (y := yX12_readSum) (n := 118) (st := []) (as := []) (stk9 := [vi v9]) (OX12_readSum ev9) yw_X12_readSum ci_12 ga11 wml_RX12_198 wim_X12_readSum wse_X12_readSum (Nat.le_of_ble_eq_true rfl) rfl (by first | exact ⟨Nat.le_of_ble_eq_true rfl, Nat.le_of_ble_eq_true rfl⟩ | (refine ⟨?_, ?_⟩ <;> simp only [MX12_readAllOf, MX12_readCond, MX12_readTest] <;> omega)) (Nat.le_of_ble_eq_true rfl) dX12_readTest_115 rfl (by cases fa11; rfl) rfl ?_
      refine go_if_ne (tgt := 123) (n := 121) dX12_readTest_118 rfl rfl (fun c12 => ?_) (fun c12 => ?_)
      · rw [if_neg c12] at E
        refine go_aload_n (j := 0) (n := 124) rfl rfl dX12_readTest_123 rfl ?_
        refine go_bipush (z := 60) (n := 126) ⟨by decide, by decide⟩ dX12_readTest_124 rfl ?_
        replace E := Option.bind_eq_some_iff.mp E; obtain ⟨a15, ea15, E⟩ := E
        obtain ⟨fa15, ga15⟩ := xrc_some ea15
        replace E := xb_some E; obtain ⟨v13, h14, ev13, E⟩ := E
        refine go_callV (y := yX12_sign) (n := 129) (st := []) (as := [vi 60]) (stk9 := [vi v13]) (OX12_sign ev13) yw_X12_sign ci_12 ga15 wml_RX12_178 wim_X12_sign wse_X12_sign (Nat.le_of_ble_eq_true rfl) rfl (by first | exact ⟨Nat.le_of_ble_eq_true rfl, Nat.le_of_ble_eq_true rfl⟩ | (refine ⟨?_, ?_⟩ <;> simp only [MX12_readAllOf, MX12_readCond, MX12_readTest] <;> omega)) (Nat.le_of_ble_eq_true rfl) dX12_readTest_126 rfl (by cases fa15; rfl) rfl ?_
        refine go_istore_n (n := 130) (lv' := [(1, vi v13), (0, vr (some l0))]) rfl dX12_readTest_129 rfl (Nat.le_of_ble_eq_true rfl) rfl ?_
        refine go_iload_n (j := 0) (n := 131) rfl rfl dX12_readTest_130 rfl ?_
        refine go_if_ne (tgt := 143) (n := 134) dX12_readTest_131 rfl rfl (fun c16 => ?_) (fun c16 => ?_)
        · rw [if_neg c16] at E
          refine go_pick (lv' := [(0, vr (some l0)), (1, vi v13)]) [1, 0] rfl ?_
          exact SX12_readTest_L143 cl_readAllOf cl_readCond cl_readTest hcl_readAllOf hcl_readCond hcl_readTest   _ _  _ E
        · rw [if_pos c16] at E
          refine go_aload_n (j := 1) (n := 135) rfl rfl dX12_readTest_134 rfl ?_
          refine go_bipush (z := 62) (n := 137) ⟨by decide, by decide⟩ dX12_readTest_135 rfl ?_
          replace E := Option.bind_eq_some_iff.mp E; obtain ⟨a19, ea19, E⟩ := E
          obtain ⟨fa19, ga19⟩ := xrc_some ea19
          replace E := xb_some E; obtain ⟨v17, h18, ev17, E⟩ := E
          refine go_callV (y := yX12_sign) (n := 140) (st := []) (as := [vi 62]) (stk9 := [vi v17]) (OX12_sign ev17) yw_X12_sign ci_12 ga19 wml_RX12_178 wim_X12_sign wse_X12_sign (Nat.le_of_ble_eq_true rfl) rfl (by first | exact ⟨Nat.le_of_ble_eq_true rfl, Nat.le_of_ble_eq_true rfl⟩ | (refine ⟨?_, ?_⟩ <;> simp only [MX12_readAllOf, MX12_readCond, MX12_readTest] <;> omega)) (Nat.le_of_ble_eq_true rfl) dX12_readTest_137 rfl (by cases fa19; rfl) rfl ?_
          refine go_if_eq (tgt := 150) (n := 143) dX12_readTest_140 rfl rfl (fun c20 => ?_) (fun c20 => ?_)
          · rw [if_pos c20] at E
            refine go_iconst (z := 0) (n := 151) ⟨by decide, by decide⟩ dX12_readTest_150 rfl ?_
            cases E
            exact go_zreturn rfl (Or.inl rfl) dX12_readTest_151
          · rw [if_neg c20] at E
            refine go_pick (lv' := [(0, vr (some l0)), (1, vi v13)]) [1, 0] rfl ?_
            exact SX12_readTest_L143 cl_readAllOf cl_readCond cl_readTest hcl_readAllOf hcl_readCond hcl_readTest   _ _  _ E
      · rw [if_pos c12] at E
        refine go_iconst (z := 0) (n := 122) ⟨by decide, by decide⟩ dX12_readTest_121 rfl ?_
        cases E
        exact go_zreturn rfl (Or.inl rfl) dX12_readTest_122
    · rw [if_neg c8] at E
      refine go_aload_n (j := 0) (n := 66) rfl rfl dX12_readTest_65 rfl ?_
      replace E := Option.bind_eq_some_iff.mp E; obtain ⟨v21, ev21, E⟩ := E
      refine go_getI (n := 69) ev21 fl_RX12_184 rfl dX12_readTest_66 rfl ?_
      refine go_bipush (z := 6) (n := 71) ⟨by decide, by decide⟩ dX12_readTest_69 rfl ?_
      refine go_icmp_ne (tgt := 76) (n := 74) dX12_readTest_71 rfl rfl (fun c22 => ?_) (fun c22 => ?_)
      · rw [if_neg c22] at E
        refine go_aload_n (j := 0) (n := 77) rfl rfl dX12_readTest_76 rfl ?_
        refine go_dup (n := 78) rfl dX12_readTest_77 rfl ?_
        replace E := Option.bind_eq_some_iff.mp E; obtain ⟨v23, ev23, E⟩ := E
        refine go_getI (n := 81) ev23 fl_RX12_184 rfl dX12_readTest_78 rfl ?_
        refine go_iconst (z := 1) (n := 82) ⟨by decide, by decide⟩ dX12_readTest_81 rfl ?_
        refine go_iadd (n := 83) dX12_readTest_82 rfl ?_
        replace E := Option.bind_eq_some_iff.mp E; obtain ⟨h24, eh24, E⟩ := E
        refine go_putI (n := 86) eh24 fl_RX12_184 rfl dX12_readTest_83 rfl ?_
        refine go_aload_n (j := 0) (n := 87) rfl rfl dX12_readTest_86 rfl ?_
        replace E := Option.bind_eq_some_iff.mp E; obtain ⟨a27, ea27, E⟩ := E
        obtain ⟨fa27, ga27⟩ := xrc_some ea27
        replace E := xb_some E; obtain ⟨v25, h26, ev25, E⟩ := E
        refine go_callV (y := yX12_readTest) (n := 90) (st := []) (as := []) (stk9 := [vi v25]) (hcl_readTest _ _ _ _ ev25) yw_X12_readTest ci_12 ga27 wml_RX12_195 wim_X12_readTest wse_X12_readTest (Nat.le_of_ble_eq_true rfl) rfl (by first | exact ⟨Nat.le_of_ble_eq_true rfl, Nat.le_of_ble_eq_true rfl⟩ | (refine ⟨?_, ?_⟩ <;> simp only [MX12_readAllOf, MX12_readCond, MX12_readTest] <;> omega)) (Nat.le_of_ble_eq_true rfl) dX12_readTest_87 rfl (by cases fa27; rfl) rfl ?_
        refine go_if_ne (tgt := 95) (n := 93) dX12_readTest_90 rfl rfl (fun c28 => ?_) (fun c28 => ?_)
        · rw [if_neg c28] at E
          refine go_aload_n (j := 0) (n := 96) rfl rfl dX12_readTest_95 rfl ?_
          refine go_dup (n := 97) rfl dX12_readTest_96 rfl ?_
          replace E := Option.bind_eq_some_iff.mp E; obtain ⟨v29, ev29, E⟩ := E
          refine go_getI (n := 100) ev29 fl_RX12_184 rfl dX12_readTest_97 rfl ?_
          refine go_iconst (z := 1) (n := 101) ⟨by decide, by decide⟩ dX12_readTest_100 rfl ?_
          refine go_isub (n := 102) dX12_readTest_101 rfl ?_
          replace E := Option.bind_eq_some_iff.mp E; obtain ⟨h30, eh30, E⟩ := E
          refine go_putI (n := 105) eh30 fl_RX12_184 rfl dX12_readTest_102 rfl ?_
          refine go_aload_n (j := 0) (n := 106) rfl rfl dX12_readTest_105 rfl ?_
          refine go_bipush (z := 10) (n := 108) ⟨by decide, by decide⟩ dX12_readTest_106 rfl ?_
          refine go_iconst (z := 0) (n := 109) ⟨by decide, by decide⟩ dX12_readTest_108 rfl ?_
          replace E := Option.bind_eq_some_iff.mp E; obtain ⟨a33, ea33, E⟩ := E
          obtain ⟨fa33, ga33⟩ := xrc_some ea33
          replace E := xb_some E; obtain ⟨v31, h32, ev31, E⟩ := E
          refine go_callV (y := yX12_emits) (n := 112) (st := []) (as := [vi 10, vi 0]) (stk9 := []) (OX12_emits ev31) yw_X12_emits ci_12 ga33 wml_RX12_158 wim_X12_emits wse_X12_emits (Nat.le_of_ble_eq_true rfl) rfl (by first | exact ⟨Nat.le_of_ble_eq_true rfl, Nat.le_of_ble_eq_true rfl⟩ | (refine ⟨?_, ?_⟩ <;> simp only [MX12_readAllOf, MX12_readCond, MX12_readTest] <;> omega)) (Nat.le_of_ble_eq_true rfl) dX12_readTest_109 rfl (by cases fa33; rfl) rfl ?_
          refine go_iconst (z := 1) (n := 113) ⟨by decide, by decide⟩ dX12_readTest_112 rfl ?_
          cases E
          exact go_zreturn rfl (Or.inr rfl) dX12_readTest_113
        · rw [if_pos c28] at E
          refine go_iconst (z := 0) (n := 94) ⟨by decide, by decide⟩ dX12_readTest_93 rfl ?_
          cases E
          exact go_zreturn rfl (Or.inl rfl) dX12_readTest_94
      · rw [if_pos c22] at E
        refine go_iconst (z := 0) (n := 75) ⟨by decide, by decide⟩ dX12_readTest_74 rfl ?_
        cases E
        exact go_zreturn rfl (Or.inl rfl) dX12_readTest_75
  · rw [if_neg c4] at E
    refine go_aload_n (j := 0) (n := 10) rfl rfl dX12_readTest_9 rfl ?_
    replace E := Option.bind_eq_some_iff.mp E; obtain ⟨v34, ev34, E⟩ := E
    refine go_getI (n := 13) ev34 fl_RX12_184 rfl dX12_readTest_10 rfl ?_
    refine go_bipush (z := 6) (n := 15) ⟨by decide, by decide⟩ dX12_readTest_13 rfl ?_
    refine go_icmp_ne (tgt := 20) (n := 18) dX12_readTest_15 rfl rfl (fun c35 => ?_) (fun c35 => ?_)
    · rw [if_neg c35] at E
      refine go_aload_n (j := 0) (n := 21) rfl rfl dX12_readTest_20 rfl ?_
      refine go_dup (n := 22) rfl dX12_readTest_21 rfl ?_
      replace E := Option.bind_eq_some_iff.mp E; obtain ⟨v36, ev36, E⟩ := E
      refine go_getI (n := 25) ev36 fl_RX12_184 rfl dX12_readTest_22 rfl ?_
      refine go_iconst (z := 1) (n := 26) ⟨by decide, by decide⟩ dX12_readTest_25 rfl ?_
      refine go_iadd (n := 27) dX12_readTest_26 rfl ?_
      replace E := Option.bind_eq_some_iff.mp E; obtain ⟨h37, eh37, E⟩ := E
      refine go_putI (n := 30) eh37 fl_RX12_184 rfl dX12_readTest_27 rfl ?_
      refine go_aload_n (j := 0) (n := 31) rfl rfl dX12_readTest_30 rfl ?_
      replace E := Option.bind_eq_some_iff.mp E; obtain ⟨a40, ea40, E⟩ := E
      obtain ⟨fa40, ga40⟩ := xrc_some ea40
      replace E := xb_some E; obtain ⟨v38, h39, ev38, E⟩ := E
      refine go_callV (y := yX12_readCond) (n := 34) (st := []) (as := []) (stk9 := [vi v38]) (hcl_readCond _ _ _ _ ev38) yw_X12_readCond ci_12 ga40 wml_RX12_187 wim_X12_readCond wse_X12_readCond (Nat.le_of_ble_eq_true rfl) rfl (by first | exact ⟨Nat.le_of_ble_eq_true rfl, Nat.le_of_ble_eq_true rfl⟩ | (refine ⟨?_, ?_⟩ <;> simp only [MX12_readAllOf, MX12_readCond, MX12_readTest] <;> omega)) (Nat.le_of_ble_eq_true rfl) dX12_readTest_31 rfl (by cases fa40; rfl) rfl ?_
      refine go_if_ne (tgt := 39) (n := 37) dX12_readTest_34 rfl rfl (fun c41 => ?_) (fun c41 => ?_)
      · rw [if_neg c41] at E
        refine go_aload_n (j := 0) (n := 40) rfl rfl dX12_readTest_39 rfl ?_
        refine go_dup (n := 41) rfl dX12_readTest_40 rfl ?_
        replace E := Option.bind_eq_some_iff.mp E; obtain ⟨v42, ev42, E⟩ := E
        refine go_getI (n := 44) ev42 fl_RX12_184 rfl dX12_readTest_41 rfl ?_
        refine go_iconst (z := 1) (n := 45) ⟨by decide, by decide⟩ dX12_readTest_44 rfl ?_
        refine go_isub (n := 46) dX12_readTest_45 rfl ?_
        replace E := Option.bind_eq_some_iff.mp E; obtain ⟨h43, eh43, E⟩ := E
        refine go_putI (n := 49) eh43 fl_RX12_184 rfl dX12_readTest_46 rfl ?_
        refine go_aload_n (j := 0) (n := 50) rfl rfl dX12_readTest_49 rfl ?_
        refine go_bipush (z := 41) (n := 52) ⟨by decide, by decide⟩ dX12_readTest_50 rfl ?_
        replace E := Option.bind_eq_some_iff.mp E; obtain ⟨a46, ea46, E⟩ := E
        obtain ⟨fa46, ga46⟩ := xrc_some ea46
        replace E := xb_some E; obtain ⟨v44, h45, ev44, E⟩ := E
        refine go_callV (y := yX12_sign) (n := 55) (st := []) (as := [vi 41]) (stk9 := [vi v44]) (OX12_sign ev44) yw_X12_sign ci_12 ga46 wml_RX12_178 wim_X12_sign wse_X12_sign (Nat.le_of_ble_eq_true rfl) rfl (by first | exact ⟨Nat.le_of_ble_eq_true rfl, Nat.le_of_ble_eq_true rfl⟩ | (refine ⟨?_, ?_⟩ <;> simp only [MX12_readAllOf, MX12_readCond, MX12_readTest] <;> omega)) (Nat.le_of_ble_eq_true rfl) dX12_readTest_52 rfl (by cases fa46; rfl) rfl ?_
        unfold xz at E
        split at E
        · next c47 =>
          cases E
          exact go_zreturn rfl c47 dX12_readTest_55
        · cases E
      · rw [if_pos c41] at E
        refine go_iconst (z := 0) (n := 38) ⟨by decide, by decide⟩ dX12_readTest_37 rfl ?_
        cases E
        exact go_zreturn rfl (Or.inl rfl) dX12_readTest_38
    · rw [if_pos c35] at E
      refine go_iconst (z := 0) (n := 19) ⟨by decide, by decide⟩ dX12_readTest_18 rfl ?_
      cases E
      exact go_zreturn rfl (Or.inl rfl) dX12_readTest_19
noncomputable def G_readAllOf_readCond_readTest (F n : Nat) : (Nat → HP → Option (Int × HP)) × (Nat → HP → Option (Int × HP)) × (Nat → HP → Option (Int × HP)) :=
  Nat.rec (motive := fun _ => (Nat → HP → Option (Int × HP)) × (Nat → HP → Option (Int × HP)) × (Nat → HP → Option (Int × HP))) (fun _ _ => none, fun _ _ => none, fun _ _ => none) (fun _ g => (X12_readAllOf F g.1 g.2.1 g.2.2, X12_readCond F g.1 g.2.1 g.2.2, X12_readTest F g.1 g.2.1 g.2.2)) n
theorem OG_readAllOf_readCond_readTest (F : Nat) : ∀ n : Nat, (∀ a0 h9 r9 f9, (G_readAllOf_readCond_readTest F n).1 a0 h9 = some (r9, f9) → Ok (MX12_readAllOf n) [vr (some a0)] (some (vi r9)) h9 f9) ∧ (∀ a0 h9 r9 f9, (G_readAllOf_readCond_readTest F n).2.1 a0 h9 = some (r9, f9) → Ok (MX12_readCond n) [vr (some a0)] (some (vi r9)) h9 f9) ∧ (∀ a0 h9 r9 f9, (G_readAllOf_readCond_readTest F n).2.2 a0 h9 = some (r9, f9) → Ok (MX12_readTest n) [vr (some a0)] (some (vi r9)) h9 f9) := by
  intro n
  induction n with
  | zero => exact ⟨fun _ _ _ _ e => (nomatch e), fun _ _ _ _ e => (nomatch e), fun _ _ _ _ e => (nomatch e)⟩
  | succ n ih =>
    obtain ⟨ih0, ih1, ih2⟩ := ih
    exact ⟨fun a0 h9 r9 f9 e K _ _ _ => SX12_readAllOf (dd := n) _ _ _ ih0 ih1 ih2 a0 h9 e, fun a0 h9 r9 f9 e K _ _ _ => SX12_readCond (dd := n) _ _ _ ih0 ih1 ih2 a0 h9 e, fun a0 h9 r9 f9 e K _ _ _ => SX12_readTest (dd := n) _ _ _ ih0 ih1 ih2 a0 h9 e⟩
noncomputable def X12_readAllOf_t (F : Nat) : (Nat → HP → Option (Int × HP)) := (G_readAllOf_readCond_readTest F 100).1
theorem OX12_readAllOf {F : Nat} {l0 : Nat} {h hf : HP} {r : Int} (e : X12_readAllOf_t F l0 h = some (r, hf)) : Ok (MX12_readAllOf 100) [vr (some l0)] (some (vi r)) h hf := (OG_readAllOf_readCond_readTest F 100).1 l0 h r hf e
noncomputable def X12_readCond_t (F : Nat) : (Nat → HP → Option (Int × HP)) := (G_readAllOf_readCond_readTest F 100).2.1
theorem OX12_readCond {F : Nat} {l0 : Nat} {h hf : HP} {r : Int} (e : X12_readCond_t F l0 h = some (r, hf)) : Ok (MX12_readCond 100) [vr (some l0)] (some (vi r)) h hf := (OG_readAllOf_readCond_readTest F 100).2.1 l0 h r hf e
noncomputable def X12_readTest_t (F : Nat) : (Nat → HP → Option (Int × HP)) := (G_readAllOf_readCond_readTest F 100).2.2
theorem OX12_readTest {F : Nat} {l0 : Nat} {h hf : HP} {r : Int} (e : X12_readTest_t F l0 h = some (r, hf)) : Ok (MX12_readTest 100) [vr (some l0)] (some (vi r)) h hf := (OG_readAllOf_readCond_readTest F 100).2.2 l0 h r hf e
abbrev MX12_tellsWord : MI := (RX12, cX12_tellsWord, 3, (some .boolean), 5, none, "tellsWord")
noncomputable def X12_tellsWord (F : Nat)   (l0 : Nat) (l1 : Int) (l2 : Int)  (h : HP) : Option (Int × HP) :=
  (xgP h (some l0) 12 31 12).bind fun v1 =>
  (xrc h (some l0) 12 31).bind fun a4 =>
  xb (X12_number F a4 l2 63 h) fun v2 h3 =>
  (xsI h3 v1 l1 v2).bind fun h5 =>
  (xgP h5 (some l0) 12 31 12).bind fun v6 =>
  (xaI h5 v6 100 l1).bind fun v7 =>
  some (if v7 < 0 then 0 else 1, h5)
set_option maxRecDepth 100000 in
theorem SX12_tellsWord {K : Ctx} {F : Nat} {r : Int} {hf : HP}     (l0 : Nat) (l1 : Int) (l2 : Int)  (h : HP) (E : X12_tellsWord F   l0 l1 l2 h = some (r, hf)) : Go K MX12_tellsWord (QM K (some (vi r)) hf) hf 0 [(0, vr (some l0)), (1, vi l1), (2, vi l2)] [] h := by
  unfold X12_tellsWord at E
  refine go_aload_n (j := 0) (n := 1) rfl rfl dX12_tellsWord_0 rfl ?_
  replace E := Option.bind_eq_some_iff.mp E; obtain ⟨v1, ev1, E⟩ := E
  refine go_getP (n := 4) ev1 fl_RX12_31 rfl dX12_tellsWord_1 rfl ?_
  refine go_iload_n (j := 1) (n := 5) rfl rfl dX12_tellsWord_4 rfl ?_
  refine go_aload_n (j := 0) (n := 6) rfl rfl dX12_tellsWord_5 rfl ?_
  refine go_iload_n (j := 2) (n := 7) rfl rfl dX12_tellsWord_6 rfl ?_
  refine go_bipush (z := 63) (n := 9) ⟨by decide, by decide⟩ dX12_tellsWord_7 rfl ?_
  replace E := Option.bind_eq_some_iff.mp E; obtain ⟨a4, ea4, E⟩ := E
  obtain ⟨fa4, ga4⟩ := xrc_some ea4
  replace E := xb_some E; obtain ⟨v2, h3, ev2, E⟩ := E
  refine go_callV (y := yX12_number) (n := 12) (st := [vi l1, vr v1]) (as := [vi l2, vi 63]) (stk9 := [vi v2, vi l1, vr v1]) (OX12_number ev2) yw_X12_number ci_12 ga4 wml_RX12_155 wim_X12_number wse_X12_number (Nat.le_of_ble_eq_true rfl) rfl ⟨Nat.le_of_ble_eq_true rfl, Nat.le_of_ble_eq_true rfl⟩ (Nat.le_of_ble_eq_true rfl) dX12_tellsWord_9 rfl (by cases fa4; rfl) rfl ?_
  replace E := Option.bind_eq_some_iff.mp E; obtain ⟨h5, eh5, E⟩ := E
  refine go_iastore (n := 13) eh5 dX12_tellsWord_12 rfl ?_
  refine go_aload_n (j := 0) (n := 14) rfl rfl dX12_tellsWord_13 rfl ?_
  replace E := Option.bind_eq_some_iff.mp E; obtain ⟨v6, ev6, E⟩ := E
  refine go_getP (n := 17) ev6 fl_RX12_31 rfl dX12_tellsWord_14 rfl ?_
  refine go_iload_n (j := 1) (n := 18) rfl rfl dX12_tellsWord_17 rfl ?_
  replace E := Option.bind_eq_some_iff.mp E; obtain ⟨v7, ev7, E⟩ := E
  refine go_iaload (n := 19) ev7 dX12_tellsWord_18 rfl ?_
  refine go_if_lt (tgt := 26) (n := 22) dX12_tellsWord_19 rfl rfl (fun c8 => ?_) (fun c8 => ?_)
  · simp only [if_pos c8] at E
    refine go_iconst (z := 0) (n := 27) ⟨by decide, by decide⟩ dX12_tellsWord_26 rfl ?_
    cases E
    exact go_zreturn rfl (Or.inl rfl) dX12_tellsWord_27
  · simp only [if_neg c8] at E
    refine go_iconst (z := 1) (n := 23) ⟨by decide, by decide⟩ dX12_tellsWord_22 rfl ?_
    refine go_goto (tgt := 27) dX12_tellsWord_23 rfl ?_
    cases E
    exact go_zreturn rfl (Or.inr rfl) dX12_tellsWord_27
theorem OX12_tellsWord {F : Nat} {l0 : Nat} {l1 : Int} {l2 : Int} {h hf : HP} {r : Int} (e : X12_tellsWord F l0 l1 l2 h = some (r, hf)) : Ok MX12_tellsWord [vr (some l0), vi l1, vi l2] (some (vi r)) h hf := fun K _ _ _ => SX12_tellsWord l0 l1 l2 h e
theorem yw_X12_needs : YW yX12_needs cX12_needs 2 (some .boolean) 1 := ⟨bw_of 1982 (by decide +kernel) rfl, bw_of 129 (by decide +kernel) rfl, ⟨by decide +kernel, by decide +kernel, by decide +kernel⟩, by decide +kernel⟩
theorem wml_RX12_210 : Cond.methodLink RX12 210 yX12_needs ∈ BW := bw_of 1979 (by decide +kernel) rfl
theorem wim_X12_needs : Cond.instanceMethod yX12_needs ∈ BW := bw_of 1981 (by decide +kernel) rfl
theorem wse_X12_needs : Cond.selects RX12 yX12_needs yX12_needs ∈ BW := bw_of 72 (by decide +kernel) rfl
theorem yw_X12_tellsWord : YW yX12_tellsWord cX12_tellsWord 3 (some .boolean) 2 := ⟨bw_of 2043 (by decide +kernel) rfl, bw_of 129 (by decide +kernel) rfl, ⟨by decide +kernel, by decide +kernel, by decide +kernel⟩, by decide +kernel⟩
theorem wml_RX12_213 : Cond.methodLink RX12 213 yX12_tellsWord ∈ BW := bw_of 2040 (by decide +kernel) rfl
theorem wim_X12_tellsWord : Cond.instanceMethod yX12_tellsWord ∈ BW := bw_of 2042 (by decide +kernel) rfl
theorem wse_X12_tellsWord : Cond.selects RX12 yX12_tellsWord yX12_tellsWord ∈ BW := bw_of 84 (by decide +kernel) rfl
abbrev MX12_readRest : MI := (RX12, cX12_readRest, 4, (some .boolean), 113, none, "readRest")
noncomputable def X12_readRest_L17 (F : Nat)   (l0 : Nat)  (h : HP) : Option (Int × HP) :=
  (xpI h (some l0) 12 31 9 0).bind fun h1 =>
  (xrc h1 (some l0) 12 31).bind fun a4 =>
  xb (X12_needs F a4 (some 1000007) h1) fun v2 h3 =>
  if v2 = 0 then
    some (0, h3)
  else
    (xrc h3 (some l0) 12 31).bind fun a8 =>
    xb (X12_readCond_t F a8 h3) fun v6 h7 =>
    some (if v6 = 0 then 0 else 1, h7)
set_option maxRecDepth 100000 in
theorem SX12_readRest_L17 {K : Ctx} {F : Nat} {r : Int} {hf : HP}     (l0 : Nat)  (h : HP) (E : X12_readRest_L17 F   l0 h = some (r, hf)) : Go K MX12_readRest (QM K (some (vi r)) hf) hf 17 [(0, vr (some l0))] [] h := by
  unfold X12_readRest_L17 at E
  refine go_aload_n (j := 0) (n := 18) rfl rfl dX12_readRest_17 rfl ?_
  refine go_iconst (z := 0) (n := 19) ⟨by decide, by decide⟩ dX12_readRest_18 rfl ?_
  replace E := Option.bind_eq_some_iff.mp E; obtain ⟨h1, eh1, E⟩ := E
  refine go_putI (n := 22) eh1 fl_RX12_184 rfl dX12_readRest_19 rfl ?_
  refine go_aload_n (j := 0) (n := 23) rfl rfl dX12_readRest_22 rfl ?_
  refine go_ldcS (j := 7) (n := 25) rfl rfl dX12_readRest_23 rfl ?_
  replace E := Option.bind_eq_some_iff.mp E; obtain ⟨a4, ea4, E⟩ := E
  obtain ⟨fa4, ga4⟩ := xrc_some ea4
  replace E := xb_some E; obtain ⟨v2, h3, ev2, E⟩ := E
  refine go_callV (y := yX12_needs) (n := 28) (st := []) (as := [vr (some 1000007)]) (stk9 := [vi v2]) (OX12_needs ev2) yw_X12_needs ci_12 ga4 wml_RX12_210 wim_X12_needs wse_X12_needs (Nat.le_of_ble_eq_true rfl) rfl ⟨Nat.le_of_ble_eq_true rfl, Nat.le_of_ble_eq_true rfl⟩ (Nat.le_of_ble_eq_true rfl) dX12_readRest_25 rfl (by cases fa4; rfl) rfl ?_
  refine go_if_eq (tgt := 42) (n := 31) dX12_readRest_28 rfl rfl (fun c5 => ?_) (fun c5 => ?_)
  · rw [if_pos c5] at E
    refine go_iconst (z := 0) (n := 43) ⟨by decide, by decide⟩ dX12_readRest_42 rfl ?_
    cases E
    exact go_zreturn rfl (Or.inl rfl) dX12_readRest_43
  · rw [if_neg c5] at E
    refine go_aload_n (j := 0) (n := 32) rfl rfl dX12_readRest_31 rfl ?_
    replace E := Option.bind_eq_some_iff.mp E; obtain ⟨a8, ea8, E⟩ := E
    obtain ⟨fa8, ga8⟩ := xrc_some ea8
    replace E := xb_some E; obtain ⟨v6, h7, ev6, E⟩ := E
    refine go_callV (y := yX12_readCond) (n := 35) (st := []) (as := []) (stk9 := [vi v6]) (OX12_readCond ev6) yw_X12_readCond ci_12 ga8 wml_RX12_187 wim_X12_readCond wse_X12_readCond (Nat.le_of_ble_eq_true rfl) rfl ⟨Nat.le_of_ble_eq_true rfl, Nat.le_of_ble_eq_true rfl⟩ (Nat.le_of_ble_eq_true rfl) dX12_readRest_32 rfl (by cases fa8; rfl) rfl ?_
    refine go_if_eq (tgt := 42) (n := 38) dX12_readRest_35 rfl rfl (fun c9 => ?_) (fun c9 => ?_)
    · simp only [if_pos c9] at E
      refine go_iconst (z := 0) (n := 43) ⟨by decide, by decide⟩ dX12_readRest_42 rfl ?_
      cases E
      exact go_zreturn rfl (Or.inl rfl) dX12_readRest_43
    · simp only [if_neg c9] at E
      refine go_iconst (z := 1) (n := 39) ⟨by decide, by decide⟩ dX12_readRest_38 rfl ?_
      refine go_goto (tgt := 43) dX12_readRest_39 rfl ?_
      cases E
      exact go_zreturn rfl (Or.inr rfl) dX12_readRest_43
noncomputable def X12_readRest_L221 (F : Nat)   (l0 : Nat) (l1 : Int)  (h : HP) : Option (Int × HP) :=
  (xgJ h (some l0) 12 31 14).bind fun v1 =>
  (xgP h (some l0) 12 31 12).bind fun v2 =>
  (xaI h v2 100 (w32 (l1 + 1))).bind fun v3 =>
  (xpJ h (some l0) 12 31 14 (yor v1 (yshl 1 v3))).bind fun h4 =>
  some (1, h4)
set_option maxRecDepth 100000 in
theorem SX12_readRest_L221 {K : Ctx} {F : Nat} {r : Int} {hf : HP}     (l0 : Nat) (l1 : Int)  (h : HP) (E : X12_readRest_L221 F   l0 l1 h = some (r, hf)) : Go K MX12_readRest (QM K (some (vi r)) hf) hf 221 [(0, vr (some l0)), (1, vi l1)] [] h := by
  unfold X12_readRest_L221 at E
  refine go_aload_n (j := 0) (n := 222) rfl rfl dX12_readRest_221 rfl ?_
  refine go_dup (n := 223) rfl dX12_readRest_222 rfl ?_
  replace E := Option.bind_eq_some_iff.mp E; obtain ⟨v1, ev1, E⟩ := E
  refine go_getJ (n := 226) ev1 fl_RX12_151 rfl dX12_readRest_223 rfl ?_
  refine go_lconst (w := 1) (n := 227) rfl dX12_readRest_226 rfl ?_
  refine go_aload_n (j := 0) (n := 228) rfl rfl dX12_readRest_227 rfl ?_
  replace E := Option.bind_eq_some_iff.mp E; obtain ⟨v2, ev2, E⟩ := E
  refine go_getP (n := 231) ev2 fl_RX12_31 rfl dX12_readRest_228 rfl ?_
  refine go_iload_n (j := 1) (n := 232) rfl rfl dX12_readRest_231 rfl ?_
  refine go_iconst (z := 1) (n := 233) ⟨by decide, by decide⟩ dX12_readRest_232 rfl ?_
  refine go_iadd (n := 234) dX12_readRest_233 rfl ?_
  replace E := Option.bind_eq_some_iff.mp E; obtain ⟨v3, ev3, E⟩ := E
  refine go_iaload (n := 235) ev3 dX12_readRest_234 rfl ?_
  refine go_lshl (n := 236) dX12_readRest_235 rfl ?_
  refine go_lor (n := 237) dX12_readRest_236 rfl ?_
  replace E := Option.bind_eq_some_iff.mp E; obtain ⟨h4, eh4, E⟩ := E
  refine go_putJ (n := 240) eh4 fl_RX12_151 rfl dX12_readRest_237 rfl ?_
  refine go_iconst (z := 1) (n := 241) ⟨by decide, by decide⟩ dX12_readRest_240 rfl ?_
  cases E
  exact go_zreturn rfl (Or.inr rfl) dX12_readRest_241
noncomputable def X12_readRest_L143 (F : Nat)   (k : Nat) : Nat → Int → Int → HP → Option (Int × HP) :=
  Nat.rec (motive := fun _ => Nat → Int → Int → HP → Option (Int × HP)) (fun _ _ _ _ => none) (fun _ rc143 l0 l1 l3 h =>
    (xgP h (some l0) 12 31 12).bind fun v1 =>
    (xaI h v1 100 (w32 (l1 + 3))).bind fun v2 =>
    if v2 < l3 then
      X12_readRest_L221 F l0 l1 h
    else
      (xrc h (some l0) 12 31).bind fun a6 =>
      xb (X12_isRead F a6 l3 h) fun v4 h5 =>
      rc143 l0 l1 (w32 (l3 + 1)) h5) k
theorem X12_readRest_L143_s (F : Nat)   (k : Nat) (l0 : Nat) (l1 : Int) (l3 : Int)  (h : HP) : X12_readRest_L143 F   (k + 1) l0 l1 l3 h =
    (xgP h (some l0) 12 31 12).bind fun v1 =>
    (xaI h v1 100 (w32 (l1 + 3))).bind fun v2 =>
    if v2 < l3 then
      X12_readRest_L221 F l0 l1 h
    else
      (xrc h (some l0) 12 31).bind fun a6 =>
      xb (X12_isRead F a6 l3 h) fun v4 h5 =>
      (X12_readRest_L143 F k) l0 l1 (w32 (l3 + 1)) h5 := rfl
set_option maxRecDepth 100000 in
theorem SX12_readRest_L143 {K : Ctx} {F : Nat} {r : Int} {hf : HP}     : ∀ (k : Nat) (l0 : Nat) (l1 : Int) (l3 : Int)  (h : HP), X12_readRest_L143 F   k l0 l1 l3 h = some (r, hf) → Go K MX12_readRest (QM K (some (vi r)) hf) hf 143 [(0, vr (some l0)), (1, vi l1), (3, vi l3)] [] h := by
  intro k
  induction k with
  | zero => intro l0 l1 l3 h E; exact nomatch E
  | succ k hrc143 =>
    intro l0 l1 l3 h E
    rw [X12_readRest_L143_s] at E
    refine go_iload_n (j := 2) (n := 144) rfl rfl dX12_readRest_143 rfl ?_
    refine go_aload_n (j := 0) (n := 145) rfl rfl dX12_readRest_144 rfl ?_
    replace E := Option.bind_eq_some_iff.mp E; obtain ⟨v1, ev1, E⟩ := E
    refine go_getP (n := 148) ev1 fl_RX12_31 rfl dX12_readRest_145 rfl ?_
    refine go_iload_n (j := 1) (n := 149) rfl rfl dX12_readRest_148 rfl ?_
    refine go_iconst (z := 3) (n := 150) ⟨by decide, by decide⟩ dX12_readRest_149 rfl ?_
    refine go_iadd (n := 151) dX12_readRest_150 rfl ?_
    replace E := Option.bind_eq_some_iff.mp E; obtain ⟨v2, ev2, E⟩ := E
    refine go_iaload (n := 152) ev2 dX12_readRest_151 rfl ?_
    refine go_icmp_gt (tgt := 166) (n := 155) dX12_readRest_152 rfl rfl (fun c3 => ?_) (fun c3 => ?_)
    · rw [if_pos c3] at E
      refine go_goto (tgt := 221) dX12_readRest_166 rfl ?_
      refine go_pick (lv' := [(0, vr (some l0)), (1, vi l1)]) [0, 1] rfl ?_
      exact SX12_readRest_L221     _ _  _ E
    · rw [if_neg c3] at E
      refine go_aload_n (j := 0) (n := 156) rfl rfl dX12_readRest_155 rfl ?_
      refine go_iload_n (j := 2) (n := 157) rfl rfl dX12_readRest_156 rfl ?_
      replace E := Option.bind_eq_some_iff.mp E; obtain ⟨a6, ea6, E⟩ := E
      obtain ⟨fa6, ga6⟩ := xrc_some ea6
      replace E := xb_some E; obtain ⟨v4, h5, ev4, E⟩ := E
      refine go_callV (y := yX12_isRead) (n := 160) (st := []) (as := [vi l3]) (stk9 := []) (OX12_isRead ev4) yw_X12_isRead ci_12 ga6 wml_RX12_170 wim_X12_isRead wse_X12_isRead (Nat.le_of_ble_eq_true rfl) rfl ⟨Nat.le_of_ble_eq_true rfl, Nat.le_of_ble_eq_true rfl⟩ (Nat.le_of_ble_eq_true rfl) dX12_readRest_157 rfl (by cases fa6; rfl) rfl ?_
      refine go_iinc (j := 2) (n := 163) (lv' := [(3, vi (w32 (l3 + 1))), (0, vr (some l0)), (1, vi l1)]) rfl dX12_readRest_160 rfl (Nat.le_of_ble_eq_true rfl) rfl ?_
      refine go_goto (tgt := 143) dX12_readRest_163 rfl ?_
      refine go_pick (lv' := [(0, vr (some l0)), (1, vi l1), (3, vi (w32 (l3 + 1)))]) [1, 2, 0] rfl ?_
      exact hrc143 _ _ _ _ E
noncomputable def X12_readRest (F : Nat)   (l0 : Nat) (l1 : Int)  (h : HP) : Option (Int × HP) :=
  (xgP h (some l0) 12 31 12).bind fun v1 =>
  (xaI h v1 100 l1).bind fun v2 =>
  if v2 = 3 then
    X12_readRest_L17 F l0 h
  else
    if v2 = 4 then
      X12_readRest_L17 F l0 h
    else
      (xrc h (some l0) 12 31).bind fun a7 =>
      xb (X12_tellsWord F a7 (w32 (l1 + 1)) 16 h) fun v5 h6 =>
      if v5 = 0 then
        some (0, h6)
      else
        if v2 = 0 then
          (xrc h6 (some l0) 12 31).bind fun a50 =>
          xb (X12_sign F a50 61 h6) fun v48 h49 =>
          if v48 = 0 then
            some (0, h49)
          else
            (xrc h49 (some l0) 12 31).bind fun a54 =>
            xb (X12_readSum F a54 h49) fun v52 h53 =>
            if v52 = 0 then
              some (0, h53)
            else
              X12_readRest_L221 F l0 l1 h53
        else
          if v2 = 1 then
            (xrc h6 (some l0) 12 31).bind fun a30 =>
            xb (X12_needs F a30 (some 1000015) h6) fun v28 h29 =>
            if v28 = 0 then
              some (0, h29)
            else
              (xrc h29 (some l0) 12 31).bind fun a34 =>
              xb (X12_tellsWord F a34 (w32 (l1 + 2)) 0 h29) fun v32 h33 =>
              if v32 = 0 then
                some (0, h33)
              else
                (xrc h33 (some l0) 12 31).bind fun a38 =>
                xb (X12_needs F a38 (some 1000016) h33) fun v36 h37 =>
                if v36 = 0 then
                  some (0, h37)
                else
                  (xgP h37 (some l0) 12 31 12).bind fun v40 =>
                  (xaI h37 v40 100 (w32 (l1 + 2))).bind fun v41 =>
                  (xrc h37 (some l0) 12 31).bind fun a44 =>
                  xb (X12_tellsWord F a44 (w32 (l1 + 3)) v41 h37) fun v42 h43 =>
                  if v42 = 0 then
                    some (0, h43)
                  else
                    (xgP h43 (some l0) 12 31 12).bind fun v46 =>
                    (xaI h43 v46 100 (w32 (l1 + 2))).bind fun v47 =>
                    X12_readRest_L143 F F l0 l1 v47 h43
          else
            (xrc h6 (some l0) 12 31).bind fun a13 =>
            xb (X12_needs F a13 (some 1000017) h6) fun v11 h12 =>
            if v11 = 0 then
              some (0, h12)
            else
              (xgP h12 (some l0) 12 31 12).bind fun v15 =>
              (xrc h12 (some l0) 12 31).bind fun a18 =>
              xb (X12_number F a18 1 9999 h12) fun v16 h17 =>
              (xsI h17 v15 (w32 (l1 + 2)) v16).bind fun h19 =>
              (xgP h19 (some l0) 12 31 12).bind fun v20 =>
              (xaI h19 v20 100 (w32 (l1 + 2))).bind fun v21 =>
              if 0 ≤ v21 then
                (xgP h19 (some l0) 12 31 12).bind fun v23 =>
                (xaI h19 v23 100 (w32 (l1 + 1))).bind fun v24 =>
                (xrc h19 (some l0) 12 31).bind fun a27 =>
                xb (X12_isRead F a27 v24 h19) fun v25 h26 =>
                X12_readRest_L221 F l0 l1 h26
              else
                some (0, h19)
set_option maxRecDepth 100000 in
theorem SX12_readRest {K : Ctx} {F : Nat} {r : Int} {hf : HP}     (l0 : Nat) (l1 : Int)  (h : HP) (E : X12_readRest F   l0 l1 h = some (r, hf)) : Go K MX12_readRest (QM K (some (vi r)) hf) hf 0 [(0, vr (some l0)), (1, vi l1)] [] h := by
  unfold X12_readRest at E
  refine go_aload_n (j := 0) (n := 1) rfl rfl dX12_readRest_0 rfl ?_
  replace E := Option.bind_eq_some_iff.mp E; obtain ⟨v1, ev1, E⟩ := E
  refine go_getP (n := 4) ev1 fl_RX12_31 rfl dX12_readRest_1 rfl ?_
  refine go_iload_n (j := 1) (n := 5) rfl rfl dX12_readRest_4 rfl ?_
  replace E := Option.bind_eq_some_iff.mp E; obtain ⟨v2, ev2, E⟩ := E
  refine go_iaload (n := 6) ev2 dX12_readRest_5 rfl ?_
  refine go_istore_n (n := 7) (lv' := [(2, vi v2), (0, vr (some l0)), (1, vi l1)]) rfl dX12_readRest_6 rfl (Nat.le_of_ble_eq_true rfl) rfl ?_
  refine go_iload_n (j := 0) (n := 8) rfl rfl dX12_readRest_7 rfl ?_
  refine go_iconst (z := 3) (n := 9) ⟨by decide, by decide⟩ dX12_readRest_8 rfl ?_
  refine go_icmp_eq (tgt := 17) (n := 12) dX12_readRest_9 rfl rfl (fun c3 => ?_) (fun c3 => ?_)
  · rw [if_pos c3] at E
    refine go_pick (lv' := [(0, vr (some l0))]) [1] rfl ?_
    exact SX12_readRest_L17     _  _ E
  · rw [if_neg c3] at E
    refine go_iload_n (j := 0) (n := 13) rfl rfl dX12_readRest_12 rfl ?_
    refine go_iconst (z := 4) (n := 14) ⟨by decide, by decide⟩ dX12_readRest_13 rfl ?_
    refine go_icmp_ne (tgt := 44) (n := 17) dX12_readRest_14 rfl rfl (fun c4 => ?_) (fun c4 => ?_)
    · rw [if_neg c4] at E
      refine go_aload_n (j := 1) (n := 45) rfl rfl dX12_readRest_44 rfl ?_
      refine go_iload_n (j := 2) (n := 46) rfl rfl dX12_readRest_45 rfl ?_
      refine go_iconst (z := 1) (n := 47) ⟨by decide, by decide⟩ dX12_readRest_46 rfl ?_
      refine go_iadd (n := 48) dX12_readRest_47 rfl ?_
      refine go_bipush (z := 16) (n := 50) ⟨by decide, by decide⟩ dX12_readRest_48 rfl ?_
      replace E := Option.bind_eq_some_iff.mp E; obtain ⟨a7, ea7, E⟩ := E
      obtain ⟨fa7, ga7⟩ := xrc_some ea7
      replace E := xb_some E; obtain ⟨v5, h6, ev5, E⟩ := E
      refine go_callV (y := yX12_tellsWord) (n := 53) (st := []) (as := [vi (w32 (l1 + 1)), vi 16]) (stk9 := [vi v5]) (OX12_tellsWord ev5) yw_X12_tellsWord ci_12 ga7 wml_RX12_213 wim_X12_tellsWord wse_X12_tellsWord (Nat.le_of_ble_eq_true rfl) rfl ⟨Nat.le_of_ble_eq_true rfl, Nat.le_of_ble_eq_true rfl⟩ (Nat.le_of_ble_eq_true rfl) dX12_readRest_50 rfl (by cases fa7; rfl) rfl ?_
      refine go_if_ne (tgt := 58) (n := 56) dX12_readRest_53 rfl rfl (fun c8 => ?_) (fun c8 => ?_)
      · rw [if_neg c8] at E
        refine go_iload_n (j := 0) (n := 59) rfl rfl dX12_readRest_58 rfl ?_
        refine go_if_ne (tgt := 80) (n := 62) dX12_readRest_59 rfl rfl (fun c9 => ?_) (fun c9 => ?_)
        · rw [if_neg c9] at E
          refine go_iload_n (j := 0) (n := 81) rfl rfl dX12_readRest_80 rfl ?_
          refine go_iconst (z := 1) (n := 82) ⟨by decide, by decide⟩ dX12_readRest_81 rfl ?_
          refine go_icmp_ne (tgt := 169) (n := 85) dX12_readRest_82 rfl rfl (fun c10 => ?_) (fun c10 => ?_)
          · rw [if_neg c10] at E
            refine go_aload_n (j := 1) (n := 170) rfl rfl dX12_readRest_169 rfl ?_
            refine go_ldcS (j := 17) (n := 172) rfl rfl dX12_readRest_170 rfl ?_
            replace E := Option.bind_eq_some_iff.mp E; obtain ⟨a13, ea13, E⟩ := E
            obtain ⟨fa13, ga13⟩ := xrc_some ea13
            replace E := xb_some E; obtain ⟨v11, h12, ev11, E⟩ := E
            refine go_callV (y := yX12_needs) (n := 175) (st := []) (as := [vr (some 1000017)]) (stk9 := [vi v11]) (OX12_needs ev11) yw_X12_needs ci_12 ga13 wml_RX12_210 wim_X12_needs wse_X12_needs (Nat.le_of_ble_eq_true rfl) rfl ⟨Nat.le_of_ble_eq_true rfl, Nat.le_of_ble_eq_true rfl⟩ (Nat.le_of_ble_eq_true rfl) dX12_readRest_172 rfl (by cases fa13; rfl) rfl ?_
            refine go_if_ne (tgt := 180) (n := 178) dX12_readRest_175 rfl rfl (fun c14 => ?_) (fun c14 => ?_)
            · rw [if_neg c14] at E
              refine go_aload_n (j := 1) (n := 181) rfl rfl dX12_readRest_180 rfl ?_
              replace E := Option.bind_eq_some_iff.mp E; obtain ⟨v15, ev15, E⟩ := E
              refine go_getP (n := 184) ev15 fl_RX12_31 rfl dX12_readRest_181 rfl ?_
              refine go_iload_n (j := 2) (n := 185) rfl rfl dX12_readRest_184 rfl ?_
              refine go_iconst (z := 2) (n := 186) ⟨by decide, by decide⟩ dX12_readRest_185 rfl ?_
              refine go_iadd (n := 187) dX12_readRest_186 rfl ?_
              refine go_aload_n (j := 1) (n := 188) rfl rfl dX12_readRest_187 rfl ?_
              refine go_iconst (z := 1) (n := 189) ⟨by decide, by decide⟩ dX12_readRest_188 rfl ?_
              refine go_sipush (z := 9999) (n := 192) ⟨by decide, by decide⟩ dX12_readRest_189 rfl ?_
              replace E := Option.bind_eq_some_iff.mp E; obtain ⟨a18, ea18, E⟩ := E
              obtain ⟨fa18, ga18⟩ := xrc_some ea18
              replace E := xb_some E; obtain ⟨v16, h17, ev16, E⟩ := E
              refine go_callV (y := yX12_number) (n := 195) (st := [vi (w32 (l1 + 2)), vr v15]) (as := [vi 1, vi 9999]) (stk9 := [vi v16, vi (w32 (l1 + 2)), vr v15]) (OX12_number ev16) yw_X12_number ci_12 ga18 wml_RX12_155 wim_X12_number wse_X12_number (Nat.le_of_ble_eq_true rfl) rfl ⟨Nat.le_of_ble_eq_true rfl, Nat.le_of_ble_eq_true rfl⟩ (Nat.le_of_ble_eq_true rfl) dX12_readRest_192 rfl (by cases fa18; rfl) rfl ?_
              replace E := Option.bind_eq_some_iff.mp E; obtain ⟨h19, eh19, E⟩ := E
              refine go_iastore (n := 196) eh19 dX12_readRest_195 rfl ?_
              refine go_aload_n (j := 1) (n := 197) rfl rfl dX12_readRest_196 rfl ?_
              replace E := Option.bind_eq_some_iff.mp E; obtain ⟨v20, ev20, E⟩ := E
              refine go_getP (n := 200) ev20 fl_RX12_31 rfl dX12_readRest_197 rfl ?_
              refine go_iload_n (j := 2) (n := 201) rfl rfl dX12_readRest_200 rfl ?_
              refine go_iconst (z := 2) (n := 202) ⟨by decide, by decide⟩ dX12_readRest_201 rfl ?_
              refine go_iadd (n := 203) dX12_readRest_202 rfl ?_
              replace E := Option.bind_eq_some_iff.mp E; obtain ⟨v21, ev21, E⟩ := E
              refine go_iaload (n := 204) ev21 dX12_readRest_203 rfl ?_
              refine go_if_ge (tgt := 209) (n := 207) dX12_readRest_204 rfl rfl (fun c22 => ?_) (fun c22 => ?_)
              · rw [if_pos c22] at E
                refine go_aload_n (j := 1) (n := 210) rfl rfl dX12_readRest_209 rfl ?_
                refine go_aload_n (j := 1) (n := 211) rfl rfl dX12_readRest_210 rfl ?_
                replace E := Option.bind_eq_some_iff.mp E; obtain ⟨v23, ev23, E⟩ := E
                refine go_getP (n := 214) ev23 fl_RX12_31 rfl dX12_readRest_211 rfl ?_
                refine go_iload_n (j := 2) (n := 215) rfl rfl dX12_readRest_214 rfl ?_
                refine go_iconst (z := 1) (n := 216) ⟨by decide, by decide⟩ dX12_readRest_215 rfl ?_
                refine go_iadd (n := 217) dX12_readRest_216 rfl ?_
                replace E := Option.bind_eq_some_iff.mp E; obtain ⟨v24, ev24, E⟩ := E
                refine go_iaload (n := 218) ev24 dX12_readRest_217 rfl ?_
                replace E := Option.bind_eq_some_iff.mp E; obtain ⟨a27, ea27, E⟩ := E
                obtain ⟨fa27, ga27⟩ := xrc_some ea27
                replace E := xb_some E; obtain ⟨v25, h26, ev25, E⟩ := E
                refine go_callV (y := yX12_isRead) (n := 221) (st := []) (as := [vi v24]) (stk9 := []) (OX12_isRead ev25) yw_X12_isRead ci_12 ga27 wml_RX12_170 wim_X12_isRead wse_X12_isRead (Nat.le_of_ble_eq_true rfl) rfl ⟨Nat.le_of_ble_eq_true rfl, Nat.le_of_ble_eq_true rfl⟩ (Nat.le_of_ble_eq_true rfl) dX12_readRest_218 rfl (by cases fa27; rfl) rfl ?_
                refine go_pick (lv' := [(0, vr (some l0)), (1, vi l1)]) [1, 2] rfl ?_
                exact SX12_readRest_L221     _ _  _ E
              · rw [if_neg c22] at E
                refine go_iconst (z := 0) (n := 208) ⟨by decide, by decide⟩ dX12_readRest_207 rfl ?_
                cases E
                exact go_zreturn rfl (Or.inl rfl) dX12_readRest_208
            · rw [if_pos c14] at E
              refine go_iconst (z := 0) (n := 179) ⟨by decide, by decide⟩ dX12_readRest_178 rfl ?_
              cases E
              exact go_zreturn rfl (Or.inl rfl) dX12_readRest_179
          · rw [if_pos c10] at E
            refine go_aload_n (j := 1) (n := 86) rfl rfl dX12_readRest_85 rfl ?_
            refine go_ldcS (j := 15) (n := 88) rfl rfl dX12_readRest_86 rfl ?_
            replace E := Option.bind_eq_some_iff.mp E; obtain ⟨a30, ea30, E⟩ := E
            obtain ⟨fa30, ga30⟩ := xrc_some ea30
            replace E := xb_some E; obtain ⟨v28, h29, ev28, E⟩ := E
            refine go_callV (y := yX12_needs) (n := 91) (st := []) (as := [vr (some 1000015)]) (stk9 := [vi v28]) (OX12_needs ev28) yw_X12_needs ci_12 ga30 wml_RX12_210 wim_X12_needs wse_X12_needs (Nat.le_of_ble_eq_true rfl) rfl ⟨Nat.le_of_ble_eq_true rfl, Nat.le_of_ble_eq_true rfl⟩ (Nat.le_of_ble_eq_true rfl) dX12_readRest_88 rfl (by cases fa30; rfl) rfl ?_
            refine go_if_eq (tgt := 132) (n := 94) dX12_readRest_91 rfl rfl (fun c31 => ?_) (fun c31 => ?_)
            · rw [if_pos c31] at E
              refine go_iconst (z := 0) (n := 133) ⟨by decide, by decide⟩ dX12_readRest_132 rfl ?_
              cases E
              exact go_zreturn rfl (Or.inl rfl) dX12_readRest_133
            · rw [if_neg c31] at E
              refine go_aload_n (j := 1) (n := 95) rfl rfl dX12_readRest_94 rfl ?_
              refine go_iload_n (j := 2) (n := 96) rfl rfl dX12_readRest_95 rfl ?_
              refine go_iconst (z := 2) (n := 97) ⟨by decide, by decide⟩ dX12_readRest_96 rfl ?_
              refine go_iadd (n := 98) dX12_readRest_97 rfl ?_
              refine go_iconst (z := 0) (n := 99) ⟨by decide, by decide⟩ dX12_readRest_98 rfl ?_
              replace E := Option.bind_eq_some_iff.mp E; obtain ⟨a34, ea34, E⟩ := E
              obtain ⟨fa34, ga34⟩ := xrc_some ea34
              replace E := xb_some E; obtain ⟨v32, h33, ev32, E⟩ := E
              refine go_callV (y := yX12_tellsWord) (n := 102) (st := []) (as := [vi (w32 (l1 + 2)), vi 0]) (stk9 := [vi v32]) (OX12_tellsWord ev32) yw_X12_tellsWord ci_12 ga34 wml_RX12_213 wim_X12_tellsWord wse_X12_tellsWord (Nat.le_of_ble_eq_true rfl) rfl ⟨Nat.le_of_ble_eq_true rfl, Nat.le_of_ble_eq_true rfl⟩ (Nat.le_of_ble_eq_true rfl) dX12_readRest_99 rfl (by cases fa34; rfl) rfl ?_
              refine go_if_eq (tgt := 132) (n := 105) dX12_readRest_102 rfl rfl (fun c35 => ?_) (fun c35 => ?_)
              · rw [if_pos c35] at E
                refine go_iconst (z := 0) (n := 133) ⟨by decide, by decide⟩ dX12_readRest_132 rfl ?_
                cases E
                exact go_zreturn rfl (Or.inl rfl) dX12_readRest_133
              · rw [if_neg c35] at E
                refine go_aload_n (j := 1) (n := 106) rfl rfl dX12_readRest_105 rfl ?_
                refine go_ldcS (j := 16) (n := 108) rfl rfl dX12_readRest_106 rfl ?_
                replace E := Option.bind_eq_some_iff.mp E; obtain ⟨a38, ea38, E⟩ := E
                obtain ⟨fa38, ga38⟩ := xrc_some ea38
                replace E := xb_some E; obtain ⟨v36, h37, ev36, E⟩ := E
                refine go_callV (y := yX12_needs) (n := 111) (st := []) (as := [vr (some 1000016)]) (stk9 := [vi v36]) (OX12_needs ev36) yw_X12_needs ci_12 ga38 wml_RX12_210 wim_X12_needs wse_X12_needs (Nat.le_of_ble_eq_true rfl) rfl ⟨Nat.le_of_ble_eq_true rfl, Nat.le_of_ble_eq_true rfl⟩ (Nat.le_of_ble_eq_true rfl) dX12_readRest_108 rfl (by cases fa38; rfl) rfl ?_
                refine go_if_eq (tgt := 132) (n := 114) dX12_readRest_111 rfl rfl (fun c39 => ?_) (fun c39 => ?_)
                · rw [if_pos c39] at E
                  refine go_iconst (z := 0) (n := 133) ⟨by decide, by decide⟩ dX12_readRest_132 rfl ?_
                  cases E
                  exact go_zreturn rfl (Or.inl rfl) dX12_readRest_133
                · rw [if_neg c39] at E
                  refine go_aload_n (j := 1) (n := 115) rfl rfl dX12_readRest_114 rfl ?_
                  refine go_iload_n (j := 2) (n := 116) rfl rfl dX12_readRest_115 rfl ?_
                  refine go_iconst (z := 3) (n := 117) ⟨by decide, by decide⟩ dX12_readRest_116 rfl ?_
                  refine go_iadd (n := 118) dX12_readRest_117 rfl ?_
                  refine go_aload_n (j := 1) (n := 119) rfl rfl dX12_readRest_118 rfl ?_
                  replace E := Option.bind_eq_some_iff.mp E; obtain ⟨v40, ev40, E⟩ := E
                  refine go_getP (n := 122) ev40 fl_RX12_31 rfl dX12_readRest_119 rfl ?_
                  refine go_iload_n (j := 2) (n := 123) rfl rfl dX12_readRest_122 rfl ?_
                  refine go_iconst (z := 2) (n := 124) ⟨by decide, by decide⟩ dX12_readRest_123 rfl ?_
                  refine go_iadd (n := 125) dX12_readRest_124 rfl ?_
                  replace E := Option.bind_eq_some_iff.mp E; obtain ⟨v41, ev41, E⟩ := E
                  refine go_iaload (n := 126) ev41 dX12_readRest_125 rfl ?_
                  replace E := Option.bind_eq_some_iff.mp E; obtain ⟨a44, ea44, E⟩ := E
                  obtain ⟨fa44, ga44⟩ := xrc_some ea44
                  replace E := xb_some E; obtain ⟨v42, h43, ev42, E⟩ := E
                  refine go_callV (y := yX12_tellsWord) (n := 129) (st := []) (as := [vi (w32 (l1 + 3)), vi v41]) (stk9 := [vi v42]) (OX12_tellsWord ev42) yw_X12_tellsWord ci_12 ga44 wml_RX12_213 wim_X12_tellsWord wse_X12_tellsWord (Nat.le_of_ble_eq_true rfl) rfl ⟨Nat.le_of_ble_eq_true rfl, Nat.le_of_ble_eq_true rfl⟩ (Nat.le_of_ble_eq_true rfl) dX12_readRest_126 rfl (by cases fa44; rfl) rfl ?_
                  refine go_if_ne (tgt := 134) (n := 132) dX12_readRest_129 rfl rfl (fun c45 => ?_) (fun c45 => ?_)
                  · rw [if_neg c45] at E
                    refine go_aload_n (j := 1) (n := 135) rfl rfl dX12_readRest_134 rfl ?_
                    replace E := Option.bind_eq_some_iff.mp E; obtain ⟨v46, ev46, E⟩ := E
                    refine go_getP (n := 138) ev46 fl_RX12_31 rfl dX12_readRest_135 rfl ?_
                    refine go_iload_n (j := 2) (n := 139) rfl rfl dX12_readRest_138 rfl ?_
                    refine go_iconst (z := 2) (n := 140) ⟨by decide, by decide⟩ dX12_readRest_139 rfl ?_
                    refine go_iadd (n := 141) dX12_readRest_140 rfl ?_
                    replace E := Option.bind_eq_some_iff.mp E; obtain ⟨v47, ev47, E⟩ := E
                    refine go_iaload (n := 142) ev47 dX12_readRest_141 rfl ?_
                    refine go_istore_n (n := 143) (lv' := [(3, vi v47), (2, vi v2), (0, vr (some l0)), (1, vi l1)]) rfl dX12_readRest_142 rfl (Nat.le_of_ble_eq_true rfl) rfl ?_
                    refine go_pick (lv' := [(0, vr (some l0)), (1, vi l1), (3, vi v47)]) [2, 3, 0] rfl ?_
                    exact SX12_readRest_L143     F _ _ _ _ E
                  · rw [if_pos c45] at E
                    refine go_iconst (z := 0) (n := 133) ⟨by decide, by decide⟩ dX12_readRest_132 rfl ?_
                    cases E
                    exact go_zreturn rfl (Or.inl rfl) dX12_readRest_133
        · rw [if_pos c9] at E
          refine go_aload_n (j := 1) (n := 63) rfl rfl dX12_readRest_62 rfl ?_
          refine go_bipush (z := 61) (n := 65) ⟨by decide, by decide⟩ dX12_readRest_63 rfl ?_
          replace E := Option.bind_eq_some_iff.mp E; obtain ⟨a50, ea50, E⟩ := E
          obtain ⟨fa50, ga50⟩ := xrc_some ea50
          replace E := xb_some E; obtain ⟨v48, h49, ev48, E⟩ := E
          refine go_callV (y := yX12_sign) (n := 68) (st := []) (as := [vi 61]) (stk9 := [vi v48]) (OX12_sign ev48) yw_X12_sign ci_12 ga50 wml_RX12_178 wim_X12_sign wse_X12_sign (Nat.le_of_ble_eq_true rfl) rfl ⟨Nat.le_of_ble_eq_true rfl, Nat.le_of_ble_eq_true rfl⟩ (Nat.le_of_ble_eq_true rfl) dX12_readRest_65 rfl (by cases fa50; rfl) rfl ?_
          refine go_if_eq (tgt := 78) (n := 71) dX12_readRest_68 rfl rfl (fun c51 => ?_) (fun c51 => ?_)
          · rw [if_pos c51] at E
            refine go_iconst (z := 0) (n := 79) ⟨by decide, by decide⟩ dX12_readRest_78 rfl ?_
            cases E
            exact go_zreturn rfl (Or.inl rfl) dX12_readRest_79
          · rw [if_neg c51] at E
            refine go_aload_n (j := 1) (n := 72) rfl rfl dX12_readRest_71 rfl ?_
            replace E := Option.bind_eq_some_iff.mp E; obtain ⟨a54, ea54, E⟩ := E
            obtain ⟨fa54, ga54⟩ := xrc_some ea54
            replace E := xb_some E; obtain ⟨v52, h53, ev52, E⟩ := E
            refine go_callV (y := yX12_readSum) (n := 75) (st := []) (as := []) (stk9 := [vi v52]) (OX12_readSum ev52) yw_X12_readSum ci_12 ga54 wml_RX12_198 wim_X12_readSum wse_X12_readSum (Nat.le_of_ble_eq_true rfl) rfl ⟨Nat.le_of_ble_eq_true rfl, Nat.le_of_ble_eq_true rfl⟩ (Nat.le_of_ble_eq_true rfl) dX12_readRest_72 rfl (by cases fa54; rfl) rfl ?_
            refine go_if_ne (tgt := 221) (n := 78) dX12_readRest_75 rfl rfl (fun c55 => ?_) (fun c55 => ?_)
            · rw [if_neg c55] at E
              refine go_pick (lv' := [(0, vr (some l0)), (1, vi l1)]) [1, 2] rfl ?_
              exact SX12_readRest_L221     _ _  _ E
            · rw [if_pos c55] at E
              refine go_iconst (z := 0) (n := 79) ⟨by decide, by decide⟩ dX12_readRest_78 rfl ?_
              cases E
              exact go_zreturn rfl (Or.inl rfl) dX12_readRest_79
      · rw [if_pos c8] at E
        refine go_iconst (z := 0) (n := 57) ⟨by decide, by decide⟩ dX12_readRest_56 rfl ?_
        cases E
        exact go_zreturn rfl (Or.inl rfl) dX12_readRest_57
    · rw [if_pos c4] at E
      refine go_pick (lv' := [(0, vr (some l0))]) [1] rfl ?_
      exact SX12_readRest_L17     _  _ E
theorem OX12_readRest {F : Nat} {l0 : Nat} {l1 : Int} {h hf : HP} {r : Int} (e : X12_readRest F l0 l1 h = some (r, hf)) : Ok MX12_readRest [vr (some l0), vi l1] (some (vi r)) h hf := fun K _ _ _ => SX12_readRest l0 l1 h e
theorem yw_X12_readRest : YW yX12_readRest cX12_readRest 4 (some .boolean) 1 := ⟨bw_of 1990 (by decide +kernel) rfl, bw_of 129 (by decide +kernel) rfl, ⟨by decide +kernel, by decide +kernel, by decide +kernel⟩, by decide +kernel⟩
theorem wml_RX12_234 : Cond.methodLink RX12 234 yX12_readRest ∈ BW := bw_of 1987 (by decide +kernel) rfl
theorem wim_X12_readRest : Cond.instanceMethod yX12_readRest ∈ BW := bw_of 1989 (by decide +kernel) rfl
theorem wse_X12_readRest : Cond.selects RX12 yX12_readRest yX12_readRest ∈ BW := bw_of 73 (by decide +kernel) rfl
abbrev MX12_readLine : MI := (RX12, cX12_readLine, 3, (some .boolean), 114, none, "readLine")
noncomputable def X12_readLine_L158 (F : Nat)   (l0 : Nat) (l2 : Int) (s0 : Int) (s1 : Int) (s2 : Option Nat) (h : HP) : Option (Int × HP) :=
  (xsI h s2 s1 s0).bind fun h1 =>
  (xgP h1 (some l0) 12 31 12).bind fun v2 =>
  (xaI h1 v2 100 l2).bind fun v3 =>
  if v3 < 0 then
    some (0, h1)
  else
    (xrc h1 (some l0) 12 31).bind fun a7 =>
    xb (X12_readRest F a7 l2 h1) fun v5 h6 =>
    if v5 = 0 then
      some (0, h6)
    else
      (xgP h6 (some l0) 12 31 12).bind fun v9 =>
      (xgI h6 (some l0) 12 31 13).bind fun v10 =>
      (xsI h6 v9 (w32 (l2 + 5)) v10).bind fun h11 =>
      some (1, h11)
set_option maxRecDepth 100000 in
theorem SX12_readLine_L158 {K : Ctx} {F : Nat} {r : Int} {hf : HP}     (l0 : Nat) (l2 : Int) (s0 : Int) (s1 : Int) (s2 : Option Nat) (h : HP) (E : X12_readLine_L158 F   l0 l2 s0 s1 s2 h = some (r, hf)) : Go K MX12_readLine (QM K (some (vi r)) hf) hf 158 [(0, vr (some l0)), (2, vi l2)] [vi s0, vi s1, vr s2] h := by
  unfold X12_readLine_L158 at E
  replace E := Option.bind_eq_some_iff.mp E; obtain ⟨h1, eh1, E⟩ := E
  refine go_iastore (n := 159) eh1 dX12_readLine_158 rfl ?_
  refine go_aload_n (j := 0) (n := 160) rfl rfl dX12_readLine_159 rfl ?_
  replace E := Option.bind_eq_some_iff.mp E; obtain ⟨v2, ev2, E⟩ := E
  refine go_getP (n := 163) ev2 fl_RX12_31 rfl dX12_readLine_160 rfl ?_
  refine go_iload_n (j := 1) (n := 164) rfl rfl dX12_readLine_163 rfl ?_
  replace E := Option.bind_eq_some_iff.mp E; obtain ⟨v3, ev3, E⟩ := E
  refine go_iaload (n := 165) ev3 dX12_readLine_164 rfl ?_
  refine go_if_lt (tgt := 176) (n := 168) dX12_readLine_165 rfl rfl (fun c4 => ?_) (fun c4 => ?_)
  · rw [if_pos c4] at E
    refine go_iconst (z := 0) (n := 177) ⟨by decide, by decide⟩ dX12_readLine_176 rfl ?_
    cases E
    exact go_zreturn rfl (Or.inl rfl) dX12_readLine_177
  · rw [if_neg c4] at E
    refine go_aload_n (j := 0) (n := 169) rfl rfl dX12_readLine_168 rfl ?_
    refine go_iload_n (j := 1) (n := 170) rfl rfl dX12_readLine_169 rfl ?_
    replace E := Option.bind_eq_some_iff.mp E; obtain ⟨a7, ea7, E⟩ := E
    obtain ⟨fa7, ga7⟩ := xrc_some ea7
    replace E := xb_some E; obtain ⟨v5, h6, ev5, E⟩ := E
    refine go_callV (y := yX12_readRest) (n := 173) (st := []) (as := [vi l2]) (stk9 := [vi v5]) (OX12_readRest ev5) yw_X12_readRest ci_12 ga7 wml_RX12_234 wim_X12_readRest wse_X12_readRest (Nat.le_of_ble_eq_true rfl) rfl ⟨Nat.le_of_ble_eq_true rfl, Nat.le_of_ble_eq_true rfl⟩ (Nat.le_of_ble_eq_true rfl) dX12_readLine_170 rfl (by cases fa7; rfl) rfl ?_
    refine go_if_ne (tgt := 178) (n := 176) dX12_readLine_173 rfl rfl (fun c8 => ?_) (fun c8 => ?_)
    · rw [if_neg c8] at E
      refine go_aload_n (j := 0) (n := 179) rfl rfl dX12_readLine_178 rfl ?_
      replace E := Option.bind_eq_some_iff.mp E; obtain ⟨v9, ev9, E⟩ := E
      refine go_getP (n := 182) ev9 fl_RX12_31 rfl dX12_readLine_179 rfl ?_
      refine go_iload_n (j := 1) (n := 183) rfl rfl dX12_readLine_182 rfl ?_
      refine go_iconst (z := 5) (n := 184) ⟨by decide, by decide⟩ dX12_readLine_183 rfl ?_
      refine go_iadd (n := 185) dX12_readLine_184 rfl ?_
      refine go_aload_n (j := 0) (n := 186) rfl rfl dX12_readLine_185 rfl ?_
      replace E := Option.bind_eq_some_iff.mp E; obtain ⟨v10, ev10, E⟩ := E
      refine go_getI (n := 189) ev10 fl_RX12_144 rfl dX12_readLine_186 rfl ?_
      replace E := Option.bind_eq_some_iff.mp E; obtain ⟨h11, eh11, E⟩ := E
      refine go_iastore (n := 190) eh11 dX12_readLine_189 rfl ?_
      refine go_iconst (z := 1) (n := 191) ⟨by decide, by decide⟩ dX12_readLine_190 rfl ?_
      cases E
      exact go_zreturn rfl (Or.inr rfl) dX12_readLine_191
    · rw [if_pos c8] at E
      refine go_iconst (z := 0) (n := 177) ⟨by decide, by decide⟩ dX12_readLine_176 rfl ?_
      cases E
      exact go_zreturn rfl (Or.inl rfl) dX12_readLine_177
noncomputable def X12_readLine_L87 (F : Nat)   (l0 : Nat) (l2 : Int)  (h : HP) : Option (Int × HP) :=
  (xgP h (some l0) 12 31 12).bind fun v1 =>
  (xrc h (some l0) 12 31).bind fun a4 =>
  xb (X12_isWord F a4 (some 1000002) h) fun v2 h3 =>
  if v2 = 0 then
    (xrc h3 (some l0) 12 31).bind fun a8 =>
    xb (X12_isWord F a8 (some 1000003) h3) fun v6 h7 =>
    if v6 = 0 then
      (xrc h7 (some l0) 12 31).bind fun a12 =>
      xb (X12_isWord F a12 (some 1000004) h7) fun v10 h11 =>
      if v10 = 0 then
        (xrc h11 (some l0) 12 31).bind fun a16 =>
        xb (X12_isWord F a16 (some 1000005) h11) fun v14 h15 =>
        if v14 = 0 then
          (xrc h15 (some l0) 12 31).bind fun a20 =>
          xb (X12_isWord F a20 (some 1000006) h15) fun v18 h19 =>
          X12_readLine_L158 F l0 l2 (if v18 = 0 then (-1) else 4) l2 v1 h19
        else
          X12_readLine_L158 F l0 l2 3 l2 v1 h15
      else
        X12_readLine_L158 F l0 l2 2 l2 v1 h11
    else
      X12_readLine_L158 F l0 l2 1 l2 v1 h7
  else
    X12_readLine_L158 F l0 l2 0 l2 v1 h3
set_option maxRecDepth 100000 in
theorem SX12_readLine_L87 {K : Ctx} {F : Nat} {r : Int} {hf : HP}     (l0 : Nat) (l2 : Int)  (h : HP) (E : X12_readLine_L87 F   l0 l2 h = some (r, hf)) : Go K MX12_readLine (QM K (some (vi r)) hf) hf 87 [(0, vr (some l0)), (2, vi l2)] [] h := by
  unfold X12_readLine_L87 at E
  refine go_aload_n (j := 0) (n := 88) rfl rfl dX12_readLine_87 rfl ?_
  replace E := Option.bind_eq_some_iff.mp E; obtain ⟨v1, ev1, E⟩ := E
  refine go_getP (n := 91) ev1 fl_RX12_31 rfl dX12_readLine_88 rfl ?_
  refine go_iload_n (j := 1) (n := 92) rfl rfl dX12_readLine_91 rfl ?_
  refine go_aload_n (j := 0) (n := 93) rfl rfl dX12_readLine_92 rfl ?_
  refine go_ldcS (j := 2) (n := 95) rfl rfl dX12_readLine_93 rfl ?_
  replace E := Option.bind_eq_some_iff.mp E; obtain ⟨a4, ea4, E⟩ := E
  obtain ⟨fa4, ga4⟩ := xrc_some ea4
  replace E := xb_some E; obtain ⟨v2, h3, ev2, E⟩ := E
  refine go_callV (y := yX12_isWord) (n := 98) (st := [vi l2, vr v1]) (as := [vr (some 1000002)]) (stk9 := [vi v2, vi l2, vr v1]) (OX12_isWord ev2) yw_X12_isWord ci_12 ga4 wml_RX12_137 wim_X12_isWord wse_X12_isWord (Nat.le_of_ble_eq_true rfl) rfl ⟨Nat.le_of_ble_eq_true rfl, Nat.le_of_ble_eq_true rfl⟩ (Nat.le_of_ble_eq_true rfl) dX12_readLine_95 rfl (by cases fa4; rfl) rfl ?_
  refine go_if_eq (tgt := 105) (n := 101) dX12_readLine_98 rfl rfl (fun c5 => ?_) (fun c5 => ?_)
  · rw [if_pos c5] at E
    refine go_aload_n (j := 0) (n := 106) rfl rfl dX12_readLine_105 rfl ?_
    refine go_ldcS (j := 3) (n := 108) rfl rfl dX12_readLine_106 rfl ?_
    replace E := Option.bind_eq_some_iff.mp E; obtain ⟨a8, ea8, E⟩ := E
    obtain ⟨fa8, ga8⟩ := xrc_some ea8
    replace E := xb_some E; obtain ⟨v6, h7, ev6, E⟩ := E
    refine go_callV (y := yX12_isWord) (n := 111) (st := [vi l2, vr v1]) (as := [vr (some 1000003)]) (stk9 := [vi v6, vi l2, vr v1]) (OX12_isWord ev6) yw_X12_isWord ci_12 ga8 wml_RX12_137 wim_X12_isWord wse_X12_isWord (Nat.le_of_ble_eq_true rfl) rfl ⟨Nat.le_of_ble_eq_true rfl, Nat.le_of_ble_eq_true rfl⟩ (Nat.le_of_ble_eq_true rfl) dX12_readLine_108 rfl (by cases fa8; rfl) rfl ?_
    refine go_if_eq (tgt := 118) (n := 114) dX12_readLine_111 rfl rfl (fun c9 => ?_) (fun c9 => ?_)
    · rw [if_pos c9] at E
      refine go_aload_n (j := 0) (n := 119) rfl rfl dX12_readLine_118 rfl ?_
      refine go_ldcS (j := 4) (n := 121) rfl rfl dX12_readLine_119 rfl ?_
      replace E := Option.bind_eq_some_iff.mp E; obtain ⟨a12, ea12, E⟩ := E
      obtain ⟨fa12, ga12⟩ := xrc_some ea12
      replace E := xb_some E; obtain ⟨v10, h11, ev10, E⟩ := E
      refine go_callV (y := yX12_isWord) (n := 124) (st := [vi l2, vr v1]) (as := [vr (some 1000004)]) (stk9 := [vi v10, vi l2, vr v1]) (OX12_isWord ev10) yw_X12_isWord ci_12 ga12 wml_RX12_137 wim_X12_isWord wse_X12_isWord (Nat.le_of_ble_eq_true rfl) rfl ⟨Nat.le_of_ble_eq_true rfl, Nat.le_of_ble_eq_true rfl⟩ (Nat.le_of_ble_eq_true rfl) dX12_readLine_121 rfl (by cases fa12; rfl) rfl ?_
      refine go_if_eq (tgt := 131) (n := 127) dX12_readLine_124 rfl rfl (fun c13 => ?_) (fun c13 => ?_)
      · rw [if_pos c13] at E
        refine go_aload_n (j := 0) (n := 132) rfl rfl dX12_readLine_131 rfl ?_
        refine go_ldcS (j := 5) (n := 134) rfl rfl dX12_readLine_132 rfl ?_
        replace E := Option.bind_eq_some_iff.mp E; obtain ⟨a16, ea16, E⟩ := E
        obtain ⟨fa16, ga16⟩ := xrc_some ea16
        replace E := xb_some E; obtain ⟨v14, h15, ev14, E⟩ := E
        refine go_callV (y := yX12_isWord) (n := 137) (st := [vi l2, vr v1]) (as := [vr (some 1000005)]) (stk9 := [vi v14, vi l2, vr v1]) (OX12_isWord ev14) yw_X12_isWord ci_12 ga16 wml_RX12_137 wim_X12_isWord wse_X12_isWord (Nat.le_of_ble_eq_true rfl) rfl ⟨Nat.le_of_ble_eq_true rfl, Nat.le_of_ble_eq_true rfl⟩ (Nat.le_of_ble_eq_true rfl) dX12_readLine_134 rfl (by cases fa16; rfl) rfl ?_
        refine go_if_eq (tgt := 144) (n := 140) dX12_readLine_137 rfl rfl (fun c17 => ?_) (fun c17 => ?_)
        · rw [if_pos c17] at E
          refine go_aload_n (j := 0) (n := 145) rfl rfl dX12_readLine_144 rfl ?_
          refine go_ldcS (j := 6) (n := 147) rfl rfl dX12_readLine_145 rfl ?_
          replace E := Option.bind_eq_some_iff.mp E; obtain ⟨a20, ea20, E⟩ := E
          obtain ⟨fa20, ga20⟩ := xrc_some ea20
          replace E := xb_some E; obtain ⟨v18, h19, ev18, E⟩ := E
          refine go_callV (y := yX12_isWord) (n := 150) (st := [vi l2, vr v1]) (as := [vr (some 1000006)]) (stk9 := [vi v18, vi l2, vr v1]) (OX12_isWord ev18) yw_X12_isWord ci_12 ga20 wml_RX12_137 wim_X12_isWord wse_X12_isWord (Nat.le_of_ble_eq_true rfl) rfl ⟨Nat.le_of_ble_eq_true rfl, Nat.le_of_ble_eq_true rfl⟩ (Nat.le_of_ble_eq_true rfl) dX12_readLine_147 rfl (by cases fa20; rfl) rfl ?_
          refine go_if_eq (tgt := 157) (n := 153) dX12_readLine_150 rfl rfl (fun c21 => ?_) (fun c21 => ?_)
          · simp only [if_pos c21] at E
            refine go_iconst (z := (-1)) (n := 158) ⟨by decide, by decide⟩ dX12_readLine_157 rfl ?_
            exact SX12_readLine_L158     _ _ _ _ _ _ E
          · simp only [if_neg c21] at E
            refine go_iconst (z := 4) (n := 154) ⟨by decide, by decide⟩ dX12_readLine_153 rfl ?_
            refine go_goto (tgt := 158) dX12_readLine_154 rfl ?_
            exact SX12_readLine_L158     _ _ _ _ _ _ E
        · rw [if_neg c17] at E
          refine go_iconst (z := 3) (n := 141) ⟨by decide, by decide⟩ dX12_readLine_140 rfl ?_
          refine go_goto (tgt := 158) dX12_readLine_141 rfl ?_
          exact SX12_readLine_L158     _ _ _ _ _ _ E
      · rw [if_neg c13] at E
        refine go_iconst (z := 2) (n := 128) ⟨by decide, by decide⟩ dX12_readLine_127 rfl ?_
        refine go_goto (tgt := 158) dX12_readLine_128 rfl ?_
        exact SX12_readLine_L158     _ _ _ _ _ _ E
    · rw [if_neg c9] at E
      refine go_iconst (z := 1) (n := 115) ⟨by decide, by decide⟩ dX12_readLine_114 rfl ?_
      refine go_goto (tgt := 158) dX12_readLine_115 rfl ?_
      exact SX12_readLine_L158     _ _ _ _ _ _ E
  · rw [if_neg c5] at E
    refine go_iconst (z := 0) (n := 102) ⟨by decide, by decide⟩ dX12_readLine_101 rfl ?_
    refine go_goto (tgt := 158) dX12_readLine_102 rfl ?_
    exact SX12_readLine_L158     _ _ _ _ _ _ E
noncomputable def X12_readLine (F : Nat)   (l0 : Nat) (l1 : Int)  (h : HP) : Option (Int × HP) :=
  (xrc h (some l0) 12 31).bind fun a3 =>
  xb (X12_letters F a3 h) fun v1 h2 =>
  if l1 = 10 then
    some (0, h2)
  else
    (xgP h2 (some l0) 12 31 12).bind fun v5 =>
    (xsI h2 v5 (w32 ((w32 (22 + (w32 (6 * l1)))) + 2)) 1).bind fun h6 =>
    (xgP h6 (some l0) 12 31 12).bind fun v7 =>
    (xgI h6 (some l0) 12 31 13).bind fun v8 =>
    (xsI h6 v7 (w32 ((w32 (22 + (w32 (6 * l1)))) + 4)) v8).bind fun h9 =>
    (xrc h9 (some l0) 12 31).bind fun a12 =>
    xb (X12_isWord F a12 (some 1000001) h9) fun v10 h11 =>
    if v10 = 0 then
      X12_readLine_L87 F l0 (w32 (22 + (w32 (6 * l1)))) h11
    else
      (xgP h11 (some l0) 12 31 12).bind fun v14 =>
      (xrc h11 (some l0) 12 31).bind fun a17 =>
      xb (X12_number F a17 1 9 h11) fun v15 h16 =>
      (xsI h16 v14 (w32 ((w32 (22 + (w32 (6 * l1)))) + 2)) v15).bind fun h18 =>
      (xgP h18 (some l0) 12 31 12).bind fun v19 =>
      (xaI h18 v19 100 (w32 ((w32 (22 + (w32 (6 * l1)))) + 2))).bind fun v20 =>
      if v20 < 0 then
        some (0, h18)
      else
        (xrc h18 (some l0) 12 31).bind fun a24 =>
        xb (X12_needs F a24 (some 1000002) h18) fun v22 h23 =>
        if v22 = 0 then
          some (0, h23)
        else
          X12_readLine_L87 F l0 (w32 (22 + (w32 (6 * l1)))) h23
set_option maxRecDepth 100000 in
theorem SX12_readLine {K : Ctx} {F : Nat} {r : Int} {hf : HP}     (l0 : Nat) (l1 : Int)  (h : HP) (E : X12_readLine F   l0 l1 h = some (r, hf)) : Go K MX12_readLine (QM K (some (vi r)) hf) hf 0 [(0, vr (some l0)), (1, vi l1)] [] h := by
  unfold X12_readLine at E
  refine go_aload_n (j := 0) (n := 1) rfl rfl dX12_readLine_0 rfl ?_
  replace E := Option.bind_eq_some_iff.mp E; obtain ⟨a3, ea3, E⟩ := E
  obtain ⟨fa3, ga3⟩ := xrc_some ea3
  replace E := xb_some E; obtain ⟨v1, h2, ev1, E⟩ := E
  refine go_callV (y := yX12_letters) (n := 4) (st := []) (as := []) (stk9 := []) (OX12_letters ev1) yw_X12_letters ci_12 ga3 wml_RX12_134 wim_X12_letters wse_X12_letters (Nat.le_of_ble_eq_true rfl) rfl ⟨Nat.le_of_ble_eq_true rfl, Nat.le_of_ble_eq_true rfl⟩ (Nat.le_of_ble_eq_true rfl) dX12_readLine_1 rfl (by cases fa3; rfl) rfl ?_
  refine go_iload_n (j := 1) (n := 5) rfl rfl dX12_readLine_4 rfl ?_
  refine go_bipush (z := 10) (n := 7) ⟨by decide, by decide⟩ dX12_readLine_5 rfl ?_
  refine go_icmp_ne (tgt := 12) (n := 10) dX12_readLine_7 rfl rfl (fun c4 => ?_) (fun c4 => ?_)
  · rw [if_neg c4] at E
    refine go_bipush (z := 22) (n := 14) ⟨by decide, by decide⟩ dX12_readLine_12 rfl ?_
    refine go_bipush (z := 6) (n := 16) ⟨by decide, by decide⟩ dX12_readLine_14 rfl ?_
    refine go_iload_n (j := 1) (n := 17) rfl rfl dX12_readLine_16 rfl ?_
    refine go_imul (n := 18) dX12_readLine_17 rfl ?_
    refine go_iadd (n := 19) dX12_readLine_18 rfl ?_
    refine go_istore_n (n := 20) (lv' := [(2, vi (w32 (22 + (w32 (6 * l1))))), (0, vr (some l0)), (1, vi l1)]) rfl dX12_readLine_19 rfl (Nat.le_of_ble_eq_true rfl) rfl ?_
    refine go_aload_n (j := 1) (n := 21) rfl rfl dX12_readLine_20 rfl ?_
    replace E := Option.bind_eq_some_iff.mp E; obtain ⟨v5, ev5, E⟩ := E
    refine go_getP (n := 24) ev5 fl_RX12_31 rfl dX12_readLine_21 rfl ?_
    refine go_iload_n (j := 0) (n := 25) rfl rfl dX12_readLine_24 rfl ?_
    refine go_iconst (z := 2) (n := 26) ⟨by decide, by decide⟩ dX12_readLine_25 rfl ?_
    refine go_iadd (n := 27) dX12_readLine_26 rfl ?_
    refine go_iconst (z := 1) (n := 28) ⟨by decide, by decide⟩ dX12_readLine_27 rfl ?_
    replace E := Option.bind_eq_some_iff.mp E; obtain ⟨h6, eh6, E⟩ := E
    refine go_iastore (n := 29) eh6 dX12_readLine_28 rfl ?_
    refine go_aload_n (j := 1) (n := 30) rfl rfl dX12_readLine_29 rfl ?_
    replace E := Option.bind_eq_some_iff.mp E; obtain ⟨v7, ev7, E⟩ := E
    refine go_getP (n := 33) ev7 fl_RX12_31 rfl dX12_readLine_30 rfl ?_
    refine go_iload_n (j := 0) (n := 34) rfl rfl dX12_readLine_33 rfl ?_
    refine go_iconst (z := 4) (n := 35) ⟨by decide, by decide⟩ dX12_readLine_34 rfl ?_
    refine go_iadd (n := 36) dX12_readLine_35 rfl ?_
    refine go_aload_n (j := 1) (n := 37) rfl rfl dX12_readLine_36 rfl ?_
    replace E := Option.bind_eq_some_iff.mp E; obtain ⟨v8, ev8, E⟩ := E
    refine go_getI (n := 40) ev8 fl_RX12_144 rfl dX12_readLine_37 rfl ?_
    replace E := Option.bind_eq_some_iff.mp E; obtain ⟨h9, eh9, E⟩ := E
    refine go_iastore (n := 41) eh9 dX12_readLine_40 rfl ?_
    refine go_aload_n (j := 1) (n := 42) rfl rfl dX12_readLine_41 rfl ?_
    refine go_ldcS (j := 1) (n := 44) rfl rfl dX12_readLine_42 rfl ?_
    replace E := Option.bind_eq_some_iff.mp E; obtain ⟨a12, ea12, E⟩ := E
    obtain ⟨fa12, ga12⟩ := xrc_some ea12
    replace E := xb_some E; obtain ⟨v10, h11, ev10, E⟩ := E
    refine go_callV (y := yX12_isWord) (n := 47) (st := []) (as := [vr (some 1000001)]) (stk9 := [vi v10]) (OX12_isWord ev10) yw_X12_isWord ci_12 ga12 wml_RX12_137 wim_X12_isWord wse_X12_isWord (Nat.le_of_ble_eq_true rfl) rfl ⟨Nat.le_of_ble_eq_true rfl, Nat.le_of_ble_eq_true rfl⟩ (Nat.le_of_ble_eq_true rfl) dX12_readLine_44 rfl (by cases fa12; rfl) rfl ?_
    refine go_if_eq (tgt := 87) (n := 50) dX12_readLine_47 rfl rfl (fun c13 => ?_) (fun c13 => ?_)
    · rw [if_pos c13] at E
      refine go_pick (lv' := [(0, vr (some l0)), (2, vi (w32 (22 + (w32 (6 * l1)))))]) [1, 0] rfl ?_
      exact SX12_readLine_L87     _ _  _ E
    · rw [if_neg c13] at E
      refine go_aload_n (j := 1) (n := 51) rfl rfl dX12_readLine_50 rfl ?_
      replace E := Option.bind_eq_some_iff.mp E; obtain ⟨v14, ev14, E⟩ := E
      refine go_getP (n := 54) ev14 fl_RX12_31 rfl dX12_readLine_51 rfl ?_
      refine go_iload_n (j := 0) (n := 55) rfl rfl dX12_readLine_54 rfl ?_
      refine go_iconst (z := 2) (n := 56) ⟨by decide, by decide⟩ dX12_readLine_55 rfl ?_
      refine go_iadd (n := 57) dX12_readLine_56 rfl ?_
      refine go_aload_n (j := 1) (n := 58) rfl rfl dX12_readLine_57 rfl ?_
      refine go_iconst (z := 1) (n := 59) ⟨by decide, by decide⟩ dX12_readLine_58 rfl ?_
      refine go_bipush (z := 9) (n := 61) ⟨by decide, by decide⟩ dX12_readLine_59 rfl ?_
      replace E := Option.bind_eq_some_iff.mp E; obtain ⟨a17, ea17, E⟩ := E
      obtain ⟨fa17, ga17⟩ := xrc_some ea17
      replace E := xb_some E; obtain ⟨v15, h16, ev15, E⟩ := E
      refine go_callV (y := yX12_number) (n := 64) (st := [vi (w32 ((w32 (22 + (w32 (6 * l1)))) + 2)), vr v14]) (as := [vi 1, vi 9]) (stk9 := [vi v15, vi (w32 ((w32 (22 + (w32 (6 * l1)))) + 2)), vr v14]) (OX12_number ev15) yw_X12_number ci_12 ga17 wml_RX12_155 wim_X12_number wse_X12_number (Nat.le_of_ble_eq_true rfl) rfl ⟨Nat.le_of_ble_eq_true rfl, Nat.le_of_ble_eq_true rfl⟩ (Nat.le_of_ble_eq_true rfl) dX12_readLine_61 rfl (by cases fa17; rfl) rfl ?_
      replace E := Option.bind_eq_some_iff.mp E; obtain ⟨h18, eh18, E⟩ := E
      refine go_iastore (n := 65) eh18 dX12_readLine_64 rfl ?_
      refine go_aload_n (j := 1) (n := 66) rfl rfl dX12_readLine_65 rfl ?_
      replace E := Option.bind_eq_some_iff.mp E; obtain ⟨v19, ev19, E⟩ := E
      refine go_getP (n := 69) ev19 fl_RX12_31 rfl dX12_readLine_66 rfl ?_
      refine go_iload_n (j := 0) (n := 70) rfl rfl dX12_readLine_69 rfl ?_
      refine go_iconst (z := 2) (n := 71) ⟨by decide, by decide⟩ dX12_readLine_70 rfl ?_
      refine go_iadd (n := 72) dX12_readLine_71 rfl ?_
      replace E := Option.bind_eq_some_iff.mp E; obtain ⟨v20, ev20, E⟩ := E
      refine go_iaload (n := 73) ev20 dX12_readLine_72 rfl ?_
      refine go_if_lt (tgt := 85) (n := 76) dX12_readLine_73 rfl rfl (fun c21 => ?_) (fun c21 => ?_)
      · rw [if_pos c21] at E
        refine go_iconst (z := 0) (n := 86) ⟨by decide, by decide⟩ dX12_readLine_85 rfl ?_
        cases E
        exact go_zreturn rfl (Or.inl rfl) dX12_readLine_86
      · rw [if_neg c21] at E
        refine go_aload_n (j := 1) (n := 77) rfl rfl dX12_readLine_76 rfl ?_
        refine go_ldcS (j := 2) (n := 79) rfl rfl dX12_readLine_77 rfl ?_
        replace E := Option.bind_eq_some_iff.mp E; obtain ⟨a24, ea24, E⟩ := E
        obtain ⟨fa24, ga24⟩ := xrc_some ea24
        replace E := xb_some E; obtain ⟨v22, h23, ev22, E⟩ := E
        refine go_callV (y := yX12_needs) (n := 82) (st := []) (as := [vr (some 1000002)]) (stk9 := [vi v22]) (OX12_needs ev22) yw_X12_needs ci_12 ga24 wml_RX12_210 wim_X12_needs wse_X12_needs (Nat.le_of_ble_eq_true rfl) rfl ⟨Nat.le_of_ble_eq_true rfl, Nat.le_of_ble_eq_true rfl⟩ (Nat.le_of_ble_eq_true rfl) dX12_readLine_79 rfl (by cases fa24; rfl) rfl ?_
        refine go_if_ne (tgt := 87) (n := 85) dX12_readLine_82 rfl rfl (fun c25 => ?_) (fun c25 => ?_)
        · rw [if_neg c25] at E
          refine go_pick (lv' := [(0, vr (some l0)), (2, vi (w32 (22 + (w32 (6 * l1)))))]) [1, 0] rfl ?_
          exact SX12_readLine_L87     _ _  _ E
        · rw [if_pos c25] at E
          refine go_iconst (z := 0) (n := 86) ⟨by decide, by decide⟩ dX12_readLine_85 rfl ?_
          cases E
          exact go_zreturn rfl (Or.inl rfl) dX12_readLine_86
  · rw [if_pos c4] at E
    refine go_iconst (z := 0) (n := 11) ⟨by decide, by decide⟩ dX12_readLine_10 rfl ?_
    cases E
    exact go_zreturn rfl (Or.inl rfl) dX12_readLine_11
theorem OX12_readLine {F : Nat} {l0 : Nat} {l1 : Int} {h hf : HP} {r : Int} (e : X12_readLine F l0 l1 h = some (r, hf)) : Ok MX12_readLine [vr (some l0), vi l1] (some (vi r)) h hf := fun K _ _ _ => SX12_readLine l0 l1 h e
theorem yw_X12_readLine : YW yX12_readLine cX12_readLine 3 (some .boolean) 1 := ⟨bw_of 1962 (by decide +kernel) rfl, bw_of 129 (by decide +kernel) rfl, ⟨by decide +kernel, by decide +kernel, by decide +kernel⟩, by decide +kernel⟩
theorem wml_RX12_237 : Cond.methodLink RX12 237 yX12_readLine ∈ BW := bw_of 1959 (by decide +kernel) rfl
theorem wim_X12_readLine : Cond.instanceMethod yX12_readLine ∈ BW := bw_of 1961 (by decide +kernel) rfl
theorem wse_X12_readLine : Cond.selects RX12 yX12_readLine yX12_readLine ∈ BW := bw_of 68 (by decide +kernel) rfl
abbrev MX12_readAll : MI := (RX12, cX12_readAll, 2, (some .int), 115, none, "readAll")
noncomputable def X12_readAll_L39 (F : Nat)   (k : Nat) : Nat → Int → HP → Option (Int × HP) :=
  Nat.rec (motive := fun _ => Nat → Int → HP → Option (Int × HP)) (fun _ _ _ => none) (fun _ rc39 l0 l1 h =>
    (xrc h (some l0) 12 31).bind fun a3 =>
    xb (X12_readLine F a3 l1 h) fun v1 h2 =>
    if v1 = 0 then
      some ((-1), h2)
    else
      (xrc h2 (some l0) 12 31).bind fun a7 =>
      xb (X12_blanks F a7 h2) fun v5 h6 =>
      (xgI h6 (some l0) 12 31 6).bind fun v8 =>
      (xgI h6 (some l0) 12 31 7).bind fun v9 =>
      if v8 = v9 then
        some (w32 (l1 + 1), h6)
      else
        (xrc h6 (some l0) 12 31).bind fun a13 =>
        xb (X12_isAt F a13 59 59 h6) fun v11 h12 =>
        if v11 = 0 then
          some ((-1), h12)
        else
          (xgI h12 (some l0) 12 31 6).bind fun v15 =>
          (xpI h12 (some l0) 12 31 6 (w32 (v15 + 1))).bind fun h16 =>
          rc39 l0 (w32 (l1 + 1)) h16) k
theorem X12_readAll_L39_s (F : Nat)   (k : Nat) (l0 : Nat) (l1 : Int)  (h : HP) : X12_readAll_L39 F   (k + 1) l0 l1 h =
    (xrc h (some l0) 12 31).bind fun a3 =>
    xb (X12_readLine F a3 l1 h) fun v1 h2 =>
    if v1 = 0 then
      some ((-1), h2)
    else
      (xrc h2 (some l0) 12 31).bind fun a7 =>
      xb (X12_blanks F a7 h2) fun v5 h6 =>
      (xgI h6 (some l0) 12 31 6).bind fun v8 =>
      (xgI h6 (some l0) 12 31 7).bind fun v9 =>
      if v8 = v9 then
        some (w32 (l1 + 1), h6)
      else
        (xrc h6 (some l0) 12 31).bind fun a13 =>
        xb (X12_isAt F a13 59 59 h6) fun v11 h12 =>
        if v11 = 0 then
          some ((-1), h12)
        else
          (xgI h12 (some l0) 12 31 6).bind fun v15 =>
          (xpI h12 (some l0) 12 31 6 (w32 (v15 + 1))).bind fun h16 =>
          (X12_readAll_L39 F k) l0 (w32 (l1 + 1)) h16 := rfl
set_option maxRecDepth 100000 in
theorem SX12_readAll_L39 {K : Ctx} {F : Nat} {r : Int} {hf : HP}     : ∀ (k : Nat) (l0 : Nat) (l1 : Int)  (h : HP), X12_readAll_L39 F   k l0 l1 h = some (r, hf) → Go K MX12_readAll (QM K (some (vi r)) hf) hf 39 [(0, vr (some l0)), (1, vi l1)] [] h := by
  intro k
  induction k with
  | zero => intro l0 l1 h E; exact nomatch E
  | succ k hrc39 =>
    intro l0 l1 h E
    rw [X12_readAll_L39_s] at E
    refine go_aload_n (j := 0) (n := 40) rfl rfl dX12_readAll_39 rfl ?_
    refine go_iload_n (j := 1) (n := 41) rfl rfl dX12_readAll_40 rfl ?_
    replace E := Option.bind_eq_some_iff.mp E; obtain ⟨a3, ea3, E⟩ := E
    obtain ⟨fa3, ga3⟩ := xrc_some ea3
    replace E := xb_some E; obtain ⟨v1, h2, ev1, E⟩ := E
    refine go_callV (y := yX12_readLine) (n := 44) (st := []) (as := [vi l1]) (stk9 := [vi v1]) (OX12_readLine ev1) yw_X12_readLine ci_12 ga3 wml_RX12_237 wim_X12_readLine wse_X12_readLine (Nat.le_of_ble_eq_true rfl) rfl ⟨Nat.le_of_ble_eq_true rfl, Nat.le_of_ble_eq_true rfl⟩ (Nat.le_of_ble_eq_true rfl) dX12_readAll_41 rfl (by cases fa3; rfl) rfl ?_
    refine go_if_ne (tgt := 49) (n := 47) dX12_readAll_44 rfl rfl (fun c4 => ?_) (fun c4 => ?_)
    · rw [if_neg c4] at E
      refine go_aload_n (j := 0) (n := 50) rfl rfl dX12_readAll_49 rfl ?_
      replace E := Option.bind_eq_some_iff.mp E; obtain ⟨a7, ea7, E⟩ := E
      obtain ⟨fa7, ga7⟩ := xrc_some ea7
      replace E := xb_some E; obtain ⟨v5, h6, ev5, E⟩ := E
      refine go_callV (y := yX12_blanks) (n := 53) (st := []) (as := []) (stk9 := []) (OX12_blanks ev5) yw_X12_blanks ci_12 ga7 wml_RX12_122 wim_X12_blanks wse_X12_blanks (Nat.le_of_ble_eq_true rfl) rfl ⟨Nat.le_of_ble_eq_true rfl, Nat.le_of_ble_eq_true rfl⟩ (Nat.le_of_ble_eq_true rfl) dX12_readAll_50 rfl (by cases fa7; rfl) rfl ?_
      refine go_aload_n (j := 0) (n := 54) rfl rfl dX12_readAll_53 rfl ?_
      replace E := Option.bind_eq_some_iff.mp E; obtain ⟨v8, ev8, E⟩ := E
      refine go_getI (n := 57) ev8 fl_RX12_109 rfl dX12_readAll_54 rfl ?_
      refine go_aload_n (j := 0) (n := 58) rfl rfl dX12_readAll_57 rfl ?_
      replace E := Option.bind_eq_some_iff.mp E; obtain ⟨v9, ev9, E⟩ := E
      refine go_getI (n := 61) ev9 fl_RX12_112 rfl dX12_readAll_58 rfl ?_
      refine go_icmp_ne (tgt := 68) (n := 64) dX12_readAll_61 rfl rfl (fun c10 => ?_) (fun c10 => ?_)
      · rw [if_neg c10] at E
        refine go_aload_n (j := 0) (n := 69) rfl rfl dX12_readAll_68 rfl ?_
        refine go_bipush (z := 59) (n := 71) ⟨by decide, by decide⟩ dX12_readAll_69 rfl ?_
        refine go_bipush (z := 59) (n := 73) ⟨by decide, by decide⟩ dX12_readAll_71 rfl ?_
        replace E := Option.bind_eq_some_iff.mp E; obtain ⟨a13, ea13, E⟩ := E
        obtain ⟨fa13, ga13⟩ := xrc_some ea13
        replace E := xb_some E; obtain ⟨v11, h12, ev11, E⟩ := E
        refine go_callV (y := yX12_isAt) (n := 76) (st := []) (as := [vi 59, vi 59]) (stk9 := [vi v11]) (OX12_isAt ev11) yw_X12_isAt ci_12 ga13 wml_RX12_115 wim_X12_isAt wse_X12_isAt (Nat.le_of_ble_eq_true rfl) rfl ⟨Nat.le_of_ble_eq_true rfl, Nat.le_of_ble_eq_true rfl⟩ (Nat.le_of_ble_eq_true rfl) dX12_readAll_73 rfl (by cases fa13; rfl) rfl ?_
        refine go_if_ne (tgt := 81) (n := 79) dX12_readAll_76 rfl rfl (fun c14 => ?_) (fun c14 => ?_)
        · rw [if_neg c14] at E
          refine go_aload_n (j := 0) (n := 82) rfl rfl dX12_readAll_81 rfl ?_
          refine go_dup (n := 83) rfl dX12_readAll_82 rfl ?_
          replace E := Option.bind_eq_some_iff.mp E; obtain ⟨v15, ev15, E⟩ := E
          refine go_getI (n := 86) ev15 fl_RX12_109 rfl dX12_readAll_83 rfl ?_
          refine go_iconst (z := 1) (n := 87) ⟨by decide, by decide⟩ dX12_readAll_86 rfl ?_
          refine go_iadd (n := 88) dX12_readAll_87 rfl ?_
          replace E := Option.bind_eq_some_iff.mp E; obtain ⟨h16, eh16, E⟩ := E
          refine go_putI (n := 91) eh16 fl_RX12_109 rfl dX12_readAll_88 rfl ?_
          refine go_iinc (j := 1) (n := 94) (lv' := [(1, vi (w32 (l1 + 1))), (0, vr (some l0))]) rfl dX12_readAll_91 rfl (Nat.le_of_ble_eq_true rfl) rfl ?_
          refine go_goto (tgt := 39) dX12_readAll_94 rfl ?_
          refine go_pick (lv' := [(0, vr (some l0)), (1, vi (w32 (l1 + 1)))]) [1, 0] rfl ?_
          exact hrc39 _ _ _ E
        · rw [if_pos c14] at E
          refine go_iconst (z := (-1)) (n := 80) ⟨by decide, by decide⟩ dX12_readAll_79 rfl ?_
          cases E
          exact go_ireturn rfl dX12_readAll_80
      · rw [if_pos c10] at E
        refine go_iload_n (j := 1) (n := 65) rfl rfl dX12_readAll_64 rfl ?_
        refine go_iconst (z := 1) (n := 66) ⟨by decide, by decide⟩ dX12_readAll_65 rfl ?_
        refine go_iadd (n := 67) dX12_readAll_66 rfl ?_
        cases E
        exact go_ireturn rfl dX12_readAll_67
    · rw [if_pos c4] at E
      refine go_iconst (z := (-1)) (n := 48) ⟨by decide, by decide⟩ dX12_readAll_47 rfl ?_
      cases E
      exact go_ireturn rfl dX12_readAll_48
noncomputable def X12_readAll (F : Nat)   (l0 : Nat)  (h : HP) : Option (Int × HP) :=
  (xpI h (some l0) 12 31 6 0).bind fun h1 =>
  (xpI h1 (some l0) 12 31 13 0).bind fun h2 =>
  (xpJ h2 (some l0) 12 31 14 0).bind fun h3 =>
  (xpJ h3 (some l0) 12 31 15 0).bind fun h4 =>
  (xrc h4 (some l0) 12 31).bind fun a7 =>
  xb (X12_blanks F a7 h4) fun v5 h6 =>
  (xgI h6 (some l0) 12 31 6).bind fun v8 =>
  (xgI h6 (some l0) 12 31 7).bind fun v9 =>
  if v8 = v9 then
    some (0, h6)
  else
    X12_readAll_L39 F F l0 0 h6
set_option maxRecDepth 100000 in
theorem SX12_readAll {K : Ctx} {F : Nat} {r : Int} {hf : HP}     (l0 : Nat)  (h : HP) (E : X12_readAll F   l0 h = some (r, hf)) : Go K MX12_readAll (QM K (some (vi r)) hf) hf 0 [(0, vr (some l0))] [] h := by
  unfold X12_readAll at E
  refine go_aload_n (j := 0) (n := 1) rfl rfl dX12_readAll_0 rfl ?_
  refine go_iconst (z := 0) (n := 2) ⟨by decide, by decide⟩ dX12_readAll_1 rfl ?_
  replace E := Option.bind_eq_some_iff.mp E; obtain ⟨h1, eh1, E⟩ := E
  refine go_putI (n := 5) eh1 fl_RX12_109 rfl dX12_readAll_2 rfl ?_
  refine go_aload_n (j := 0) (n := 6) rfl rfl dX12_readAll_5 rfl ?_
  refine go_iconst (z := 0) (n := 7) ⟨by decide, by decide⟩ dX12_readAll_6 rfl ?_
  replace E := Option.bind_eq_some_iff.mp E; obtain ⟨h2, eh2, E⟩ := E
  refine go_putI (n := 10) eh2 fl_RX12_144 rfl dX12_readAll_7 rfl ?_
  refine go_aload_n (j := 0) (n := 11) rfl rfl dX12_readAll_10 rfl ?_
  refine go_lconst (w := 0) (n := 12) rfl dX12_readAll_11 rfl ?_
  replace E := Option.bind_eq_some_iff.mp E; obtain ⟨h3, eh3, E⟩ := E
  refine go_putJ (n := 15) eh3 fl_RX12_151 rfl dX12_readAll_12 rfl ?_
  refine go_aload_n (j := 0) (n := 16) rfl rfl dX12_readAll_15 rfl ?_
  refine go_lconst (w := 0) (n := 17) rfl dX12_readAll_16 rfl ?_
  replace E := Option.bind_eq_some_iff.mp E; obtain ⟨h4, eh4, E⟩ := E
  refine go_putJ (n := 20) eh4 fl_RX12_147 rfl dX12_readAll_17 rfl ?_
  refine go_aload_n (j := 0) (n := 21) rfl rfl dX12_readAll_20 rfl ?_
  replace E := Option.bind_eq_some_iff.mp E; obtain ⟨a7, ea7, E⟩ := E
  obtain ⟨fa7, ga7⟩ := xrc_some ea7
  replace E := xb_some E; obtain ⟨v5, h6, ev5, E⟩ := E
  refine go_callV (y := yX12_blanks) (n := 24) (st := []) (as := []) (stk9 := []) (OX12_blanks ev5) yw_X12_blanks ci_12 ga7 wml_RX12_122 wim_X12_blanks wse_X12_blanks (Nat.le_of_ble_eq_true rfl) rfl ⟨Nat.le_of_ble_eq_true rfl, Nat.le_of_ble_eq_true rfl⟩ (Nat.le_of_ble_eq_true rfl) dX12_readAll_21 rfl (by cases fa7; rfl) rfl ?_
  refine go_aload_n (j := 0) (n := 25) rfl rfl dX12_readAll_24 rfl ?_
  replace E := Option.bind_eq_some_iff.mp E; obtain ⟨v8, ev8, E⟩ := E
  refine go_getI (n := 28) ev8 fl_RX12_109 rfl dX12_readAll_25 rfl ?_
  refine go_aload_n (j := 0) (n := 29) rfl rfl dX12_readAll_28 rfl ?_
  replace E := Option.bind_eq_some_iff.mp E; obtain ⟨v9, ev9, E⟩ := E
  refine go_getI (n := 32) ev9 fl_RX12_112 rfl dX12_readAll_29 rfl ?_
  refine go_icmp_ne (tgt := 37) (n := 35) dX12_readAll_32 rfl rfl (fun c10 => ?_) (fun c10 => ?_)
  · rw [if_neg c10] at E
    refine go_iconst (z := 0) (n := 38) ⟨by decide, by decide⟩ dX12_readAll_37 rfl ?_
    refine go_istore_n (n := 39) (lv' := [(1, vi 0), (0, vr (some l0))]) rfl dX12_readAll_38 rfl (Nat.le_of_ble_eq_true rfl) rfl ?_
    refine go_pick (lv' := [(0, vr (some l0)), (1, vi 0)]) [1, 0] rfl ?_
    exact SX12_readAll_L39     F _ _ _ E
  · rw [if_pos c10] at E
    refine go_iconst (z := 0) (n := 36) ⟨by decide, by decide⟩ dX12_readAll_35 rfl ?_
    cases E
    exact go_ireturn rfl dX12_readAll_36
theorem OX12_readAll {F : Nat} {l0 : Nat} {h hf : HP} {r : Int} (e : X12_readAll F l0 h = some (r, hf)) : Ok MX12_readAll [vr (some l0)] (some (vi r)) h hf := fun K _ _ _ => SX12_readAll l0 h e
abbrev MX12_jobAt : MI := (RX12, cX12_jobAt, 2, (some .int), 2, none, "jobAt")
noncomputable def X12_jobAt (F : Nat)   (l0 : Int) (l1 : Int)  (h : HP) : Option (Int × HP) :=
  some (w32 ((w32 (169 + (w32 (882 * l0)))) + l1), h)
set_option maxRecDepth 100000 in
theorem SX12_jobAt {K : Ctx} {F : Nat} {r : Int} {hf : HP}     (l0 : Int) (l1 : Int)  (h : HP) (E : X12_jobAt F   l0 l1 h = some (r, hf)) : Go K MX12_jobAt (QM K (some (vi r)) hf) hf 0 [(0, vi l0), (1, vi l1)] [] h := by
  unfold X12_jobAt at E
  refine go_sipush (z := 169) (n := 3) ⟨by decide, by decide⟩ dX12_jobAt_0 rfl ?_
  refine go_sipush (z := 882) (n := 6) ⟨by decide, by decide⟩ dX12_jobAt_3 rfl ?_
  refine go_iload_n (j := 0) (n := 7) rfl rfl dX12_jobAt_6 rfl ?_
  refine go_imul (n := 8) dX12_jobAt_7 rfl ?_
  refine go_iadd (n := 9) dX12_jobAt_8 rfl ?_
  refine go_iload_n (j := 1) (n := 10) rfl rfl dX12_jobAt_9 rfl ?_
  refine go_iadd (n := 11) dX12_jobAt_10 rfl ?_
  cases E
  exact go_ireturn rfl dX12_jobAt_11
theorem OX12_jobAt {F : Nat} {l0 : Int} {l1 : Int} {h hf : HP} {r : Int} (e : X12_jobAt F l0 l1 h = some (r, hf)) : Ok MX12_jobAt [vi l0, vi l1] (some (vi r)) h hf := fun K _ _ _ => SX12_jobAt l0 l1 h e
theorem yw_X12_jobAt : YW yX12_jobAt cX12_jobAt 2 (some .int) 2 := ⟨bw_of 2049 (by decide +kernel) rfl, bw_of 129 (by decide +kernel) rfl, ⟨by decide +kernel, by decide +kernel, by decide +kernel⟩, by decide +kernel⟩
theorem wml_RX12_141 : Cond.methodLink RX12 141 yX12_jobAt ∈ BW := bw_of 2047 (by decide +kernel) rfl
theorem wst_X12_jobAt : Cond.static yX12_jobAt ∈ BW := bw_of 2048 (by decide +kernel) rfl
abbrev MX12_sets : MI := (RX12, cX12_sets, 4, none, 3, none, "sets")
noncomputable def X12_sets (F : Nat)   (l0 : Nat) (l1 : Int) (l2 : Int) (l3 : Int)  (h : HP) : Option (Unit × HP) :=
  (xgP h (some l0) 12 31 1).bind fun v1 =>
  xb (X12_jobAt F l1 l2 h) fun v2 h3 =>
  (xsI h3 v1 v2 l3).bind fun h4 =>
  some ((), h4)
set_option maxRecDepth 100000 in
theorem SX12_sets {K : Ctx} {F : Nat} {r : Unit} {hf : HP}     (l0 : Nat) (l1 : Int) (l2 : Int) (l3 : Int)  (h : HP) (E : X12_sets F   l0 l1 l2 l3 h = some (r, hf)) : Go K MX12_sets (QM K none hf) hf 0 [(0, vr (some l0)), (1, vi l1), (2, vi l2), (3, vi l3)] [] h := by
  unfold X12_sets at E
  refine go_aload_n (j := 0) (n := 1) rfl rfl dX12_sets_0 rfl ?_
  replace E := Option.bind_eq_some_iff.mp E; obtain ⟨v1, ev1, E⟩ := E
  refine go_getP (n := 4) ev1 fl_RX12_14 rfl dX12_sets_1 rfl ?_
  refine go_iload_n (j := 1) (n := 5) rfl rfl dX12_sets_4 rfl ?_
  refine go_iload_n (j := 2) (n := 6) rfl rfl dX12_sets_5 rfl ?_
  replace E := xb_some E; obtain ⟨v2, h3, ev2, E⟩ := E
  refine go_callS (y := yX12_jobAt) (n := 9) (st := [vr v1]) (as := [vi l1, vi l2]) (stk9 := [vi v2, vr v1]) (OX12_jobAt ev2) yw_X12_jobAt wml_RX12_141 wst_X12_jobAt (Nat.le_of_ble_eq_true rfl) rfl ⟨Nat.le_of_ble_eq_true rfl, Nat.le_of_ble_eq_true rfl⟩ (Nat.le_of_ble_eq_true rfl) dX12_sets_6 rfl rfl rfl ?_
  refine go_iload_n (j := 3) (n := 10) rfl rfl dX12_sets_9 rfl ?_
  replace E := Option.bind_eq_some_iff.mp E; obtain ⟨h4, eh4, E⟩ := E
  refine go_iastore (n := 11) eh4 dX12_sets_10 rfl ?_
  cases E
  exact go_return rfl dX12_sets_11
theorem OX12_sets {F : Nat} {l0 : Nat} {l1 : Int} {l2 : Int} {l3 : Int} {h hf : HP} {r : Unit} (e : X12_sets F l0 l1 l2 l3 h = some (r, hf)) : Ok MX12_sets [vr (some l0), vi l1, vi l2, vi l3] none h hf := fun K _ _ _ => SX12_sets l0 l1 l2 l3 h e
