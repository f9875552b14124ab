/-! the methods, decompiled: written by dec.py -/
theorem yw_X12_worked : YW yX12_worked cX12_worked 11 (some .long) 2 := ⟨bw_of 2152 (by decide +kernel) rfl, bw_of 129 (by decide +kernel) rfl, ⟨by decide +kernel, by decide +kernel, by decide +kernel⟩, by decide +kernel⟩
theorem wml_RX12_279 : Cond.methodLink RX12 279 yX12_worked ∈ BW := bw_of 2149 (by decide +kernel) rfl
theorem wim_X12_worked : Cond.instanceMethod yX12_worked ∈ BW := bw_of 2151 (by decide +kernel) rfl
theorem wse_X12_worked : Cond.selects RX12 yX12_worked yX12_worked ∈ BW := bw_of 99 (by decide +kernel) rfl
theorem yw_X12_rounded : YW yX12_rounded cX12_rounded 6 (some .long) 2 := ⟨bw_of 2156 (by decide +kernel) rfl, bw_of 129 (by decide +kernel) rfl, ⟨by decide +kernel, by decide +kernel, by decide +kernel⟩, by decide +kernel⟩
theorem wml_RX12_286 : Cond.methodLink RX12 286 yX12_rounded ∈ BW := bw_of 2154 (by decide +kernel) rfl
theorem wst_X12_rounded : Cond.static yX12_rounded ∈ BW := bw_of 2155 (by decide +kernel) rfl
abbrev MX12_goes : MI := (RX12, cX12_goes, 12, (some .boolean), 5, none, "goes")
noncomputable def X12_goes_L327 (F : Nat)  (rc8 : Nat → Int → Int → Int → Int → HP → Option (Int × HP)) (l0 : Nat) (l1 : Int) (l2 : Int) (l3 : Int) (l4 : Int)  (h : HP) : Option (Int × HP) :=
  rc8 l0 l1 l2 l3 (w32 (l4 + 1)) h
set_option maxRecDepth 100000 in
theorem SX12_goes_L327 {K : Ctx} {F : Nat} {r : Int} {hf : HP}   (rc8 : Nat → Int → Int → Int → Int → HP → Option (Int × HP)) (hrc8 : ∀ l0 l1 l2 l3 l4 h, rc8 l0 l1 l2 l3 l4 h = some (r, hf) → Go K MX12_goes (QM K (some (vi r)) hf) hf 8 [(0, vr (some l0)), (1, vi l1), (2, vi l2), (3, vi l3), (4, vi l4)] [] h) (l0 : Nat) (l1 : Int) (l2 : Int) (l3 : Int) (l4 : Int)  (h : HP) (E : X12_goes_L327 F  rc8 l0 l1 l2 l3 l4 h = some (r, hf)) : Go K MX12_goes (QM K (some (vi r)) hf) hf 327 [(0, vr (some l0)), (1, vi l1), (2, vi l2), (3, vi l3), (4, vi l4)] [] h := by
  unfold X12_goes_L327 at E
  refine go_iinc (j := 4) (n := 330) (lv' := [(4, vi (w32 (l4 + 1))), (0, vr (some l0)), (1, vi l1), (2, vi l2), (3, vi l3)]) rfl dX12_goes_327 rfl (Nat.le_of_ble_eq_true rfl) rfl ?_
  refine go_goto (tgt := 8) dX12_goes_330 rfl ?_
  refine go_pick (lv' := [(0, vr (some l0)), (1, vi l1), (2, vi l2), (3, vi l3), (4, vi (w32 (l4 + 1)))]) [1, 2, 3, 4, 0] rfl ?_
  exact hrc8 _ _ _ _ _ _ E
noncomputable def X12_goes_L192 (F : Nat)  (rc8 : Nat → Int → Int → Int → Int → HP → Option (Int × HP)) (k : Nat) : Nat → Int → Int → Int → Int → Int → Int → Int → Int → HP → Option (Int × HP) :=
  Nat.rec (motive := fun _ => Nat → Int → Int → Int → Int → Int → Int → Int → Int → HP → Option (Int × HP)) (fun _ _ _ _ _ _ _ _ _ _ => none) (fun _ rc192 l0 l1 l2 l3 l4 l5 l7 l8 l10 h =>
    (xrc h (some l0) 12 31).bind fun a3 =>
    xb (X12_its F a3 l1 (w32 (l5 + 3)) h) fun v1 h2 =>
    if v1 < l10 then
      (xrc h2 (some l0) 12 31).bind fun a7 =>
      xb (X12_puts F a7 l1 l7 l8 l3 l2 h2) fun v5 h6 =>
      if v5 = 0 then
        some (0, h6)
      else
        X12_goes_L327 F rc8 l0 l1 l2 l3 l4 h6
    else
      (xgP h2 (some l0) 12 31 1).bind fun v9 =>
      (xaI h2 v9 100 (w32 (9 + l10))).bind fun v10 =>
      rc192 l0 l1 l2 l3 l4 l5 l7 (w64 (l8 + v10)) (w32 (l10 + 1)) h2) k
theorem X12_goes_L192_s (F : Nat)  (rc8 : Nat → Int → Int → Int → Int → HP → Option (Int × HP)) (k : Nat) (l0 : Nat) (l1 : Int) (l2 : Int) (l3 : Int) (l4 : Int) (l5 : Int) (l7 : Int) (l8 : Int) (l10 : Int)  (h : HP) : X12_goes_L192 F  rc8 (k + 1) l0 l1 l2 l3 l4 l5 l7 l8 l10 h =
    (xrc h (some l0) 12 31).bind fun a3 =>
    xb (X12_its F a3 l1 (w32 (l5 + 3)) h) fun v1 h2 =>
    if v1 < l10 then
      (xrc h2 (some l0) 12 31).bind fun a7 =>
      xb (X12_puts F a7 l1 l7 l8 l3 l2 h2) fun v5 h6 =>
      if v5 = 0 then
        some (0, h6)
      else
        X12_goes_L327 F rc8 l0 l1 l2 l3 l4 h6
    else
      (xgP h2 (some l0) 12 31 1).bind fun v9 =>
      (xaI h2 v9 100 (w32 (9 + l10))).bind fun v10 =>
      (X12_goes_L192 F rc8 k) l0 l1 l2 l3 l4 l5 l7 (w64 (l8 + v10)) (w32 (l10 + 1)) h2 := rfl
set_option maxRecDepth 100000 in
theorem SX12_goes_L192 {K : Ctx} {F : Nat} {r : Int} {hf : HP}   (rc8 : Nat → Int → Int → Int → Int → HP → Option (Int × HP)) (hrc8 : ∀ l0 l1 l2 l3 l4 h, rc8 l0 l1 l2 l3 l4 h = some (r, hf) → Go K MX12_goes (QM K (some (vi r)) hf) hf 8 [(0, vr (some l0)), (1, vi l1), (2, vi l2), (3, vi l3), (4, vi l4)] [] h) : ∀ (k : Nat) (l0 : Nat) (l1 : Int) (l2 : Int) (l3 : Int) (l4 : Int) (l5 : Int) (l7 : Int) (l8 : Int) (l10 : Int)  (h : HP), X12_goes_L192 F  rc8 k l0 l1 l2 l3 l4 l5 l7 l8 l10 h = some (r, hf) → Go K MX12_goes (QM K (some (vi r)) hf) hf 192 [(0, vr (some l0)), (1, vi l1), (2, vi l2), (3, vi l3), (4, vi l4), (5, vi l5), (7, vi l7), (8, vl l8), (10, vi l10)] [] h := by
  intro k
  induction k with
  | zero => intro l0 l1 l2 l3 l4 l5 l7 l8 l10 h E; exact nomatch E
  | succ k hrc192 =>
    intro l0 l1 l2 l3 l4 l5 l7 l8 l10 h E
    rw [X12_goes_L192_s] at E
    refine go_iload (j := 8) (n := 194) rfl dX12_goes_192 rfl ?_
    refine go_aload_n (j := 0) (n := 195) rfl rfl dX12_goes_194 rfl ?_
    refine go_iload_n (j := 1) (n := 196) rfl rfl dX12_goes_195 rfl ?_
    refine go_iload (j := 5) (n := 198) rfl dX12_goes_196 rfl ?_
    refine go_iconst (z := 3) (n := 199) ⟨by decide, by decide⟩ dX12_goes_198 rfl ?_
    refine go_iadd (n := 200) dX12_goes_199 rfl ?_
    replace E := Option.bind_eq_some_iff.mp E; obtain ⟨a3, ea3, E⟩ := E
    obtain ⟨fa3, ga3⟩ := xrc_some ea3
    replace E := xb_some E; obtain ⟨v1, h2, ev1, E⟩ := E
    refine go_callV (y := yX12_its) (n := 203) (st := [vi l10]) (as := [vi l1, vi (w32 (l5 + 3))]) (stk9 := [vi v1, vi l10]) (OX12_its ev1) yw_X12_its ci_12 ga3 wml_RX12_250 wim_X12_its wse_X12_its (Nat.le_of_ble_eq_true rfl) rfl ⟨Nat.le_of_ble_eq_true rfl, Nat.le_of_ble_eq_true rfl⟩ (Nat.le_of_ble_eq_true rfl) dX12_goes_200 rfl (by cases fa3; rfl) rfl ?_
    refine go_icmp_gt (tgt := 228) (n := 206) dX12_goes_203 rfl rfl (fun c4 => ?_) (fun c4 => ?_)
    · rw [if_pos c4] at E
      refine go_aload_n (j := 0) (n := 229) rfl rfl dX12_goes_228 rfl ?_
      refine go_iload_n (j := 1) (n := 230) rfl rfl dX12_goes_229 rfl ?_
      refine go_iload (j := 6) (n := 232) rfl dX12_goes_230 rfl ?_
      refine go_lload (j := 7) (n := 234) rfl dX12_goes_232 rfl ?_
      refine go_iload_n (j := 3) (n := 235) rfl rfl dX12_goes_234 rfl ?_
      refine go_iload_n (j := 2) (n := 236) rfl rfl dX12_goes_235 rfl ?_
      replace E := Option.bind_eq_some_iff.mp E; obtain ⟨a7, ea7, E⟩ := E
      obtain ⟨fa7, ga7⟩ := xrc_some ea7
      replace E := xb_some E; obtain ⟨v5, h6, ev5, E⟩ := E
      refine go_callV (y := yX12_puts) (n := 239) (st := []) (as := [vi l1, vi l7, vl l8, vi l3, vi l2]) (stk9 := [vi v5]) (OX12_puts ev5) yw_X12_puts ci_12 ga7 wml_RX12_282 wim_X12_puts wse_X12_puts (Nat.le_of_ble_eq_true rfl) rfl ⟨Nat.le_of_ble_eq_true rfl, Nat.le_of_ble_eq_true rfl⟩ (Nat.le_of_ble_eq_true rfl) dX12_goes_236 rfl (by cases fa7; rfl) rfl ?_
      refine go_if_ne (tgt := 244) (n := 242) dX12_goes_239 rfl rfl (fun c8 => ?_) (fun c8 => ?_)
      · rw [if_neg c8] at E
        refine go_goto (tgt := 327) dX12_goes_244 rfl ?_
        refine go_pick (lv' := [(0, vr (some l0)), (1, vi l1), (2, vi l2), (3, vi l3), (4, vi l4)]) [0, 1, 2, 3, 4] rfl ?_
        exact SX12_goes_L327   _ hrc8 _ _ _ _ _  _ E
      · rw [if_pos c8] at E
        refine go_iconst (z := 0) (n := 243) ⟨by decide, by decide⟩ dX12_goes_242 rfl ?_
        cases E
        exact go_zreturn rfl (Or.inl rfl) dX12_goes_243
    · rw [if_neg c4] at E
      refine go_lload (j := 7) (n := 208) rfl dX12_goes_206 rfl ?_
      refine go_aload_n (j := 0) (n := 209) rfl rfl dX12_goes_208 rfl ?_
      replace E := Option.bind_eq_some_iff.mp E; obtain ⟨v9, ev9, E⟩ := E
      refine go_getP (n := 212) ev9 fl_RX12_14 rfl dX12_goes_209 rfl ?_
      refine go_bipush (z := 9) (n := 214) ⟨by decide, by decide⟩ dX12_goes_212 rfl ?_
      refine go_iload (j := 8) (n := 216) rfl dX12_goes_214 rfl ?_
      refine go_iadd (n := 217) dX12_goes_216 rfl ?_
      replace E := Option.bind_eq_some_iff.mp E; obtain ⟨v10, ev10, E⟩ := E
      refine go_iaload (n := 218) ev10 dX12_goes_217 rfl ?_
      refine go_i2l (n := 219) dX12_goes_218 rfl ?_
      refine go_ladd (n := 220) dX12_goes_219 rfl ?_
      refine go_lstore (n := 222) (lv' := [(8, vl (w64 (l8 + v10))), (0, vr (some l0)), (1, vi l1), (2, vi l2), (3, vi l3), (4, vi l4), (5, vi l5), (7, vi l7), (10, vi l10)]) dX12_goes_220 rfl (Nat.le_of_ble_eq_true rfl) rfl ?_
      refine go_iinc (j := 8) (n := 225) (lv' := [(10, vi (w32 (l10 + 1))), (8, vl (w64 (l8 + v10))), (0, vr (some l0)), (1, vi l1), (2, vi l2), (3, vi l3), (4, vi l4), (5, vi l5), (7, vi l7)]) rfl dX12_goes_222 rfl (Nat.le_of_ble_eq_true rfl) rfl ?_
      refine go_goto (tgt := 192) dX12_goes_225 rfl ?_
      refine go_pick (lv' := [(0, vr (some l0)), (1, vi l1), (2, vi l2), (3, vi l3), (4, vi l4), (5, vi l5), (7, vi l7), (8, vl (w64 (l8 + v10))), (10, vi (w32 (l10 + 1)))]) [2, 3, 4, 5, 6, 7, 8, 1, 0] rfl ?_
      exact hrc192 _ _ _ _ _ _ _ _ _ _ E
noncomputable def X12_goes_L111 (F : Nat)   (l0 : Nat) (l7 : Int) (l8 : Int)  (h : HP) : Option (Int × HP) :=
  (xgP h (some l0) 12 31 1).bind fun v1 =>
  (xsI h v1 (w32 (9 + l7)) l8).bind fun h2 =>
  some (0, h2)
set_option maxRecDepth 100000 in
theorem SX12_goes_L111 {K : Ctx} {F : Nat} {r : Int} {hf : HP}     (l0 : Nat) (l7 : Int) (l8 : Int)  (h : HP) (E : X12_goes_L111 F   l0 l7 l8 h = some (r, hf)) : Go K MX12_goes (QM K (some (vi r)) hf) hf 111 [(0, vr (some l0)), (7, vi l7), (8, vi l8)] [] h := by
  unfold X12_goes_L111 at E
  refine go_aload_n (j := 0) (n := 112) rfl rfl dX12_goes_111 rfl ?_
  replace E := Option.bind_eq_some_iff.mp E; obtain ⟨v1, ev1, E⟩ := E
  refine go_getP (n := 115) ev1 fl_RX12_14 rfl dX12_goes_112 rfl ?_
  refine go_bipush (z := 9) (n := 117) ⟨by decide, by decide⟩ dX12_goes_115 rfl ?_
  refine go_iload (j := 1) (n := 119) rfl dX12_goes_117 rfl ?_
  refine go_iadd (n := 120) dX12_goes_119 rfl ?_
  refine go_iload (j := 2) (n := 122) rfl dX12_goes_120 rfl ?_
  replace E := Option.bind_eq_some_iff.mp E; obtain ⟨h2, eh2, E⟩ := E
  refine go_iastore (n := 123) eh2 dX12_goes_122 rfl ?_
  refine go_iconst (z := 0) (n := 124) ⟨by decide, by decide⟩ dX12_goes_123 rfl ?_
  cases E
  exact go_zreturn rfl (Or.inl rfl) dX12_goes_124
noncomputable def X12_goes_L70 (F : Nat)  (rc8 : Nat → Int → Int → Int → Int → HP → Option (Int × HP)) (k : Nat) : Nat → Int → Int → Int → Int → Int → Int → Int → Int → HP → Option (Int × HP) :=
  Nat.rec (motive := fun _ => Nat → Int → Int → Int → Int → Int → Int → Int → Int → HP → Option (Int × HP)) (fun _ _ _ _ _ _ _ _ _ _ => none) (fun _ rc70 l0 l1 l2 l3 l4 l5 l7 l8 l9 h =>
    (xrc h (some l0) 12 31).bind fun a3 =>
    xb (X12_its F a3 l1 (w32 (l5 + 2)) h) fun v1 h2 =>
    if v1 ≤ l9 then
      (xgP h2 (some l0) 12 31 1).bind fun v5 =>
      (xaI h2 v5 100 (w32 (9 + l7))).bind fun v6 =>
      (xrc h2 (some l0) 12 31).bind fun a9 =>
      xb (X12_puts F a9 l1 l7 v6 l3 l2 h2) fun v7 h8 =>
      if v7 = 0 then
        some (0, h8)
      else
        X12_goes_L327 F rc8 l0 l1 l2 l3 l4 h8
    else
      (xrc h2 (some l0) 12 31).bind fun a13 =>
      xb (X12_worked F a13 l1 l5 h2) fun v11 h12 =>
      if (xcmp v11 (-999999999)) < 0 then
        X12_goes_L111 F l0 l7 l8 h12
      else
        if (xcmp v11 999999999) ≤ 0 then
          (xgP h12 (some l0) 12 31 1).bind fun v16 =>
          (xsI h12 v16 (w32 (9 + l7)) (w32 v11)).bind fun h17 =>
          rc70 l0 l1 l2 l3 l4 l5 l7 l8 (w32 (l9 + 1)) h17
        else
          X12_goes_L111 F l0 l7 l8 h12) k
theorem X12_goes_L70_s (F : Nat)  (rc8 : Nat → Int → Int → Int → Int → HP → Option (Int × HP)) (k : Nat) (l0 : Nat) (l1 : Int) (l2 : Int) (l3 : Int) (l4 : Int) (l5 : Int) (l7 : Int) (l8 : Int) (l9 : Int)  (h : HP) : X12_goes_L70 F  rc8 (k + 1) l0 l1 l2 l3 l4 l5 l7 l8 l9 h =
    (xrc h (some l0) 12 31).bind fun a3 =>
    xb (X12_its F a3 l1 (w32 (l5 + 2)) h) fun v1 h2 =>
    if v1 ≤ l9 then
      (xgP h2 (some l0) 12 31 1).bind fun v5 =>
      (xaI h2 v5 100 (w32 (9 + l7))).bind fun v6 =>
      (xrc h2 (some l0) 12 31).bind fun a9 =>
      xb (X12_puts F a9 l1 l7 v6 l3 l2 h2) fun v7 h8 =>
      if v7 = 0 then
        some (0, h8)
      else
        X12_goes_L327 F rc8 l0 l1 l2 l3 l4 h8
    else
      (xrc h2 (some l0) 12 31).bind fun a13 =>
      xb (X12_worked F a13 l1 l5 h2) fun v11 h12 =>
      if (xcmp v11 (-999999999)) < 0 then
        X12_goes_L111 F l0 l7 l8 h12
      else
        if (xcmp v11 999999999) ≤ 0 then
          (xgP h12 (some l0) 12 31 1).bind fun v16 =>
          (xsI h12 v16 (w32 (9 + l7)) (w32 v11)).bind fun h17 =>
          (X12_goes_L70 F rc8 k) l0 l1 l2 l3 l4 l5 l7 l8 (w32 (l9 + 1)) h17
        else
          X12_goes_L111 F l0 l7 l8 h12 := rfl
set_option maxRecDepth 100000 in
theorem SX12_goes_L70 {K : Ctx} {F : Nat} {r : Int} {hf : HP}   (rc8 : Nat → Int → Int → Int → Int → HP → Option (Int × HP)) (hrc8 : ∀ l0 l1 l2 l3 l4 h, rc8 l0 l1 l2 l3 l4 h = some (r, hf) → Go K MX12_goes (QM K (some (vi r)) hf) hf 8 [(0, vr (some l0)), (1, vi l1), (2, vi l2), (3, vi l3), (4, vi l4)] [] h) : ∀ (k : Nat) (l0 : Nat) (l1 : Int) (l2 : Int) (l3 : Int) (l4 : Int) (l5 : Int) (l7 : Int) (l8 : Int) (l9 : Int)  (h : HP), X12_goes_L70 F  rc8 k l0 l1 l2 l3 l4 l5 l7 l8 l9 h = some (r, hf) → Go K MX12_goes (QM K (some (vi r)) hf) hf 70 [(0, vr (some l0)), (1, vi l1), (2, vi l2), (3, vi l3), (4, vi l4), (5, vi l5), (7, vi l7), (8, vi l8), (9, vi l9)] [] h := by
  intro k
  induction k with
  | zero => intro l0 l1 l2 l3 l4 l5 l7 l8 l9 h E; exact nomatch E
  | succ k hrc70 =>
    intro l0 l1 l2 l3 l4 l5 l7 l8 l9 h E
    rw [X12_goes_L70_s] at E
    refine go_iload (j := 8) (n := 72) rfl dX12_goes_70 rfl ?_
    refine go_aload_n (j := 0) (n := 73) rfl rfl dX12_goes_72 rfl ?_
    refine go_iload_n (j := 1) (n := 74) rfl rfl dX12_goes_73 rfl ?_
    refine go_iload (j := 5) (n := 76) rfl dX12_goes_74 rfl ?_
    refine go_iconst (z := 2) (n := 77) ⟨by decide, by decide⟩ dX12_goes_76 rfl ?_
    refine go_iadd (n := 78) dX12_goes_77 rfl ?_
    replace E := Option.bind_eq_some_iff.mp E; obtain ⟨a3, ea3, E⟩ := E
    obtain ⟨fa3, ga3⟩ := xrc_some ea3
    replace E := xb_some E; obtain ⟨v1, h2, ev1, E⟩ := E
    refine go_callV (y := yX12_its) (n := 81) (st := [vi l9]) (as := [vi l1, vi (w32 (l5 + 2))]) (stk9 := [vi v1, vi l9]) (OX12_its ev1) yw_X12_its ci_12 ga3 wml_RX12_250 wim_X12_its wse_X12_its (Nat.le_of_ble_eq_true rfl) rfl ⟨Nat.le_of_ble_eq_true rfl, Nat.le_of_ble_eq_true rfl⟩ (Nat.le_of_ble_eq_true rfl) dX12_goes_78 rfl (by cases fa3; rfl) rfl ?_
    refine go_icmp_ge (tgt := 144) (n := 84) dX12_goes_81 rfl rfl (fun c4 => ?_) (fun c4 => ?_)
    · rw [if_pos c4] at E
      refine go_aload_n (j := 0) (n := 145) rfl rfl dX12_goes_144 rfl ?_
      refine go_iload_n (j := 1) (n := 146) rfl rfl dX12_goes_145 rfl ?_
      refine go_iload (j := 6) (n := 148) rfl dX12_goes_146 rfl ?_
      refine go_aload_n (j := 0) (n := 149) rfl rfl dX12_goes_148 rfl ?_
      replace E := Option.bind_eq_some_iff.mp E; obtain ⟨v5, ev5, E⟩ := E
      refine go_getP (n := 152) ev5 fl_RX12_14 rfl dX12_goes_149 rfl ?_
      refine go_bipush (z := 9) (n := 154) ⟨by decide, by decide⟩ dX12_goes_152 rfl ?_
      refine go_iload (j := 6) (n := 156) rfl dX12_goes_154 rfl ?_
      refine go_iadd (n := 157) dX12_goes_156 rfl ?_
      replace E := Option.bind_eq_some_iff.mp E; obtain ⟨v6, ev6, E⟩ := E
      refine go_iaload (n := 158) ev6 dX12_goes_157 rfl ?_
      refine go_i2l (n := 159) dX12_goes_158 rfl ?_
      refine go_iload_n (j := 3) (n := 160) rfl rfl dX12_goes_159 rfl ?_
      refine go_iload_n (j := 2) (n := 161) rfl rfl dX12_goes_160 rfl ?_
      replace E := Option.bind_eq_some_iff.mp E; obtain ⟨a9, ea9, E⟩ := E
      obtain ⟨fa9, ga9⟩ := xrc_some ea9
      replace E := xb_some E; obtain ⟨v7, h8, ev7, E⟩ := E
      refine go_callV (y := yX12_puts) (n := 164) (st := []) (as := [vi l1, vi l7, vl v6, vi l3, vi l2]) (stk9 := [vi v7]) (OX12_puts ev7) yw_X12_puts ci_12 ga9 wml_RX12_282 wim_X12_puts wse_X12_puts (Nat.le_of_ble_eq_true rfl) rfl ⟨Nat.le_of_ble_eq_true rfl, Nat.le_of_ble_eq_true rfl⟩ (Nat.le_of_ble_eq_true rfl) dX12_goes_161 rfl (by cases fa9; rfl) rfl ?_
      refine go_if_ne (tgt := 169) (n := 167) dX12_goes_164 rfl rfl (fun c10 => ?_) (fun c10 => ?_)
      · rw [if_neg c10] at E
        refine go_goto (tgt := 327) dX12_goes_169 rfl ?_
        refine go_pick (lv' := [(0, vr (some l0)), (1, vi l1), (2, vi l2), (3, vi l3), (4, vi l4)]) [0, 1, 2, 3, 4] rfl ?_
        exact SX12_goes_L327   _ hrc8 _ _ _ _ _  _ E
      · rw [if_pos c10] at E
        refine go_iconst (z := 0) (n := 168) ⟨by decide, by decide⟩ dX12_goes_167 rfl ?_
        cases E
        exact go_zreturn rfl (Or.inl rfl) dX12_goes_168
    · rw [if_neg c4] at E
      refine go_aload_n (j := 0) (n := 85) rfl rfl dX12_goes_84 rfl ?_
      refine go_iload_n (j := 1) (n := 86) rfl rfl dX12_goes_85 rfl ?_
      refine go_iload (j := 5) (n := 88) rfl dX12_goes_86 rfl ?_
      replace E := Option.bind_eq_some_iff.mp E; obtain ⟨a13, ea13, E⟩ := E
      obtain ⟨fa13, ga13⟩ := xrc_some ea13
      replace E := xb_some E; obtain ⟨v11, h12, ev11, E⟩ := E
      refine go_callV (y := yX12_worked) (n := 91) (st := []) (as := [vi l1, vi l5]) (stk9 := [vl v11]) (OX12_worked ev11) yw_X12_worked ci_12 ga13 wml_RX12_279 wim_X12_worked wse_X12_worked (Nat.le_of_ble_eq_true rfl) rfl ⟨Nat.le_of_ble_eq_true rfl, Nat.le_of_ble_eq_true rfl⟩ (Nat.le_of_ble_eq_true rfl) dX12_goes_88 rfl (by cases fa13; rfl) rfl ?_
      refine go_lstore (n := 93) (lv' := [(10, vl v11), (0, vr (some l0)), (1, vi l1), (2, vi l2), (3, vi l3), (4, vi l4), (5, vi l5), (7, vi l7), (8, vi l8), (9, vi l9)]) dX12_goes_91 rfl (Nat.le_of_ble_eq_true rfl) rfl ?_
      refine go_lload (j := 0) (n := 95) rfl dX12_goes_93 rfl ?_
      refine go_ldc2 (z := (-999999999)) (n := 98) ⟨by decide, by decide⟩ wl_RX12_275 dX12_goes_95 rfl ?_
      refine go_lcmp (n := 99) dX12_goes_98 rfl ?_
      refine go_if_lt (tgt := 111) (n := 102) dX12_goes_99 rfl rfl (fun c14 => ?_) (fun c14 => ?_)
      · rw [if_pos c14] at E
        refine go_pick (lv' := [(0, vr (some l0)), (7, vi l7), (8, vi l8)]) [1, 7, 8] rfl ?_
        exact SX12_goes_L111     _ _ _  _ E
      · rw [if_neg c14] at E
        refine go_lload (j := 0) (n := 104) rfl dX12_goes_102 rfl ?_
        refine go_ldc2 (z := 999999999) (n := 107) ⟨by decide, by decide⟩ wl_RX12_277 dX12_goes_104 rfl ?_
        refine go_lcmp (n := 108) dX12_goes_107 rfl ?_
        refine go_if_le (tgt := 125) (n := 111) dX12_goes_108 rfl rfl (fun c15 => ?_) (fun c15 => ?_)
        · rw [if_pos c15] at E
          refine go_aload_n (j := 1) (n := 126) rfl rfl dX12_goes_125 rfl ?_
          replace E := Option.bind_eq_some_iff.mp E; obtain ⟨v16, ev16, E⟩ := E
          refine go_getP (n := 129) ev16 fl_RX12_14 rfl dX12_goes_126 rfl ?_
          refine go_bipush (z := 9) (n := 131) ⟨by decide, by decide⟩ dX12_goes_129 rfl ?_
          refine go_iload (j := 7) (n := 133) rfl dX12_goes_131 rfl ?_
          refine go_iadd (n := 134) dX12_goes_133 rfl ?_
          refine go_lload (j := 0) (n := 136) rfl dX12_goes_134 rfl ?_
          refine go_l2i (n := 137) dX12_goes_136 rfl ?_
          replace E := Option.bind_eq_some_iff.mp E; obtain ⟨h17, eh17, E⟩ := E
          refine go_iastore (n := 138) eh17 dX12_goes_137 rfl ?_
          refine go_iinc (j := 9) (n := 141) (lv' := [(9, vi (w32 (l9 + 1))), (10, vl v11), (0, vr (some l0)), (1, vi l1), (2, vi l2), (3, vi l3), (4, vi l4), (5, vi l5), (7, vi l7), (8, vi l8)]) rfl dX12_goes_138 rfl (Nat.le_of_ble_eq_true rfl) rfl ?_
          refine go_goto (tgt := 70) dX12_goes_141 rfl ?_
          refine go_pick (lv' := [(0, vr (some l0)), (1, vi l1), (2, vi l2), (3, vi l3), (4, vi l4), (5, vi l5), (7, vi l7), (8, vi l8), (9, vi (w32 (l9 + 1)))]) [2, 3, 4, 5, 6, 7, 8, 9, 0] rfl ?_
          exact hrc70 _ _ _ _ _ _ _ _ _ _ E
        · rw [if_neg c15] at E
          refine go_pick (lv' := [(0, vr (some l0)), (7, vi l7), (8, vi l8)]) [1, 7, 8] rfl ?_
          exact SX12_goes_L111     _ _ _  _ E
noncomputable def X12_goes_L8 (F : Nat)   (k : Nat) : Nat → Int → Int → Int → Int → HP → Option (Int × HP) :=
  Nat.rec (motive := fun _ => Nat → Int → Int → Int → Int → HP → Option (Int × HP)) (fun _ _ _ _ _ _ => none) (fun _ rc8 l0 l1 l2 l3 l4 h =>
    (xrc h (some l0) 12 31).bind fun a3 =>
    xb (X12_its F a3 l1 16 h) fun v1 h2 =>
    if v1 ≤ l4 then
      some (1, h2)
    else
      (xrc h2 (some l0) 12 31).bind fun a7 =>
      xb (X12_its F a7 l1 (w32 (22 + (w32 (6 * l4)))) h2) fun v5 h6 =>
      (xrc h6 (some l0) 12 31).bind fun a10 =>
      xb (X12_its F a10 l1 (w32 ((w32 (22 + (w32 (6 * l4)))) + 1)) h6) fun v8 h9 =>
      if v5 = 0 then
        (xgP h9 (some l0) 12 31 1).bind fun v39 =>
        (xaI h9 v39 100 (w32 (9 + v8))).bind fun v40 =>
        X12_goes_L70 F rc8 F l0 l1 l2 l3 l4 (w32 (22 + (w32 (6 * l4)))) v8 v40 0 h9
      else
        if v5 = 1 then
          (xrc h9 (some l0) 12 31).bind fun a38 =>
          xb (X12_its F a38 l1 (w32 ((w32 (22 + (w32 (6 * l4)))) + 2)) h9) fun v36 h37 =>
          X12_goes_L192 F rc8 F l0 l1 l2 l3 l4 (w32 (22 + (w32 (6 * l4)))) v8 0 v36 h37
        else
          if v5 = 2 then
            (xgP h9 (some l0) 12 31 1).bind fun v25 =>
            (xaI h9 v25 100 (w32 (9 + v8))).bind fun v26 =>
            (xrc h9 (some l0) 12 31).bind fun a29 =>
            xb (X12_its F a29 l1 (w32 ((w32 (22 + (w32 (6 * l4)))) + 2)) h9) fun v27 h28 =>
            xb (X12_rounded F v26 v27 h28) fun v30 h31 =>
            (xrc h31 (some l0) 12 31).bind fun a34 =>
            xb (X12_puts F a34 l1 v8 v30 l3 l2 h31) fun v32 h33 =>
            if v32 = 0 then
              some (0, h33)
            else
              X12_goes_L327 F rc8 l0 l1 l2 l3 l4 h33
          else
            (xrc h9 (some l0) 12 31).bind fun a16 =>
            xb (X12_worked F a16 l1 (w32 (22 + (w32 (6 * l4)))) h9) fun v14 h15 =>
            if (xcmp v14 1) = 0 then
              if v5 = 4 then
                some (0, h15)
              else
                (xrc h15 (some l0) 12 31).bind fun a21 =>
                xb (X12_its F a21 l1 15 h15) fun v19 h20 =>
                (xrc h20 (some l0) 12 31).bind fun a24 =>
                xb (X12_sets F a24 l1 15 (w32 (v19 + 1)) h20) fun v22 h23 =>
                X12_goes_L327 F rc8 l0 l1 l2 l3 l4 h23
            else
              X12_goes_L327 F rc8 l0 l1 l2 l3 l4 h15) k
theorem X12_goes_L8_s (F : Nat)   (k : Nat) (l0 : Nat) (l1 : Int) (l2 : Int) (l3 : Int) (l4 : Int)  (h : HP) : X12_goes_L8 F   (k + 1) l0 l1 l2 l3 l4 h =
    (xrc h (some l0) 12 31).bind fun a3 =>
    xb (X12_its F a3 l1 16 h) fun v1 h2 =>
    if v1 ≤ l4 then
      some (1, h2)
    else
      (xrc h2 (some l0) 12 31).bind fun a7 =>
      xb (X12_its F a7 l1 (w32 (22 + (w32 (6 * l4)))) h2) fun v5 h6 =>
      (xrc h6 (some l0) 12 31).bind fun a10 =>
      xb (X12_its F a10 l1 (w32 ((w32 (22 + (w32 (6 * l4)))) + 1)) h6) fun v8 h9 =>
      if v5 = 0 then
        (xgP h9 (some l0) 12 31 1).bind fun v39 =>
        (xaI h9 v39 100 (w32 (9 + v8))).bind fun v40 =>
        X12_goes_L70 F (X12_goes_L8 F k) F l0 l1 l2 l3 l4 (w32 (22 + (w32 (6 * l4)))) v8 v40 0 h9
      else
        if v5 = 1 then
          (xrc h9 (some l0) 12 31).bind fun a38 =>
          xb (X12_its F a38 l1 (w32 ((w32 (22 + (w32 (6 * l4)))) + 2)) h9) fun v36 h37 =>
          X12_goes_L192 F (X12_goes_L8 F k) F l0 l1 l2 l3 l4 (w32 (22 + (w32 (6 * l4)))) v8 0 v36 h37
        else
          if v5 = 2 then
            (xgP h9 (some l0) 12 31 1).bind fun v25 =>
            (xaI h9 v25 100 (w32 (9 + v8))).bind fun v26 =>
            (xrc h9 (some l0) 12 31).bind fun a29 =>
            xb (X12_its F a29 l1 (w32 ((w32 (22 + (w32 (6 * l4)))) + 2)) h9) fun v27 h28 =>
            xb (X12_rounded F v26 v27 h28) fun v30 h31 =>
            (xrc h31 (some l0) 12 31).bind fun a34 =>
            xb (X12_puts F a34 l1 v8 v30 l3 l2 h31) fun v32 h33 =>
            if v32 = 0 then
              some (0, h33)
            else
              X12_goes_L327 F (X12_goes_L8 F k) l0 l1 l2 l3 l4 h33
          else
            (xrc h9 (some l0) 12 31).bind fun a16 =>
            xb (X12_worked F a16 l1 (w32 (22 + (w32 (6 * l4)))) h9) fun v14 h15 =>
            if (xcmp v14 1) = 0 then
              if v5 = 4 then
                some (0, h15)
              else
                (xrc h15 (some l0) 12 31).bind fun a21 =>
                xb (X12_its F a21 l1 15 h15) fun v19 h20 =>
                (xrc h20 (some l0) 12 31).bind fun a24 =>
                xb (X12_sets F a24 l1 15 (w32 (v19 + 1)) h20) fun v22 h23 =>
                X12_goes_L327 F (X12_goes_L8 F k) l0 l1 l2 l3 l4 h23
            else
              X12_goes_L327 F (X12_goes_L8 F k) l0 l1 l2 l3 l4 h15 := rfl
set_option maxRecDepth 100000 in
theorem SX12_goes_L8 {K : Ctx} {F : Nat} {r : Int} {hf : HP}     : ∀ (k : Nat) (l0 : Nat) (l1 : Int) (l2 : Int) (l3 : Int) (l4 : Int)  (h : HP), X12_goes_L8 F   k l0 l1 l2 l3 l4 h = some (r, hf) → Go K MX12_goes (QM K (some (vi r)) hf) hf 8 [(0, vr (some l0)), (1, vi l1), (2, vi l2), (3, vi l3), (4, vi l4)] [] h := by
  intro k
  induction k with
  | zero => intro l0 l1 l2 l3 l4 h E; exact nomatch E
  | succ k hrc8 =>
    intro l0 l1 l2 l3 l4 h E
    rw [X12_goes_L8_s] at E
    refine go_iload (j := 4) (n := 10) rfl dX12_goes_8 rfl ?_
    refine go_aload_n (j := 0) (n := 11) rfl rfl dX12_goes_10 rfl ?_
    refine go_iload_n (j := 1) (n := 12) rfl rfl dX12_goes_11 rfl ?_
    refine go_bipush (z := 16) (n := 14) ⟨by decide, by decide⟩ dX12_goes_12 rfl ?_
    replace E := Option.bind_eq_some_iff.mp E; obtain ⟨a3, ea3, E⟩ := E
    obtain ⟨fa3, ga3⟩ := xrc_some ea3
    replace E := xb_some E; obtain ⟨v1, h2, ev1, E⟩ := E
    refine go_callV (y := yX12_its) (n := 17) (st := [vi l4]) (as := [vi l1, vi 16]) (stk9 := [vi v1, vi l4]) (OX12_its ev1) yw_X12_its ci_12 ga3 wml_RX12_250 wim_X12_its wse_X12_its (Nat.le_of_ble_eq_true rfl) rfl ⟨Nat.le_of_ble_eq_true rfl, Nat.le_of_ble_eq_true rfl⟩ (Nat.le_of_ble_eq_true rfl) dX12_goes_14 rfl (by cases fa3; rfl) rfl ?_
    refine go_icmp_ge (tgt := 333) (n := 20) dX12_goes_17 rfl rfl (fun c4 => ?_) (fun c4 => ?_)
    · rw [if_pos c4] at E
      refine go_iconst (z := 1) (n := 334) ⟨by decide, by decide⟩ dX12_goes_333 rfl ?_
      cases E
      exact go_zreturn rfl (Or.inr rfl) dX12_goes_334
    · rw [if_neg c4] at E
      refine go_bipush (z := 22) (n := 22) ⟨by decide, by decide⟩ dX12_goes_20 rfl ?_
      refine go_bipush (z := 6) (n := 24) ⟨by decide, by decide⟩ dX12_goes_22 rfl ?_
      refine go_iload (j := 4) (n := 26) rfl dX12_goes_24 rfl ?_
      refine go_imul (n := 27) dX12_goes_26 rfl ?_
      refine go_iadd (n := 28) dX12_goes_27 rfl ?_
      refine go_istore (n := 30) (lv' := [(5, vi (w32 (22 + (w32 (6 * l4))))), (0, vr (some l0)), (1, vi l1), (2, vi l2), (3, vi l3), (4, vi l4)]) dX12_goes_28 rfl (Nat.le_of_ble_eq_true rfl) rfl ?_
      refine go_aload_n (j := 1) (n := 31) rfl rfl dX12_goes_30 rfl ?_
      refine go_iload_n (j := 2) (n := 32) rfl rfl dX12_goes_31 rfl ?_
      refine go_iload (j := 0) (n := 34) rfl dX12_goes_32 rfl ?_
      replace E := Option.bind_eq_some_iff.mp E; obtain ⟨a7, ea7, E⟩ := E
      obtain ⟨fa7, ga7⟩ := xrc_some ea7
      replace E := xb_some E; obtain ⟨v5, h6, ev5, E⟩ := E
      refine go_callV (y := yX12_its) (n := 37) (st := []) (as := [vi l1, vi (w32 (22 + (w32 (6 * l4))))]) (stk9 := [vi v5]) (OX12_its ev5) yw_X12_its ci_12 ga7 wml_RX12_250 wim_X12_its wse_X12_its (Nat.le_of_ble_eq_true rfl) rfl ⟨Nat.le_of_ble_eq_true rfl, Nat.le_of_ble_eq_true rfl⟩ (Nat.le_of_ble_eq_true rfl) dX12_goes_34 rfl (by cases fa7; rfl) rfl ?_
      refine go_istore (n := 39) (lv' := [(6, vi v5), (5, vi (w32 (22 + (w32 (6 * l4))))), (0, vr (some l0)), (1, vi l1), (2, vi l2), (3, vi l3), (4, vi l4)]) dX12_goes_37 rfl (Nat.le_of_ble_eq_true rfl) rfl ?_
      refine go_aload_n (j := 2) (n := 40) rfl rfl dX12_goes_39 rfl ?_
      refine go_iload_n (j := 3) (n := 41) rfl rfl dX12_goes_40 rfl ?_
      refine go_iload (j := 1) (n := 43) rfl dX12_goes_41 rfl ?_
      refine go_iconst (z := 1) (n := 44) ⟨by decide, by decide⟩ dX12_goes_43 rfl ?_
      refine go_iadd (n := 45) dX12_goes_44 rfl ?_
      replace E := Option.bind_eq_some_iff.mp E; obtain ⟨a10, ea10, E⟩ := E
      obtain ⟨fa10, ga10⟩ := xrc_some ea10
      replace E := xb_some E; obtain ⟨v8, h9, ev8, E⟩ := E
      refine go_callV (y := yX12_its) (n := 48) (st := []) (as := [vi l1, vi (w32 ((w32 (22 + (w32 (6 * l4)))) + 1))]) (stk9 := [vi v8]) (OX12_its ev8) yw_X12_its ci_12 ga10 wml_RX12_250 wim_X12_its wse_X12_its (Nat.le_of_ble_eq_true rfl) rfl ⟨Nat.le_of_ble_eq_true rfl, Nat.le_of_ble_eq_true rfl⟩ (Nat.le_of_ble_eq_true rfl) dX12_goes_45 rfl (by cases fa10; rfl) rfl ?_
      refine go_istore (n := 50) (lv' := [(7, vi v8), (6, vi v5), (5, vi (w32 (22 + (w32 (6 * l4))))), (0, vr (some l0)), (1, vi l1), (2, vi l2), (3, vi l3), (4, vi l4)]) dX12_goes_48 rfl (Nat.le_of_ble_eq_true rfl) rfl ?_
      refine go_iload (j := 1) (n := 52) rfl dX12_goes_50 rfl ?_
      refine go_if_ne (tgt := 172) (n := 55) dX12_goes_52 rfl rfl (fun c11 => ?_) (fun c11 => ?_)
      · rw [if_neg c11] at E
        refine go_iload (j := 1) (n := 174) rfl dX12_goes_172 rfl ?_
        refine go_iconst (z := 1) (n := 175) ⟨by decide, by decide⟩ dX12_goes_174 rfl ?_
        refine go_icmp_ne (tgt := 247) (n := 178) dX12_goes_175 rfl rfl (fun c12 => ?_) (fun c12 => ?_)
        · rw [if_neg c12] at E
          refine go_iload (j := 1) (n := 249) rfl dX12_goes_247 rfl ?_
          refine go_iconst (z := 2) (n := 250) ⟨by decide, by decide⟩ dX12_goes_249 rfl ?_
          refine go_icmp_ne (tgt := 291) (n := 253) dX12_goes_250 rfl rfl (fun c13 => ?_) (fun c13 => ?_)
          · rw [if_neg c13] at E
            refine go_aload_n (j := 3) (n := 292) rfl rfl dX12_goes_291 rfl ?_
            refine go_iload_n (j := 4) (n := 293) rfl rfl dX12_goes_292 rfl ?_
            refine go_iload (j := 2) (n := 295) rfl dX12_goes_293 rfl ?_
            replace E := Option.bind_eq_some_iff.mp E; obtain ⟨a16, ea16, E⟩ := E
            obtain ⟨fa16, ga16⟩ := xrc_some ea16
            replace E := xb_some E; obtain ⟨v14, h15, ev14, E⟩ := E
            refine go_callV (y := yX12_worked) (n := 298) (st := []) (as := [vi l1, vi (w32 (22 + (w32 (6 * l4))))]) (stk9 := [vl v14]) (OX12_worked ev14) yw_X12_worked ci_12 ga16 wml_RX12_279 wim_X12_worked wse_X12_worked (Nat.le_of_ble_eq_true rfl) rfl ⟨Nat.le_of_ble_eq_true rfl, Nat.le_of_ble_eq_true rfl⟩ (Nat.le_of_ble_eq_true rfl) dX12_goes_295 rfl (by cases fa16; rfl) rfl ?_
            refine go_lconst (w := 1) (n := 299) rfl dX12_goes_298 rfl ?_
            refine go_lcmp (n := 300) dX12_goes_299 rfl ?_
            refine go_if_ne (tgt := 327) (n := 303) dX12_goes_300 rfl rfl (fun c17 => ?_) (fun c17 => ?_)
            · rw [if_neg c17] at E
              refine go_pick (lv' := [(0, vr (some l0)), (1, vi l1), (2, vi l2), (3, vi l3), (4, vi l4)]) [3, 4, 5, 6, 7] rfl ?_
              exact SX12_goes_L327   _ hrc8 _ _ _ _ _  _ E
            · rw [if_pos c17] at E
              refine go_iload (j := 1) (n := 305) rfl dX12_goes_303 rfl ?_
              refine go_iconst (z := 4) (n := 306) ⟨by decide, by decide⟩ dX12_goes_305 rfl ?_
              refine go_icmp_ne (tgt := 311) (n := 309) dX12_goes_306 rfl rfl (fun c18 => ?_) (fun c18 => ?_)
              · rw [if_neg c18] at E
                refine go_aload_n (j := 3) (n := 312) rfl rfl dX12_goes_311 rfl ?_
                refine go_iload_n (j := 4) (n := 313) rfl rfl dX12_goes_312 rfl ?_
                refine go_bipush (z := 15) (n := 315) ⟨by decide, by decide⟩ dX12_goes_313 rfl ?_
                refine go_aload_n (j := 3) (n := 316) rfl rfl dX12_goes_315 rfl ?_
                refine go_iload_n (j := 4) (n := 317) rfl rfl dX12_goes_316 rfl ?_
                refine go_bipush (z := 15) (n := 319) ⟨by decide, by decide⟩ dX12_goes_317 rfl ?_
                replace E := Option.bind_eq_some_iff.mp E; obtain ⟨a21, ea21, E⟩ := E
                obtain ⟨fa21, ga21⟩ := xrc_some ea21
                replace E := xb_some E; obtain ⟨v19, h20, ev19, E⟩ := E
                refine go_callV (y := yX12_its) (n := 322) (st := [vi 15, vi l1, vr (some l0)]) (as := [vi l1, vi 15]) (stk9 := [vi v19, vi 15, vi l1, vr (some l0)]) (OX12_its ev19) yw_X12_its ci_12 ga21 wml_RX12_250 wim_X12_its wse_X12_its (Nat.le_of_ble_eq_true rfl) rfl ⟨Nat.le_of_ble_eq_true rfl, Nat.le_of_ble_eq_true rfl⟩ (Nat.le_of_ble_eq_true rfl) dX12_goes_319 rfl (by cases fa21; rfl) rfl ?_
                refine go_iconst (z := 1) (n := 323) ⟨by decide, by decide⟩ dX12_goes_322 rfl ?_
                refine go_iadd (n := 324) dX12_goes_323 rfl ?_
                replace E := Option.bind_eq_some_iff.mp E; obtain ⟨a24, ea24, E⟩ := E
                obtain ⟨fa24, ga24⟩ := xrc_some ea24
                replace E := xb_some E; obtain ⟨v22, h23, ev22, E⟩ := E
                refine go_callV (y := yX12_sets) (n := 327) (st := []) (as := [vi l1, vi 15, vi (w32 (v19 + 1))]) (stk9 := []) (OX12_sets ev22) yw_X12_sets ci_12 ga24 wml_RX12_243 wim_X12_sets wse_X12_sets (Nat.le_of_ble_eq_true rfl) rfl ⟨Nat.le_of_ble_eq_true rfl, Nat.le_of_ble_eq_true rfl⟩ (Nat.le_of_ble_eq_true rfl) dX12_goes_324 rfl (by cases fa24; rfl) rfl ?_
                refine go_pick (lv' := [(0, vr (some l0)), (1, vi l1), (2, vi l2), (3, vi l3), (4, vi l4)]) [3, 4, 5, 6, 7] rfl ?_
                exact SX12_goes_L327   _ hrc8 _ _ _ _ _  _ E
              · rw [if_pos c18] at E
                refine go_iconst (z := 0) (n := 310) ⟨by decide, by decide⟩ dX12_goes_309 rfl ?_
                cases E
                exact go_zreturn rfl (Or.inl rfl) dX12_goes_310
          · rw [if_pos c13] at E
            refine go_aload_n (j := 3) (n := 254) rfl rfl dX12_goes_253 rfl ?_
            refine go_iload_n (j := 4) (n := 255) rfl rfl dX12_goes_254 rfl ?_
            refine go_iload (j := 0) (n := 257) rfl dX12_goes_255 rfl ?_
            refine go_aload_n (j := 3) (n := 258) rfl rfl dX12_goes_257 rfl ?_
            replace E := Option.bind_eq_some_iff.mp E; obtain ⟨v25, ev25, E⟩ := E
            refine go_getP (n := 261) ev25 fl_RX12_14 rfl dX12_goes_258 rfl ?_
            refine go_bipush (z := 9) (n := 263) ⟨by decide, by decide⟩ dX12_goes_261 rfl ?_
            refine go_iload (j := 0) (n := 265) rfl dX12_goes_263 rfl ?_
            refine go_iadd (n := 266) dX12_goes_265 rfl ?_
            replace E := Option.bind_eq_some_iff.mp E; obtain ⟨v26, ev26, E⟩ := E
            refine go_iaload (n := 267) ev26 dX12_goes_266 rfl ?_
            refine go_i2l (n := 268) dX12_goes_267 rfl ?_
            refine go_aload_n (j := 3) (n := 269) rfl rfl dX12_goes_268 rfl ?_
            refine go_iload_n (j := 4) (n := 270) rfl rfl dX12_goes_269 rfl ?_
            refine go_iload (j := 2) (n := 272) rfl dX12_goes_270 rfl ?_
            refine go_iconst (z := 2) (n := 273) ⟨by decide, by decide⟩ dX12_goes_272 rfl ?_
            refine go_iadd (n := 274) dX12_goes_273 rfl ?_
            replace E := Option.bind_eq_some_iff.mp E; obtain ⟨a29, ea29, E⟩ := E
            obtain ⟨fa29, ga29⟩ := xrc_some ea29
            replace E := xb_some E; obtain ⟨v27, h28, ev27, E⟩ := E
            refine go_callV (y := yX12_its) (n := 277) (st := [vl v26, vi v8, vi l1, vr (some l0)]) (as := [vi l1, vi (w32 ((w32 (22 + (w32 (6 * l4)))) + 2))]) (stk9 := [vi v27, vl v26, vi v8, vi l1, vr (some l0)]) (OX12_its ev27) yw_X12_its ci_12 ga29 wml_RX12_250 wim_X12_its wse_X12_its (Nat.le_of_ble_eq_true rfl) rfl ⟨Nat.le_of_ble_eq_true rfl, Nat.le_of_ble_eq_true rfl⟩ (Nat.le_of_ble_eq_true rfl) dX12_goes_274 rfl (by cases fa29; rfl) rfl ?_
            refine go_i2l (n := 278) dX12_goes_277 rfl ?_
            replace E := xb_some E; obtain ⟨v30, h31, ev30, E⟩ := E
            refine go_callS (y := yX12_rounded) (n := 281) (st := [vi v8, vi l1, vr (some l0)]) (as := [vl v26, vl v27]) (stk9 := [vl v30, vi v8, vi l1, vr (some l0)]) (OX12_rounded ev30) yw_X12_rounded wml_RX12_286 wst_X12_rounded (Nat.le_of_ble_eq_true rfl) rfl ⟨Nat.le_of_ble_eq_true rfl, Nat.le_of_ble_eq_true rfl⟩ (Nat.le_of_ble_eq_true rfl) dX12_goes_278 rfl rfl rfl ?_
            refine go_iload_n (j := 6) (n := 282) rfl rfl dX12_goes_281 rfl ?_
            refine go_iload_n (j := 5) (n := 283) rfl rfl dX12_goes_282 rfl ?_
            replace E := Option.bind_eq_some_iff.mp E; obtain ⟨a34, ea34, E⟩ := E
            obtain ⟨fa34, ga34⟩ := xrc_some ea34
            replace E := xb_some E; obtain ⟨v32, h33, ev32, E⟩ := E
            refine go_callV (y := yX12_puts) (n := 286) (st := []) (as := [vi l1, vi v8, vl v30, vi l3, vi l2]) (stk9 := [vi v32]) (OX12_puts ev32) yw_X12_puts ci_12 ga34 wml_RX12_282 wim_X12_puts wse_X12_puts (Nat.le_of_ble_eq_true rfl) rfl ⟨Nat.le_of_ble_eq_true rfl, Nat.le_of_ble_eq_true rfl⟩ (Nat.le_of_ble_eq_true rfl) dX12_goes_283 rfl (by cases fa34; rfl) rfl ?_
            refine go_if_ne (tgt := 327) (n := 289) dX12_goes_286 rfl rfl (fun c35 => ?_) (fun c35 => ?_)
            · rw [if_neg c35] at E
              refine go_pick (lv' := [(0, vr (some l0)), (1, vi l1), (2, vi l2), (3, vi l3), (4, vi l4)]) [3, 4, 5, 6, 7] rfl ?_
              exact SX12_goes_L327   _ hrc8 _ _ _ _ _  _ E
            · rw [if_pos c35] at E
              refine go_iconst (z := 0) (n := 290) ⟨by decide, by decide⟩ dX12_goes_289 rfl ?_
              cases E
              exact go_zreturn rfl (Or.inl rfl) dX12_goes_290
        · rw [if_pos c12] at E
          refine go_lconst (w := 0) (n := 179) rfl dX12_goes_178 rfl ?_
          refine go_lstore (n := 181) (lv' := [(8, vl 0), (7, vi v8), (6, vi v5), (5, vi (w32 (22 + (w32 (6 * l4))))), (0, vr (some l0)), (1, vi l1), (2, vi l2), (3, vi l3), (4, vi l4)]) dX12_goes_179 rfl (Nat.le_of_ble_eq_true rfl) rfl ?_
          refine go_aload_n (j := 4) (n := 182) rfl rfl dX12_goes_181 rfl ?_
          refine go_iload_n (j := 5) (n := 183) rfl rfl dX12_goes_182 rfl ?_
          refine go_iload (j := 3) (n := 185) rfl dX12_goes_183 rfl ?_
          refine go_iconst (z := 2) (n := 186) ⟨by decide, by decide⟩ dX12_goes_185 rfl ?_
          refine go_iadd (n := 187) dX12_goes_186 rfl ?_
          replace E := Option.bind_eq_some_iff.mp E; obtain ⟨a38, ea38, E⟩ := E
          obtain ⟨fa38, ga38⟩ := xrc_some ea38
          replace E := xb_some E; obtain ⟨v36, h37, ev36, E⟩ := E
          refine go_callV (y := yX12_its) (n := 190) (st := []) (as := [vi l1, vi (w32 ((w32 (22 + (w32 (6 * l4)))) + 2))]) (stk9 := [vi v36]) (OX12_its ev36) yw_X12_its ci_12 ga38 wml_RX12_250 wim_X12_its wse_X12_its (Nat.le_of_ble_eq_true rfl) rfl ⟨Nat.le_of_ble_eq_true rfl, Nat.le_of_ble_eq_true rfl⟩ (Nat.le_of_ble_eq_true rfl) dX12_goes_187 rfl (by cases fa38; rfl) rfl ?_
          refine go_istore (n := 192) (lv' := [(10, vi v36), (8, vl 0), (7, vi v8), (6, vi v5), (5, vi (w32 (22 + (w32 (6 * l4))))), (0, vr (some l0)), (1, vi l1), (2, vi l2), (3, vi l3), (4, vi l4)]) dX12_goes_190 rfl (Nat.le_of_ble_eq_true rfl) rfl ?_
          refine go_pick (lv' := [(0, vr (some l0)), (1, vi l1), (2, vi l2), (3, vi l3), (4, vi l4), (5, vi (w32 (22 + (w32 (6 * l4))))), (7, vi v8), (8, vl 0), (10, vi v36)]) [5, 6, 7, 8, 9, 4, 2, 1, 0] rfl ?_
          exact SX12_goes_L192   _ hrc8 F _ _ _ _ _ _ _ _ _ _ E
      · rw [if_pos c11] at E
        refine go_aload_n (j := 3) (n := 56) rfl rfl dX12_goes_55 rfl ?_
        replace E := Option.bind_eq_some_iff.mp E; obtain ⟨v39, ev39, E⟩ := E
        refine go_getP (n := 59) ev39 fl_RX12_14 rfl dX12_goes_56 rfl ?_
        refine go_bipush (z := 9) (n := 61) ⟨by decide, by decide⟩ dX12_goes_59 rfl ?_
        refine go_iload (j := 0) (n := 63) rfl dX12_goes_61 rfl ?_
        refine go_iadd (n := 64) dX12_goes_63 rfl ?_
        replace E := Option.bind_eq_some_iff.mp E; obtain ⟨v40, ev40, E⟩ := E
        refine go_iaload (n := 65) ev40 dX12_goes_64 rfl ?_
        refine go_istore (n := 67) (lv' := [(8, vi v40), (7, vi v8), (6, vi v5), (5, vi (w32 (22 + (w32 (6 * l4))))), (0, vr (some l0)), (1, vi l1), (2, vi l2), (3, vi l3), (4, vi l4)]) dX12_goes_65 rfl (Nat.le_of_ble_eq_true rfl) rfl ?_
        refine go_iconst (z := 0) (n := 68) ⟨by decide, by decide⟩ dX12_goes_67 rfl ?_
        refine go_istore (n := 70) (lv' := [(9, vi 0), (8, vi v40), (7, vi v8), (6, vi v5), (5, vi (w32 (22 + (w32 (6 * l4))))), (0, vr (some l0)), (1, vi l1), (2, vi l2), (3, vi l3), (4, vi l4)]) dX12_goes_68 rfl (Nat.le_of_ble_eq_true rfl) rfl ?_
        refine go_pick (lv' := [(0, vr (some l0)), (1, vi l1), (2, vi l2), (3, vi l3), (4, vi l4), (5, vi (w32 (22 + (w32 (6 * l4))))), (7, vi v8), (8, vi v40), (9, vi 0)]) [5, 6, 7, 8, 9, 4, 2, 1, 0] rfl ?_
        exact SX12_goes_L70   _ hrc8 F _ _ _ _ _ _ _ _ _ _ E
noncomputable def X12_goes (F : Nat)   (l0 : Nat) (l1 : Int) (l2 : Int)  (h : HP) : Option (Int × HP) :=
  (xrc h (some l0) 12 31).bind fun a3 =>
  xb (X12_writings F a3 h) fun v1 h2 =>
  X12_goes_L8 F F l0 l1 l2 v1 0 h2
set_option maxRecDepth 100000 in
theorem SX12_goes {K : Ctx} {F : Nat} {r : Int} {hf : HP}     (l0 : Nat) (l1 : Int) (l2 : Int)  (h : HP) (E : X12_goes F   l0 l1 l2 h = some (r, hf)) : Go K MX12_goes (QM K (some (vi r)) hf) hf 0 [(0, vr (some l0)), (1, vi l1), (2, vi l2)] [] h := by
  unfold X12_goes at E
  refine go_aload_n (j := 0) (n := 1) rfl rfl dX12_goes_0 rfl ?_
  replace E := Option.bind_eq_some_iff.mp E; obtain ⟨a3, ea3, E⟩ := E
  obtain ⟨fa3, ga3⟩ := xrc_some ea3
  replace E := xb_some E; obtain ⟨v1, h2, ev1, E⟩ := E
  refine go_callV (y := yX12_writings) (n := 4) (st := []) (as := []) (stk9 := [vi v1]) (OX12_writings ev1) yw_X12_writings ci_12 ga3 wml_RX12_79 wim_X12_writings wse_X12_writings (Nat.le_of_ble_eq_true rfl) rfl ⟨Nat.le_of_ble_eq_true rfl, Nat.le_of_ble_eq_true rfl⟩ (Nat.le_of_ble_eq_true rfl) dX12_goes_1 rfl (by cases fa3; rfl) rfl ?_
  refine go_istore_n (n := 5) (lv' := [(3, vi v1), (0, vr (some l0)), (1, vi l1), (2, vi l2)]) rfl dX12_goes_4 rfl (Nat.le_of_ble_eq_true rfl) rfl ?_
  refine go_iconst (z := 0) (n := 6) ⟨by decide, by decide⟩ dX12_goes_5 rfl ?_
  refine go_istore (n := 8) (lv' := [(4, vi 0), (3, vi v1), (0, vr (some l0)), (1, vi l1), (2, vi l2)]) dX12_goes_6 rfl (Nat.le_of_ble_eq_true rfl) rfl ?_
  refine go_pick (lv' := [(0, vr (some l0)), (1, vi l1), (2, vi l2), (3, vi v1), (4, vi 0)]) [2, 3, 4, 1, 0] rfl ?_
  exact SX12_goes_L8     F _ _ _ _ _ _ E
theorem OX12_goes {F : Nat} {l0 : Nat} {l1 : Int} {l2 : Int} {h hf : HP} {r : Int} (e : X12_goes F l0 l1 l2 h = some (r, hf)) : Ok MX12_goes [vr (some l0), vi l1, vi l2] (some (vi r)) h hf := fun K _ _ _ => SX12_goes l0 l1 l2 h e
theorem yw_X12_goes : YW yX12_goes cX12_goes 12 (some .boolean) 2 := ⟨bw_of 2148 (by decide +kernel) rfl, bw_of 129 (by decide +kernel) rfl, ⟨by decide +kernel, by decide +kernel, by decide +kernel⟩, by decide +kernel⟩
theorem wml_RX12_305 : Cond.methodLink RX12 305 yX12_goes ∈ BW := bw_of 2145 (by decide +kernel) rfl
theorem wim_X12_goes : Cond.instanceMethod yX12_goes ∈ BW := bw_of 2147 (by decide +kernel) rfl
theorem wse_X12_goes : Cond.selects RX12 yX12_goes yX12_goes ∈ BW := bw_of 98 (by decide +kernel) rfl
theorem yw_X12_ends : YW yX12_ends cX12_ends 4 none 3 := ⟨bw_of 2144 (by decide +kernel) rfl, bw_of 129 (by decide +kernel) rfl, ⟨by decide +kernel, by decide +kernel, by decide +kernel⟩, by decide +kernel⟩
theorem wml_RX12_301 : Cond.methodLink RX12 301 yX12_ends ∈ BW := bw_of 2141 (by decide +kernel) rfl
theorem wim_X12_ends : Cond.instanceMethod yX12_ends ∈ BW := bw_of 2143 (by decide +kernel) rfl
theorem wse_X12_ends : Cond.selects RX12 yX12_ends yX12_ends ∈ BW := bw_of 97 (by decide +kernel) rfl
theorem yw_X12_goesShort : YW yX12_goesShort cX12_goesShort 4 (some .boolean) 1 := ⟨bw_of 2134 (by decide +kernel) rfl, bw_of 129 (by decide +kernel) rfl, ⟨by decide +kernel, by decide +kernel, by decide +kernel⟩, by decide +kernel⟩
theorem wml_RX12_298 : Cond.methodLink RX12 298 yX12_goesShort ∈ BW := bw_of 2131 (by decide +kernel) rfl
theorem wim_X12_goesShort : Cond.instanceMethod yX12_goesShort ∈ BW := bw_of 2133 (by decide +kernel) rfl
theorem wse_X12_goesShort : Cond.selects RX12 yX12_goesShort yX12_goesShort ∈ BW := bw_of 95 (by decide +kernel) rfl
theorem yw_X12_begins : YW yX12_begins cX12_begins 4 none 0 := ⟨bw_of 2122 (by decide +kernel) rfl, bw_of 129 (by decide +kernel) rfl, ⟨by decide +kernel, by decide +kernel, by decide +kernel⟩, by decide +kernel⟩
theorem wml_RX12_295 : Cond.methodLink RX12 295 yX12_begins ∈ BW := bw_of 2119 (by decide +kernel) rfl
theorem wim_X12_begins : Cond.instanceMethod yX12_begins ∈ BW := bw_of 2121 (by decide +kernel) rfl
theorem wse_X12_begins : Cond.selects RX12 yX12_begins yX12_begins ∈ BW := bw_of 92 (by decide +kernel) rfl
abbrev MX12_machine : MI := (RX12, cX12_machine, 2, none, 8, none, "machine")
noncomputable def X12_machine_L33 (F : Nat)   (l0 : Nat)  (h : HP) : Option (Unit × HP) :=
  (xgP h (some l0) 12 31 1).bind fun v1 =>
  (xaI h v1 100 4).bind fun v2 =>
  if 0 ≤ v2 then
    (xrc h (some l0) 12 31).bind fun a6 =>
    xb (X12_its F a6 v2 9 h) fun v4 h5 =>
    (xrc h5 (some l0) 12 31).bind fun a9 =>
    xb (X12_sets F a9 v2 9 (w32 (v4 - 1)) h5) fun v7 h8 =>
    (xrc h8 (some l0) 12 31).bind fun a12 =>
    xb (X12_its F a12 v2 9 h8) fun v10 h11 =>
    if v10 ≤ 0 then
      (xgP h11 (some l0) 12 31 1).bind fun v14 =>
      (xsI h11 v14 4 (-1)).bind fun h15 =>
      (xrc h15 (some l0) 12 31).bind fun a18 =>
      xb (X12_its F a18 v2 11 h15) fun v16 h17 =>
      if v16 = 1 then
        (xrc h17 (some l0) 12 31).bind fun a28 =>
        xb (X12_goesShort F a28 v2 h17) fun v26 h27 =>
        (xrc h27 (some l0) 12 31).bind fun a31 =>
        xb (X12_ends F a31 v2 v26 3 h27) fun v29 h30 =>
        some ((), h30)
      else
        (xrc h17 (some l0) 12 31).bind fun a22 =>
        xb (X12_goes F a22 v2 3 h17) fun v20 h21 =>
        (xrc h21 (some l0) 12 31).bind fun a25 =>
        xb (X12_ends F a25 v2 v20 2 h21) fun v23 h24 =>
        some ((), h24)
    else
      some ((), h11)
  else
    some ((), h)
set_option maxRecDepth 100000 in
theorem SX12_machine_L33 {K : Ctx} {F : Nat} {r : Unit} {hf : HP}     (l0 : Nat)  (h : HP) (E : X12_machine_L33 F   l0 h = some (r, hf)) : Go K MX12_machine (QM K none hf) hf 33 [(0, vr (some l0))] [] h := by
  unfold X12_machine_L33 at E
  refine go_aload_n (j := 0) (n := 34) rfl rfl dX12_machine_33 rfl ?_
  replace E := Option.bind_eq_some_iff.mp E; obtain ⟨v1, ev1, E⟩ := E
  refine go_getP (n := 37) ev1 fl_RX12_14 rfl dX12_machine_34 rfl ?_
  refine go_iconst (z := 4) (n := 38) ⟨by decide, by decide⟩ dX12_machine_37 rfl ?_
  replace E := Option.bind_eq_some_iff.mp E; obtain ⟨v2, ev2, E⟩ := E
  refine go_iaload (n := 39) ev2 dX12_machine_38 rfl ?_
  refine go_istore_n (n := 40) (lv' := [(1, vi v2), (0, vr (some l0))]) rfl dX12_machine_39 rfl (Nat.le_of_ble_eq_true rfl) rfl ?_
  refine go_iload_n (j := 0) (n := 41) rfl rfl dX12_machine_40 rfl ?_
  refine go_if_ge (tgt := 45) (n := 44) dX12_machine_41 rfl rfl (fun c3 => ?_) (fun c3 => ?_)
  · rw [if_pos c3] at E
    refine go_aload_n (j := 1) (n := 46) rfl rfl dX12_machine_45 rfl ?_
    refine go_iload_n (j := 0) (n := 47) rfl rfl dX12_machine_46 rfl ?_
    refine go_bipush (z := 9) (n := 49) ⟨by decide, by decide⟩ dX12_machine_47 rfl ?_
    refine go_aload_n (j := 1) (n := 50) rfl rfl dX12_machine_49 rfl ?_
    refine go_iload_n (j := 0) (n := 51) rfl rfl dX12_machine_50 rfl ?_
    refine go_bipush (z := 9) (n := 53) ⟨by decide, by decide⟩ dX12_machine_51 rfl ?_
    replace E := Option.bind_eq_some_iff.mp E; obtain ⟨a6, ea6, E⟩ := E
    obtain ⟨fa6, ga6⟩ := xrc_some ea6
    replace E := xb_some E; obtain ⟨v4, h5, ev4, E⟩ := E
    refine go_callV (y := yX12_its) (n := 56) (st := [vi 9, vi v2, vr (some l0)]) (as := [vi v2, vi 9]) (stk9 := [vi v4, vi 9, vi v2, vr (some l0)]) (OX12_its ev4) yw_X12_its ci_12 ga6 wml_RX12_250 wim_X12_its wse_X12_its (Nat.le_of_ble_eq_true rfl) rfl ⟨Nat.le_of_ble_eq_true rfl, Nat.le_of_ble_eq_true rfl⟩ (Nat.le_of_ble_eq_true rfl) dX12_machine_53 rfl (by cases fa6; rfl) rfl ?_
    refine go_iconst (z := 1) (n := 57) ⟨by decide, by decide⟩ dX12_machine_56 rfl ?_
    refine go_isub (n := 58) dX12_machine_57 rfl ?_
    replace E := Option.bind_eq_some_iff.mp E; obtain ⟨a9, ea9, E⟩ := E
    obtain ⟨fa9, ga9⟩ := xrc_some ea9
    replace E := xb_some E; obtain ⟨v7, h8, ev7, E⟩ := E
    refine go_callV (y := yX12_sets) (n := 61) (st := []) (as := [vi v2, vi 9, vi (w32 (v4 - 1))]) (stk9 := []) (OX12_sets ev7) yw_X12_sets ci_12 ga9 wml_RX12_243 wim_X12_sets wse_X12_sets (Nat.le_of_ble_eq_true rfl) rfl ⟨Nat.le_of_ble_eq_true rfl, Nat.le_of_ble_eq_true rfl⟩ (Nat.le_of_ble_eq_true rfl) dX12_machine_58 rfl (by cases fa9; rfl) rfl ?_
    refine go_aload_n (j := 1) (n := 62) rfl rfl dX12_machine_61 rfl ?_
    refine go_iload_n (j := 0) (n := 63) rfl rfl dX12_machine_62 rfl ?_
    refine go_bipush (z := 9) (n := 65) ⟨by decide, by decide⟩ dX12_machine_63 rfl ?_
    replace E := Option.bind_eq_some_iff.mp E; obtain ⟨a12, ea12, E⟩ := E
    obtain ⟨fa12, ga12⟩ := xrc_some ea12
    replace E := xb_some E; obtain ⟨v10, h11, ev10, E⟩ := E
    refine go_callV (y := yX12_its) (n := 68) (st := []) (as := [vi v2, vi 9]) (stk9 := [vi v10]) (OX12_its ev10) yw_X12_its ci_12 ga12 wml_RX12_250 wim_X12_its wse_X12_its (Nat.le_of_ble_eq_true rfl) rfl ⟨Nat.le_of_ble_eq_true rfl, Nat.le_of_ble_eq_true rfl⟩ (Nat.le_of_ble_eq_true rfl) dX12_machine_65 rfl (by cases fa12; rfl) rfl ?_
    refine go_if_le (tgt := 72) (n := 71) dX12_machine_68 rfl rfl (fun c13 => ?_) (fun c13 => ?_)
    · rw [if_pos c13] at E
      refine go_aload_n (j := 1) (n := 73) rfl rfl dX12_machine_72 rfl ?_
      replace E := Option.bind_eq_some_iff.mp E; obtain ⟨v14, ev14, E⟩ := E
      refine go_getP (n := 76) ev14 fl_RX12_14 rfl dX12_machine_73 rfl ?_
      refine go_iconst (z := 4) (n := 77) ⟨by decide, by decide⟩ dX12_machine_76 rfl ?_
      refine go_iconst (z := (-1)) (n := 78) ⟨by decide, by decide⟩ dX12_machine_77 rfl ?_
      replace E := Option.bind_eq_some_iff.mp E; obtain ⟨h15, eh15, E⟩ := E
      refine go_iastore (n := 79) eh15 dX12_machine_78 rfl ?_
      refine go_aload_n (j := 1) (n := 80) rfl rfl dX12_machine_79 rfl ?_
      refine go_iload_n (j := 0) (n := 81) rfl rfl dX12_machine_80 rfl ?_
      refine go_bipush (z := 11) (n := 83) ⟨by decide, by decide⟩ dX12_machine_81 rfl ?_
      replace E := Option.bind_eq_some_iff.mp E; obtain ⟨a18, ea18, E⟩ := E
      obtain ⟨fa18, ga18⟩ := xrc_some ea18
      replace E := xb_some E; obtain ⟨v16, h17, ev16, E⟩ := E
      refine go_callV (y := yX12_its) (n := 86) (st := []) (as := [vi v2, vi 11]) (stk9 := [vi v16]) (OX12_its ev16) yw_X12_its ci_12 ga18 wml_RX12_250 wim_X12_its wse_X12_its (Nat.le_of_ble_eq_true rfl) rfl ⟨Nat.le_of_ble_eq_true rfl, Nat.le_of_ble_eq_true rfl⟩ (Nat.le_of_ble_eq_true rfl) dX12_machine_83 rfl (by cases fa18; rfl) rfl ?_
      refine go_iconst (z := 1) (n := 87) ⟨by decide, by decide⟩ dX12_machine_86 rfl ?_
      refine go_icmp_ne (tgt := 104) (n := 90) dX12_machine_87 rfl rfl (fun c19 => ?_) (fun c19 => ?_)
      · rw [if_neg c19] at E
        refine go_aload_n (j := 1) (n := 105) rfl rfl dX12_machine_104 rfl ?_
        refine go_iload_n (j := 0) (n := 106) rfl rfl dX12_machine_105 rfl ?_
        refine go_aload_n (j := 1) (n := 107) rfl rfl dX12_machine_106 rfl ?_
        refine go_iload_n (j := 0) (n := 108) rfl rfl dX12_machine_107 rfl ?_
        refine go_iconst (z := 3) (n := 109) ⟨by decide, by decide⟩ dX12_machine_108 rfl ?_
        replace E := Option.bind_eq_some_iff.mp E; obtain ⟨a22, ea22, E⟩ := E
        obtain ⟨fa22, ga22⟩ := xrc_some ea22
        replace E := xb_some E; obtain ⟨v20, h21, ev20, E⟩ := E
        refine go_callV (y := yX12_goes) (n := 112) (st := [vi v2, vr (some l0)]) (as := [vi v2, vi 3]) (stk9 := [vi v20, vi v2, vr (some l0)]) (OX12_goes ev20) yw_X12_goes ci_12 ga22 wml_RX12_305 wim_X12_goes wse_X12_goes (Nat.le_of_ble_eq_true rfl) rfl ⟨Nat.le_of_ble_eq_true rfl, Nat.le_of_ble_eq_true rfl⟩ (Nat.le_of_ble_eq_true rfl) dX12_machine_109 rfl (by cases fa22; rfl) rfl ?_
        refine go_iconst (z := 2) (n := 113) ⟨by decide, by decide⟩ dX12_machine_112 rfl ?_
        replace E := Option.bind_eq_some_iff.mp E; obtain ⟨a25, ea25, E⟩ := E
        obtain ⟨fa25, ga25⟩ := xrc_some ea25
        replace E := xb_some E; obtain ⟨v23, h24, ev23, E⟩ := E
        refine go_callV (y := yX12_ends) (n := 116) (st := []) (as := [vi v2, vi v20, vi 2]) (stk9 := []) (OX12_ends ev23) yw_X12_ends ci_12 ga25 wml_RX12_301 wim_X12_ends wse_X12_ends (Nat.le_of_ble_eq_true rfl) rfl ⟨Nat.le_of_ble_eq_true rfl, Nat.le_of_ble_eq_true rfl⟩ (Nat.le_of_ble_eq_true rfl) dX12_machine_113 rfl (by cases fa25; rfl) rfl ?_
        cases E
        exact go_return rfl dX12_machine_116
      · rw [if_pos c19] at E
        refine go_aload_n (j := 1) (n := 91) rfl rfl dX12_machine_90 rfl ?_
        refine go_iload_n (j := 0) (n := 92) rfl rfl dX12_machine_91 rfl ?_
        refine go_aload_n (j := 1) (n := 93) rfl rfl dX12_machine_92 rfl ?_
        refine go_iload_n (j := 0) (n := 94) rfl rfl dX12_machine_93 rfl ?_
        replace E := Option.bind_eq_some_iff.mp E; obtain ⟨a28, ea28, E⟩ := E
        obtain ⟨fa28, ga28⟩ := xrc_some ea28
        replace E := xb_some E; obtain ⟨v26, h27, ev26, E⟩ := E
        refine go_callV (y := yX12_goesShort) (n := 97) (st := [vi v2, vr (some l0)]) (as := [vi v2]) (stk9 := [vi v26, vi v2, vr (some l0)]) (OX12_goesShort ev26) yw_X12_goesShort ci_12 ga28 wml_RX12_298 wim_X12_goesShort wse_X12_goesShort (Nat.le_of_ble_eq_true rfl) rfl ⟨Nat.le_of_ble_eq_true rfl, Nat.le_of_ble_eq_true rfl⟩ (Nat.le_of_ble_eq_true rfl) dX12_machine_94 rfl (by cases fa28; rfl) rfl ?_
        refine go_iconst (z := 3) (n := 98) ⟨by decide, by decide⟩ dX12_machine_97 rfl ?_
        replace E := Option.bind_eq_some_iff.mp E; obtain ⟨a31, ea31, E⟩ := E
        obtain ⟨fa31, ga31⟩ := xrc_some ea31
        replace E := xb_some E; obtain ⟨v29, h30, ev29, E⟩ := E
        refine go_callV (y := yX12_ends) (n := 101) (st := []) (as := [vi v2, vi v26, vi 3]) (stk9 := []) (OX12_ends ev29) yw_X12_ends ci_12 ga31 wml_RX12_301 wim_X12_ends wse_X12_ends (Nat.le_of_ble_eq_true rfl) rfl ⟨Nat.le_of_ble_eq_true rfl, Nat.le_of_ble_eq_true rfl⟩ (Nat.le_of_ble_eq_true rfl) dX12_machine_98 rfl (by cases fa31; rfl) rfl ?_
        refine go_goto (tgt := 116) dX12_machine_101 rfl ?_
        cases E
        exact go_return rfl dX12_machine_116
    · rw [if_neg c13] at E
      cases E
      exact go_return rfl dX12_machine_71
  · rw [if_neg c3] at E
    cases E
    exact go_return rfl dX12_machine_44
noncomputable def X12_machine (F : Nat)   (l0 : Nat)  (h : HP) : Option (Unit × HP) :=
  (xgP h (some l0) 12 31 1).bind fun v1 =>
  (xaI h v1 100 3).bind fun v2 =>
  if v2 ≤ 0 then
    (xgP h (some l0) 12 31 1).bind fun v4 =>
    (xaI h v4 100 4).bind fun v5 =>
    if 0 ≤ v5 then
      X12_machine_L33 F l0 h
    else
      (xrc h (some l0) 12 31).bind fun a9 =>
      xb (X12_begins F a9 h) fun v7 h8 =>
      X12_machine_L33 F l0 h8
  else
    (xgP h (some l0) 12 31 1).bind fun v10 =>
    (xaI h v10 100 3).bind fun v11 =>
    (xsI h v10 3 (w32 (v11 - 1))).bind fun h12 =>
    some ((), h12)
set_option maxRecDepth 100000 in
theorem SX12_machine {K : Ctx} {F : Nat} {r : Unit} {hf : HP}     (l0 : Nat)  (h : HP) (E : X12_machine F   l0 h = some (r, hf)) : Go K MX12_machine (QM K none hf) hf 0 [(0, vr (some l0))] [] h := by
  unfold X12_machine at E
  refine go_aload_n (j := 0) (n := 1) rfl rfl dX12_machine_0 rfl ?_
  replace E := Option.bind_eq_some_iff.mp E; obtain ⟨v1, ev1, E⟩ := E
  refine go_getP (n := 4) ev1 fl_RX12_14 rfl dX12_machine_1 rfl ?_
  refine go_iconst (z := 3) (n := 5) ⟨by decide, by decide⟩ dX12_machine_4 rfl ?_
  replace E := Option.bind_eq_some_iff.mp E; obtain ⟨v2, ev2, E⟩ := E
  refine go_iaload (n := 6) ev2 dX12_machine_5 rfl ?_
  refine go_if_le (tgt := 20) (n := 9) dX12_machine_6 rfl rfl (fun c3 => ?_) (fun c3 => ?_)
  · rw [if_pos c3] at E
    refine go_aload_n (j := 0) (n := 21) rfl rfl dX12_machine_20 rfl ?_
    replace E := Option.bind_eq_some_iff.mp E; obtain ⟨v4, ev4, E⟩ := E
    refine go_getP (n := 24) ev4 fl_RX12_14 rfl dX12_machine_21 rfl ?_
    refine go_iconst (z := 4) (n := 25) ⟨by decide, by decide⟩ dX12_machine_24 rfl ?_
    replace E := Option.bind_eq_some_iff.mp E; obtain ⟨v5, ev5, E⟩ := E
    refine go_iaload (n := 26) ev5 dX12_machine_25 rfl ?_
    refine go_if_ge (tgt := 33) (n := 29) dX12_machine_26 rfl rfl (fun c6 => ?_) (fun c6 => ?_)
    · rw [if_pos c6] at E
      exact SX12_machine_L33     _  _ E
    · rw [if_neg c6] at E
      refine go_aload_n (j := 0) (n := 30) rfl rfl dX12_machine_29 rfl ?_
      replace E := Option.bind_eq_some_iff.mp E; obtain ⟨a9, ea9, E⟩ := E
      obtain ⟨fa9, ga9⟩ := xrc_some ea9
      replace E := xb_some E; obtain ⟨v7, h8, ev7, E⟩ := E
      refine go_callV (y := yX12_begins) (n := 33) (st := []) (as := []) (stk9 := []) (OX12_begins ev7) yw_X12_begins ci_12 ga9 wml_RX12_295 wim_X12_begins wse_X12_begins (Nat.le_of_ble_eq_true rfl) rfl ⟨Nat.le_of_ble_eq_true rfl, Nat.le_of_ble_eq_true rfl⟩ (Nat.le_of_ble_eq_true rfl) dX12_machine_30 rfl (by cases fa9; rfl) rfl ?_
      exact SX12_machine_L33     _  _ E
  · rw [if_neg c3] at E
    refine go_aload_n (j := 0) (n := 10) rfl rfl dX12_machine_9 rfl ?_
    replace E := Option.bind_eq_some_iff.mp E; obtain ⟨v10, ev10, E⟩ := E
    refine go_getP (n := 13) ev10 fl_RX12_14 rfl dX12_machine_10 rfl ?_
    refine go_iconst (z := 3) (n := 14) ⟨by decide, by decide⟩ dX12_machine_13 rfl ?_
    refine go_dup2 (n := 15) rfl rfl dX12_machine_14 rfl ?_
    replace E := Option.bind_eq_some_iff.mp E; obtain ⟨v11, ev11, E⟩ := E
    refine go_iaload (n := 16) ev11 dX12_machine_15 rfl ?_
    refine go_iconst (z := 1) (n := 17) ⟨by decide, by decide⟩ dX12_machine_16 rfl ?_
    refine go_isub (n := 18) dX12_machine_17 rfl ?_
    replace E := Option.bind_eq_some_iff.mp E; obtain ⟨h12, eh12, E⟩ := E
    refine go_iastore (n := 19) eh12 dX12_machine_18 rfl ?_
    cases E
    exact go_return rfl dX12_machine_19
theorem OX12_machine {F : Nat} {l0 : Nat} {h hf : HP} {r : Unit} (e : X12_machine F l0 h = some (r, hf)) : Ok MX12_machine [vr (some l0)] none h hf := fun K _ _ _ => SX12_machine l0 h e
abbrev MX12_clerks : MI := (RX12, cX12_clerks, 2, none, 6, none, "clerks")
noncomputable def X12_clerks_L40 (F : Nat)   (l0 : Nat) (l1 : Int)  (h : HP) : Option (Unit × HP) :=
  (xgP h (some l0) 12 31 1).bind fun v1 =>
  (xaI h v1 100 8).bind fun v2 =>
  if l1 = v2 then
    some ((), h)
  else
    (xrc h (some l0) 12 31).bind fun a6 =>
    xb (X12_its F a6 l1 10 h) fun v4 h5 =>
    (xrc h5 (some l0) 12 31).bind fun a9 =>
    xb (X12_sets F a9 l1 10 (w32 (v4 + 1)) h5) fun v7 h8 =>
    (xrc h8 (some l0) 12 31).bind fun a12 =>
    xb (X12_its F a12 l1 10 h8) fun v10 h11 =>
    (xrc h11 (some l0) 12 31).bind fun a15 =>
    xb (X12_its F a15 l1 2 h11) fun v13 h14 =>
    if v10 = v13 then
      (xrc h14 (some l0) 12 31).bind fun a19 =>
      xb (X12_goes F a19 l1 2 h14) fun v17 h18 =>
      (xrc h18 (some l0) 12 31).bind fun a22 =>
      xb (X12_ends F a22 l1 v17 4 h18) fun v20 h21 =>
      some ((), h21)
    else
      some ((), h14)
set_option maxRecDepth 100000 in
theorem SX12_clerks_L40 {K : Ctx} {F : Nat} {r : Unit} {hf : HP}     (l0 : Nat) (l1 : Int)  (h : HP) (E : X12_clerks_L40 F   l0 l1 h = some (r, hf)) : Go K MX12_clerks (QM K none hf) hf 40 [(0, vr (some l0)), (1, vi l1)] [] h := by
  unfold X12_clerks_L40 at E
  refine go_iload_n (j := 1) (n := 41) rfl rfl dX12_clerks_40 rfl ?_
  refine go_aload_n (j := 0) (n := 42) rfl rfl dX12_clerks_41 rfl ?_
  replace E := Option.bind_eq_some_iff.mp E; obtain ⟨v1, ev1, E⟩ := E
  refine go_getP (n := 45) ev1 fl_RX12_14 rfl dX12_clerks_42 rfl ?_
  refine go_bipush (z := 8) (n := 47) ⟨by decide, by decide⟩ dX12_clerks_45 rfl ?_
  replace E := Option.bind_eq_some_iff.mp E; obtain ⟨v2, ev2, E⟩ := E
  refine go_iaload (n := 48) ev2 dX12_clerks_47 rfl ?_
  refine go_icmp_ne (tgt := 52) (n := 51) dX12_clerks_48 rfl rfl (fun c3 => ?_) (fun c3 => ?_)
  · rw [if_neg c3] at E
    refine go_aload_n (j := 0) (n := 53) rfl rfl dX12_clerks_52 rfl ?_
    refine go_iload_n (j := 1) (n := 54) rfl rfl dX12_clerks_53 rfl ?_
    refine go_bipush (z := 10) (n := 56) ⟨by decide, by decide⟩ dX12_clerks_54 rfl ?_
    refine go_aload_n (j := 0) (n := 57) rfl rfl dX12_clerks_56 rfl ?_
    refine go_iload_n (j := 1) (n := 58) rfl rfl dX12_clerks_57 rfl ?_
    refine go_bipush (z := 10) (n := 60) ⟨by decide, by decide⟩ dX12_clerks_58 rfl ?_
    replace E := Option.bind_eq_some_iff.mp E; obtain ⟨a6, ea6, E⟩ := E
    obtain ⟨fa6, ga6⟩ := xrc_some ea6
    replace E := xb_some E; obtain ⟨v4, h5, ev4, E⟩ := E
    refine go_callV (y := yX12_its) (n := 63) (st := [vi 10, vi l1, vr (some l0)]) (as := [vi l1, vi 10]) (stk9 := [vi v4, vi 10, vi l1, vr (some l0)]) (OX12_its ev4) yw_X12_its ci_12 ga6 wml_RX12_250 wim_X12_its wse_X12_its (Nat.le_of_ble_eq_true rfl) rfl ⟨Nat.le_of_ble_eq_true rfl, Nat.le_of_ble_eq_true rfl⟩ (Nat.le_of_ble_eq_true rfl) dX12_clerks_60 rfl (by cases fa6; rfl) rfl ?_
    refine go_iconst (z := 1) (n := 64) ⟨by decide, by decide⟩ dX12_clerks_63 rfl ?_
    refine go_iadd (n := 65) dX12_clerks_64 rfl ?_
    replace E := Option.bind_eq_some_iff.mp E; obtain ⟨a9, ea9, E⟩ := E
    obtain ⟨fa9, ga9⟩ := xrc_some ea9
    replace E := xb_some E; obtain ⟨v7, h8, ev7, E⟩ := E
    refine go_callV (y := yX12_sets) (n := 68) (st := []) (as := [vi l1, vi 10, vi (w32 (v4 + 1))]) (stk9 := []) (OX12_sets ev7) yw_X12_sets ci_12 ga9 wml_RX12_243 wim_X12_sets wse_X12_sets (Nat.le_of_ble_eq_true rfl) rfl ⟨Nat.le_of_ble_eq_true rfl, Nat.le_of_ble_eq_true rfl⟩ (Nat.le_of_ble_eq_true rfl) dX12_clerks_65 rfl (by cases fa9; rfl) rfl ?_
    refine go_aload_n (j := 0) (n := 69) rfl rfl dX12_clerks_68 rfl ?_
    refine go_iload_n (j := 1) (n := 70) rfl rfl dX12_clerks_69 rfl ?_
    refine go_bipush (z := 10) (n := 72) ⟨by decide, by decide⟩ dX12_clerks_70 rfl ?_
    replace E := Option.bind_eq_some_iff.mp E; obtain ⟨a12, ea12, E⟩ := E
    obtain ⟨fa12, ga12⟩ := xrc_some ea12
    replace E := xb_some E; obtain ⟨v10, h11, ev10, E⟩ := E
    refine go_callV (y := yX12_its) (n := 75) (st := []) (as := [vi l1, vi 10]) (stk9 := [vi v10]) (OX12_its ev10) yw_X12_its ci_12 ga12 wml_RX12_250 wim_X12_its wse_X12_its (Nat.le_of_ble_eq_true rfl) rfl ⟨Nat.le_of_ble_eq_true rfl, Nat.le_of_ble_eq_true rfl⟩ (Nat.le_of_ble_eq_true rfl) dX12_clerks_72 rfl (by cases fa12; rfl) rfl ?_
    refine go_aload_n (j := 0) (n := 76) rfl rfl dX12_clerks_75 rfl ?_
    refine go_iload_n (j := 1) (n := 77) rfl rfl dX12_clerks_76 rfl ?_
    refine go_iconst (z := 2) (n := 78) ⟨by decide, by decide⟩ dX12_clerks_77 rfl ?_
    replace E := Option.bind_eq_some_iff.mp E; obtain ⟨a15, ea15, E⟩ := E
    obtain ⟨fa15, ga15⟩ := xrc_some ea15
    replace E := xb_some E; obtain ⟨v13, h14, ev13, E⟩ := E
    refine go_callV (y := yX12_its) (n := 81) (st := [vi v10]) (as := [vi l1, vi 2]) (stk9 := [vi v13, vi v10]) (OX12_its ev13) yw_X12_its ci_12 ga15 wml_RX12_250 wim_X12_its wse_X12_its (Nat.le_of_ble_eq_true rfl) rfl ⟨Nat.le_of_ble_eq_true rfl, Nat.le_of_ble_eq_true rfl⟩ (Nat.le_of_ble_eq_true rfl) dX12_clerks_78 rfl (by cases fa15; rfl) rfl ?_
    refine go_icmp_ne (tgt := 96) (n := 84) dX12_clerks_81 rfl rfl (fun c16 => ?_) (fun c16 => ?_)
    · rw [if_neg c16] at E
      cases E
      exact go_return rfl dX12_clerks_96
    · rw [if_pos c16] at E
      refine go_aload_n (j := 0) (n := 85) rfl rfl dX12_clerks_84 rfl ?_
      refine go_iload_n (j := 1) (n := 86) rfl rfl dX12_clerks_85 rfl ?_
      refine go_aload_n (j := 0) (n := 87) rfl rfl dX12_clerks_86 rfl ?_
      refine go_iload_n (j := 1) (n := 88) rfl rfl dX12_clerks_87 rfl ?_
      refine go_iconst (z := 2) (n := 89) ⟨by decide, by decide⟩ dX12_clerks_88 rfl ?_
      replace E := Option.bind_eq_some_iff.mp E; obtain ⟨a19, ea19, E⟩ := E
      obtain ⟨fa19, ga19⟩ := xrc_some ea19
      replace E := xb_some E; obtain ⟨v17, h18, ev17, E⟩ := E
      refine go_callV (y := yX12_goes) (n := 92) (st := [vi l1, vr (some l0)]) (as := [vi l1, vi 2]) (stk9 := [vi v17, vi l1, vr (some l0)]) (OX12_goes ev17) yw_X12_goes ci_12 ga19 wml_RX12_305 wim_X12_goes wse_X12_goes (Nat.le_of_ble_eq_true rfl) rfl ⟨Nat.le_of_ble_eq_true rfl, Nat.le_of_ble_eq_true rfl⟩ (Nat.le_of_ble_eq_true rfl) dX12_clerks_89 rfl (by cases fa19; rfl) rfl ?_
      refine go_iconst (z := 4) (n := 93) ⟨by decide, by decide⟩ dX12_clerks_92 rfl ?_
      replace E := Option.bind_eq_some_iff.mp E; obtain ⟨a22, ea22, E⟩ := E
      obtain ⟨fa22, ga22⟩ := xrc_some ea22
      replace E := xb_some E; obtain ⟨v20, h21, ev20, E⟩ := E
      refine go_callV (y := yX12_ends) (n := 96) (st := []) (as := [vi l1, vi v17, vi 4]) (stk9 := []) (OX12_ends ev20) yw_X12_ends ci_12 ga22 wml_RX12_301 wim_X12_ends wse_X12_ends (Nat.le_of_ble_eq_true rfl) rfl ⟨Nat.le_of_ble_eq_true rfl, Nat.le_of_ble_eq_true rfl⟩ (Nat.le_of_ble_eq_true rfl) dX12_clerks_93 rfl (by cases fa22; rfl) rfl ?_
      cases E
      exact go_return rfl dX12_clerks_96
  · rw [if_pos c3] at E
    cases E
    exact go_return rfl dX12_clerks_51
noncomputable def X12_clerks_L34 (F : Nat)  (rc2 : Nat → Int → HP → Option (Unit × HP)) (l0 : Nat) (l1 : Int)  (h : HP) : Option (Unit × HP) :=
  rc2 l0 (w32 (l1 + 1)) h
set_option maxRecDepth 100000 in
theorem SX12_clerks_L34 {K : Ctx} {F : Nat} {r : Unit} {hf : HP}   (rc2 : Nat → Int → HP → Option (Unit × HP)) (hrc2 : ∀ l0 l1 h, rc2 l0 l1 h = some (r, hf) → Go K MX12_clerks (QM K none hf) hf 2 [(0, vr (some l0)), (1, vi l1)] [] h) (l0 : Nat) (l1 : Int)  (h : HP) (E : X12_clerks_L34 F  rc2 l0 l1 h = some (r, hf)) : Go K MX12_clerks (QM K none hf) hf 34 [(0, vr (some l0)), (1, vi l1)] [] h := by
  unfold X12_clerks_L34 at E
  refine go_iinc (j := 1) (n := 37) (lv' := [(1, vi (w32 (l1 + 1))), (0, vr (some l0))]) rfl dX12_clerks_34 rfl (Nat.le_of_ble_eq_true rfl) rfl ?_
  refine go_goto (tgt := 2) dX12_clerks_37 rfl ?_
  refine go_pick (lv' := [(0, vr (some l0)), (1, vi (w32 (l1 + 1)))]) [1, 0] rfl ?_
  exact hrc2 _ _ _ E
noncomputable def X12_clerks_L2 (F : Nat)   (k : Nat) : Nat → Int → HP → Option (Unit × HP) :=
  Nat.rec (motive := fun _ => Nat → Int → HP → Option (Unit × HP)) (fun _ _ _ => none) (fun _ rc2 l0 l1 h =>
    (xgP h (some l0) 12 31 1).bind fun v1 =>
    (xaI h v1 100 8).bind fun v2 =>
    if v2 ≤ l1 then
      X12_clerks_L40 F l0 l1 h
    else
      (xrc h (some l0) 12 31).bind fun a6 =>
      xb (X12_its F a6 l1 8 h) fun v4 h5 =>
      if v4 = 0 then
        (xrc h5 (some l0) 12 31).bind fun a10 =>
        xb (X12_its F a10 l1 11 h5) fun v8 h9 =>
        if v8 = 2 then
          X12_clerks_L40 F l0 l1 h9
        else
          X12_clerks_L34 F rc2 l0 l1 h9
      else
        X12_clerks_L34 F rc2 l0 l1 h5) k
theorem X12_clerks_L2_s (F : Nat)   (k : Nat) (l0 : Nat) (l1 : Int)  (h : HP) : X12_clerks_L2 F   (k + 1) l0 l1 h =
    (xgP h (some l0) 12 31 1).bind fun v1 =>
    (xaI h v1 100 8).bind fun v2 =>
    if v2 ≤ l1 then
      X12_clerks_L40 F l0 l1 h
    else
      (xrc h (some l0) 12 31).bind fun a6 =>
      xb (X12_its F a6 l1 8 h) fun v4 h5 =>
      if v4 = 0 then
        (xrc h5 (some l0) 12 31).bind fun a10 =>
        xb (X12_its F a10 l1 11 h5) fun v8 h9 =>
        if v8 = 2 then
          X12_clerks_L40 F l0 l1 h9
        else
          X12_clerks_L34 F (X12_clerks_L2 F k) l0 l1 h9
      else
        X12_clerks_L34 F (X12_clerks_L2 F k) l0 l1 h5 := rfl
set_option maxRecDepth 100000 in
theorem SX12_clerks_L2 {K : Ctx} {F : Nat} {r : Unit} {hf : HP}     : ∀ (k : Nat) (l0 : Nat) (l1 : Int)  (h : HP), X12_clerks_L2 F   k l0 l1 h = some (r, hf) → Go K MX12_clerks (QM K none hf) hf 2 [(0, vr (some l0)), (1, vi l1)] [] h := by
  intro k
  induction k with
  | zero => intro l0 l1 h E; exact nomatch E
  | succ k hrc2 =>
    intro l0 l1 h E
    rw [X12_clerks_L2_s] at E
    refine go_iload_n (j := 1) (n := 3) rfl rfl dX12_clerks_2 rfl ?_
    refine go_aload_n (j := 0) (n := 4) rfl rfl dX12_clerks_3 rfl ?_
    replace E := Option.bind_eq_some_iff.mp E; obtain ⟨v1, ev1, E⟩ := E
    refine go_getP (n := 7) ev1 fl_RX12_14 rfl dX12_clerks_4 rfl ?_
    refine go_bipush (z := 8) (n := 9) ⟨by decide, by decide⟩ dX12_clerks_7 rfl ?_
    replace E := Option.bind_eq_some_iff.mp E; obtain ⟨v2, ev2, E⟩ := E
    refine go_iaload (n := 10) ev2 dX12_clerks_9 rfl ?_
    refine go_icmp_ge (tgt := 40) (n := 13) dX12_clerks_10 rfl rfl (fun c3 => ?_) (fun c3 => ?_)
    · rw [if_pos c3] at E
      exact SX12_clerks_L40     _ _  _ E
    · rw [if_neg c3] at E
      refine go_aload_n (j := 0) (n := 14) rfl rfl dX12_clerks_13 rfl ?_
      refine go_iload_n (j := 1) (n := 15) rfl rfl dX12_clerks_14 rfl ?_
      refine go_bipush (z := 8) (n := 17) ⟨by decide, by decide⟩ dX12_clerks_15 rfl ?_
      replace E := Option.bind_eq_some_iff.mp E; obtain ⟨a6, ea6, E⟩ := E
      obtain ⟨fa6, ga6⟩ := xrc_some ea6
      replace E := xb_some E; obtain ⟨v4, h5, ev4, E⟩ := E
      refine go_callV (y := yX12_its) (n := 20) (st := []) (as := [vi l1, vi 8]) (stk9 := [vi v4]) (OX12_its ev4) yw_X12_its ci_12 ga6 wml_RX12_250 wim_X12_its wse_X12_its (Nat.le_of_ble_eq_true rfl) rfl ⟨Nat.le_of_ble_eq_true rfl, Nat.le_of_ble_eq_true rfl⟩ (Nat.le_of_ble_eq_true rfl) dX12_clerks_17 rfl (by cases fa6; rfl) rfl ?_
      refine go_if_ne (tgt := 34) (n := 23) dX12_clerks_20 rfl rfl (fun c7 => ?_) (fun c7 => ?_)
      · rw [if_neg c7] at E
        exact SX12_clerks_L34   _ hrc2 _ _  _ E
      · rw [if_pos c7] at E
        refine go_aload_n (j := 0) (n := 24) rfl rfl dX12_clerks_23 rfl ?_
        refine go_iload_n (j := 1) (n := 25) rfl rfl dX12_clerks_24 rfl ?_
        refine go_bipush (z := 11) (n := 27) ⟨by decide, by decide⟩ dX12_clerks_25 rfl ?_
        replace E := Option.bind_eq_some_iff.mp E; obtain ⟨a10, ea10, E⟩ := E
        obtain ⟨fa10, ga10⟩ := xrc_some ea10
        replace E := xb_some E; obtain ⟨v8, h9, ev8, E⟩ := E
        refine go_callV (y := yX12_its) (n := 30) (st := []) (as := [vi l1, vi 11]) (stk9 := [vi v8]) (OX12_its ev8) yw_X12_its ci_12 ga10 wml_RX12_250 wim_X12_its wse_X12_its (Nat.le_of_ble_eq_true rfl) rfl ⟨Nat.le_of_ble_eq_true rfl, Nat.le_of_ble_eq_true rfl⟩ (Nat.le_of_ble_eq_true rfl) dX12_clerks_27 rfl (by cases fa10; rfl) rfl ?_
        refine go_iconst (z := 2) (n := 31) ⟨by decide, by decide⟩ dX12_clerks_30 rfl ?_
        refine go_icmp_eq (tgt := 40) (n := 34) dX12_clerks_31 rfl rfl (fun c11 => ?_) (fun c11 => ?_)
        · rw [if_pos c11] at E
          exact SX12_clerks_L40     _ _  _ E
        · rw [if_neg c11] at E
          exact SX12_clerks_L34   _ hrc2 _ _  _ E
noncomputable def X12_clerks (F : Nat)   (l0 : Nat)  (h : HP) : Option (Unit × HP) :=
  X12_clerks_L2 F F l0 0 h
set_option maxRecDepth 100000 in
theorem SX12_clerks {K : Ctx} {F : Nat} {r : Unit} {hf : HP}     (l0 : Nat)  (h : HP) (E : X12_clerks F   l0 h = some (r, hf)) : Go K MX12_clerks (QM K none hf) hf 0 [(0, vr (some l0))] [] h := by
  unfold X12_clerks at E
  refine go_iconst (z := 0) (n := 1) ⟨by decide, by decide⟩ dX12_clerks_0 rfl ?_
  refine go_istore_n (n := 2) (lv' := [(1, vi 0), (0, vr (some l0))]) rfl dX12_clerks_1 rfl (Nat.le_of_ble_eq_true rfl) rfl ?_
  refine go_pick (lv' := [(0, vr (some l0)), (1, vi 0)]) [1, 0] rfl ?_
  exact SX12_clerks_L2     F _ _ _ E
theorem OX12_clerks {F : Nat} {l0 : Nat} {h hf : HP} {r : Unit} (e : X12_clerks F l0 h = some (r, hf)) : Ok MX12_clerks [vr (some l0)] none h hf := fun K _ _ _ => SX12_clerks l0 h e
theorem yw_X12_machine : YW yX12_machine cX12_machine 2 none 0 := ⟨bw_of 2118 (by decide +kernel) rfl, bw_of 129 (by decide +kernel) rfl, ⟨by decide +kernel, by decide +kernel, by decide +kernel⟩, by decide +kernel⟩
theorem wml_RX12_308 : Cond.methodLink RX12 308 yX12_machine ∈ BW := bw_of 2115 (by decide +kernel) rfl
theorem wim_X12_machine : Cond.instanceMethod yX12_machine ∈ BW := bw_of 2117 (by decide +kernel) rfl
theorem wse_X12_machine : Cond.selects RX12 yX12_machine yX12_machine ∈ BW := bw_of 91 (by decide +kernel) rfl
theorem yw_X12_clerks : YW yX12_clerks cX12_clerks 2 none 0 := ⟨bw_of 2163 (by decide +kernel) rfl, bw_of 129 (by decide +kernel) rfl, ⟨by decide +kernel, by decide +kernel, by decide +kernel⟩, by decide +kernel⟩
theorem wml_RX12_311 : Cond.methodLink RX12 311 yX12_clerks ∈ BW := bw_of 2160 (by decide +kernel) rfl
theorem wim_X12_clerks : Cond.instanceMethod yX12_clerks ∈ BW := bw_of 2162 (by decide +kernel) rfl
theorem wse_X12_clerks : Cond.selects RX12 yX12_clerks yX12_clerks ∈ BW := bw_of 100 (by decide +kernel) rfl
abbrev MX12_minutes : MI := (RX12, cX12_minutes, 3, (some .int), 9, none, "minutes")
noncomputable def X12_minutes_L71 (F : Nat)   (l0 : Nat)  (h : HP) : Option (Int × HP) :=
  (xrc h (some l0) 12 31).bind fun a3 =>
  xb (X12_now F a3 h) fun v1 h2 =>
  some (v1, h2)
set_option maxRecDepth 100000 in
theorem SX12_minutes_L71 {K : Ctx} {F : Nat} {r : Int} {hf : HP}     (l0 : Nat)  (h : HP) (E : X12_minutes_L71 F   l0 h = some (r, hf)) : Go K MX12_minutes (QM K (some (vi r)) hf) hf 71 [(0, vr (some l0))] [] h := by
  unfold X12_minutes_L71 at E
  refine go_aload_n (j := 0) (n := 72) rfl rfl dX12_minutes_71 rfl ?_
  replace E := Option.bind_eq_some_iff.mp E; obtain ⟨a3, ea3, E⟩ := E
  obtain ⟨fa3, ga3⟩ := xrc_some ea3
  replace E := xb_some E; obtain ⟨v1, h2, ev1, E⟩ := E
  refine go_callV (y := yX12_now) (n := 75) (st := []) (as := []) (stk9 := [vi v1]) (OX12_now ev1) yw_X12_now ci_12 ga3 wml_RX12_83 wim_X12_now wse_X12_now (Nat.le_of_ble_eq_true rfl) rfl ⟨Nat.le_of_ble_eq_true rfl, Nat.le_of_ble_eq_true rfl⟩ (Nat.le_of_ble_eq_true rfl) dX12_minutes_72 rfl (by cases fa3; rfl) rfl ?_
  cases E
  exact go_ireturn rfl dX12_minutes_75
noncomputable def X12_minutes_L32 (F : Nat)   (k : Nat) : Nat → Int → Int → HP → Option (Int × HP) :=
  Nat.rec (motive := fun _ => Nat → Int → Int → HP → Option (Int × HP)) (fun _ _ _ _ => none) (fun _ rc32 l0 l1 l2 h =>
    if l1 ≤ l2 then
      X12_minutes_L71 F l0 h
    else
      (xrc h (some l0) 12 31).bind fun a4 =>
      xb (X12_now F a4 h) fun v2 h3 =>
      if 480 ≤ v2 then
        X12_minutes_L71 F l0 h3
      else
        (xgP h3 (some l0) 12 31 1).bind fun v6 =>
        (xaI h3 v6 100 0).bind fun v7 =>
        (xsI h3 v6 0 (w32 (v7 + 1))).bind fun h8 =>
        (xrc h8 (some l0) 12 31).bind fun a11 =>
        xb (X12_machine F a11 h8) fun v9 h10 =>
        (xrc h10 (some l0) 12 31).bind fun a14 =>
        xb (X12_clerks F a14 h10) fun v12 h13 =>
        rc32 l0 l1 (w32 (l2 + 1)) h13) k
theorem X12_minutes_L32_s (F : Nat)   (k : Nat) (l0 : Nat) (l1 : Int) (l2 : Int)  (h : HP) : X12_minutes_L32 F   (k + 1) l0 l1 l2 h =
    if l1 ≤ l2 then
      X12_minutes_L71 F l0 h
    else
      (xrc h (some l0) 12 31).bind fun a4 =>
      xb (X12_now F a4 h) fun v2 h3 =>
      if 480 ≤ v2 then
        X12_minutes_L71 F l0 h3
      else
        (xgP h3 (some l0) 12 31 1).bind fun v6 =>
        (xaI h3 v6 100 0).bind fun v7 =>
        (xsI h3 v6 0 (w32 (v7 + 1))).bind fun h8 =>
        (xrc h8 (some l0) 12 31).bind fun a11 =>
        xb (X12_machine F a11 h8) fun v9 h10 =>
        (xrc h10 (some l0) 12 31).bind fun a14 =>
        xb (X12_clerks F a14 h10) fun v12 h13 =>
        (X12_minutes_L32 F k) l0 l1 (w32 (l2 + 1)) h13 := rfl
set_option maxRecDepth 100000 in
theorem SX12_minutes_L32 {K : Ctx} {F : Nat} {r : Int} {hf : HP}     : ∀ (k : Nat) (l0 : Nat) (l1 : Int) (l2 : Int)  (h : HP), X12_minutes_L32 F   k l0 l1 l2 h = some (r, hf) → Go K MX12_minutes (QM K (some (vi r)) hf) hf 32 [(0, vr (some l0)), (1, vi l1), (2, vi l2)] [] h := by
  intro k
  induction k with
  | zero => intro l0 l1 l2 h E; exact nomatch E
  | succ k hrc32 =>
    intro l0 l1 l2 h E
    rw [X12_minutes_L32_s] at E
    refine go_iload_n (j := 2) (n := 33) rfl rfl dX12_minutes_32 rfl ?_
    refine go_iload_n (j := 1) (n := 34) rfl rfl dX12_minutes_33 rfl ?_
    refine go_icmp_ge (tgt := 71) (n := 37) dX12_minutes_34 rfl rfl (fun c1 => ?_) (fun c1 => ?_)
    · rw [if_pos c1] at E
      refine go_pick (lv' := [(0, vr (some l0))]) [0] rfl ?_
      exact SX12_minutes_L71     _  _ E
    · rw [if_neg c1] at E
      refine go_aload_n (j := 0) (n := 38) rfl rfl dX12_minutes_37 rfl ?_
      replace E := Option.bind_eq_some_iff.mp E; obtain ⟨a4, ea4, E⟩ := E
      obtain ⟨fa4, ga4⟩ := xrc_some ea4
      replace E := xb_some E; obtain ⟨v2, h3, ev2, E⟩ := E
      refine go_callV (y := yX12_now) (n := 41) (st := []) (as := []) (stk9 := [vi v2]) (OX12_now ev2) yw_X12_now ci_12 ga4 wml_RX12_83 wim_X12_now wse_X12_now (Nat.le_of_ble_eq_true rfl) rfl ⟨Nat.le_of_ble_eq_true rfl, Nat.le_of_ble_eq_true rfl⟩ (Nat.le_of_ble_eq_true rfl) dX12_minutes_38 rfl (by cases fa4; rfl) rfl ?_
      refine go_sipush (z := 480) (n := 44) ⟨by decide, by decide⟩ dX12_minutes_41 rfl ?_
      refine go_icmp_ge (tgt := 71) (n := 47) dX12_minutes_44 rfl rfl (fun c5 => ?_) (fun c5 => ?_)
      · rw [if_pos c5] at E
        refine go_pick (lv' := [(0, vr (some l0))]) [0] rfl ?_
        exact SX12_minutes_L71     _  _ E
      · rw [if_neg c5] at E
        refine go_aload_n (j := 0) (n := 48) rfl rfl dX12_minutes_47 rfl ?_
        replace E := Option.bind_eq_some_iff.mp E; obtain ⟨v6, ev6, E⟩ := E
        refine go_getP (n := 51) ev6 fl_RX12_14 rfl dX12_minutes_48 rfl ?_
        refine go_iconst (z := 0) (n := 52) ⟨by decide, by decide⟩ dX12_minutes_51 rfl ?_
        refine go_dup2 (n := 53) rfl rfl dX12_minutes_52 rfl ?_
        replace E := Option.bind_eq_some_iff.mp E; obtain ⟨v7, ev7, E⟩ := E
        refine go_iaload (n := 54) ev7 dX12_minutes_53 rfl ?_
        refine go_iconst (z := 1) (n := 55) ⟨by decide, by decide⟩ dX12_minutes_54 rfl ?_
        refine go_iadd (n := 56) dX12_minutes_55 rfl ?_
        replace E := Option.bind_eq_some_iff.mp E; obtain ⟨h8, eh8, E⟩ := E
        refine go_iastore (n := 57) eh8 dX12_minutes_56 rfl ?_
        refine go_aload_n (j := 0) (n := 58) rfl rfl dX12_minutes_57 rfl ?_
        replace E := Option.bind_eq_some_iff.mp E; obtain ⟨a11, ea11, E⟩ := E
        obtain ⟨fa11, ga11⟩ := xrc_some ea11
        replace E := xb_some E; obtain ⟨v9, h10, ev9, E⟩ := E
        refine go_callV (y := yX12_machine) (n := 61) (st := []) (as := []) (stk9 := []) (OX12_machine ev9) yw_X12_machine ci_12 ga11 wml_RX12_308 wim_X12_machine wse_X12_machine (Nat.le_of_ble_eq_true rfl) rfl ⟨Nat.le_of_ble_eq_true rfl, Nat.le_of_ble_eq_true rfl⟩ (Nat.le_of_ble_eq_true rfl) dX12_minutes_58 rfl (by cases fa11; rfl) rfl ?_
        refine go_aload_n (j := 0) (n := 62) rfl rfl dX12_minutes_61 rfl ?_
        replace E := Option.bind_eq_some_iff.mp E; obtain ⟨a14, ea14, E⟩ := E
        obtain ⟨fa14, ga14⟩ := xrc_some ea14
        replace E := xb_some E; obtain ⟨v12, h13, ev12, E⟩ := E
        refine go_callV (y := yX12_clerks) (n := 65) (st := []) (as := []) (stk9 := []) (OX12_clerks ev12) yw_X12_clerks ci_12 ga14 wml_RX12_311 wim_X12_clerks wse_X12_clerks (Nat.le_of_ble_eq_true rfl) rfl ⟨Nat.le_of_ble_eq_true rfl, Nat.le_of_ble_eq_true rfl⟩ (Nat.le_of_ble_eq_true rfl) dX12_minutes_62 rfl (by cases fa14; rfl) rfl ?_
        refine go_iinc (j := 2) (n := 68) (lv' := [(2, vi (w32 (l2 + 1))), (0, vr (some l0)), (1, vi l1)]) rfl dX12_minutes_65 rfl (Nat.le_of_ble_eq_true rfl) rfl ?_
        refine go_goto (tgt := 32) dX12_minutes_68 rfl ?_
        refine go_pick (lv' := [(0, vr (some l0)), (1, vi l1), (2, vi (w32 (l2 + 1)))]) [1, 2, 0] rfl ?_
        exact hrc32 _ _ _ _ E
noncomputable def X12_minutes_L21 (F : Nat)   (l0 : Nat) (l1 : Int) (s0 : Int) (s1 : Option Nat) (h : HP) : Option (Int × HP) :=
  (xrc h s1 12 31).bind fun a3 =>
  xb (X12_throwsIf F a3 s0 1 h) fun v1 h2 =>
  if v1 = 0 then
    X12_minutes_L32 F F l0 l1 0 h2
  else
    some (0, h2)
set_option maxRecDepth 100000 in
theorem SX12_minutes_L21 {K : Ctx} {F : Nat} {r : Int} {hf : HP}     (l0 : Nat) (l1 : Int) (s0 : Int) (s1 : Option Nat) (h : HP) (E : X12_minutes_L21 F   l0 l1 s0 s1 h = some (r, hf)) : Go K MX12_minutes (QM K (some (vi r)) hf) hf 21 [(0, vr (some l0)), (1, vi l1)] [vi s0, vr s1] h := by
  unfold X12_minutes_L21 at E
  refine go_iconst (z := 1) (n := 22) ⟨by decide, by decide⟩ dX12_minutes_21 rfl ?_
  replace E := Option.bind_eq_some_iff.mp E; obtain ⟨a3, ea3, E⟩ := E
  obtain ⟨fa3, ga3⟩ := xrc_some ea3
  replace E := xb_some E; obtain ⟨v1, h2, ev1, E⟩ := E
  refine go_callV (y := yX12_throwsIf) (n := 25) (st := []) (as := [vi s0, vi 1]) (stk9 := [vi v1]) (OX12_throwsIf ev1) yw_X12_throwsIf ci_12 ga3 wml_RX12_65 wim_X12_throwsIf wse_X12_throwsIf (Nat.le_of_ble_eq_true rfl) rfl ⟨Nat.le_of_ble_eq_true rfl, Nat.le_of_ble_eq_true rfl⟩ (Nat.le_of_ble_eq_true rfl) dX12_minutes_22 rfl (by cases fa3; rfl) rfl ?_
  refine go_if_eq (tgt := 30) (n := 28) dX12_minutes_25 rfl rfl (fun c4 => ?_) (fun c4 => ?_)
  · rw [if_pos c4] at E
    refine go_iconst (z := 0) (n := 31) ⟨by decide, by decide⟩ dX12_minutes_30 rfl ?_
    refine go_istore_n (n := 32) (lv' := [(2, vi 0), (0, vr (some l0)), (1, vi l1)]) rfl dX12_minutes_31 rfl (Nat.le_of_ble_eq_true rfl) rfl ?_
    refine go_pick (lv' := [(0, vr (some l0)), (1, vi l1), (2, vi 0)]) [1, 2, 0] rfl ?_
    exact SX12_minutes_L32     F _ _ _ _ E
  · rw [if_neg c4] at E
    refine go_iconst (z := 0) (n := 29) ⟨by decide, by decide⟩ dX12_minutes_28 rfl ?_
    cases E
    exact go_ireturn rfl dX12_minutes_29
noncomputable def X12_minutes (F : Nat)   (l0 : Nat) (l1 : Int)  (h : HP) : Option (Int × HP) :=
  (xpI h (some l0) 12 31 0 0).bind fun h1 =>
  xb (X12_in F l1 0 120 h1) fun v2 h3 =>
  X12_minutes_L21 F l0 l1 (if v2 = 0 then 1 else 0) (some l0) h3
set_option maxRecDepth 100000 in
theorem SX12_minutes {K : Ctx} {F : Nat} {r : Int} {hf : HP}     (l0 : Nat) (l1 : Int)  (h : HP) (E : X12_minutes F   l0 l1 h = some (r, hf)) : Go K MX12_minutes (QM K (some (vi r)) hf) hf 0 [(0, vr (some l0)), (1, vi l1)] [] h := by
  unfold X12_minutes at E
  refine go_aload_n (j := 0) (n := 1) rfl rfl dX12_minutes_0 rfl ?_
  refine go_iconst (z := 0) (n := 2) ⟨by decide, by decide⟩ dX12_minutes_1 rfl ?_
  replace E := Option.bind_eq_some_iff.mp E; obtain ⟨h1, eh1, E⟩ := E
  refine go_putI (n := 5) eh1 fl_RX12_3 rfl dX12_minutes_2 rfl ?_
  refine go_aload_n (j := 0) (n := 6) rfl rfl dX12_minutes_5 rfl ?_
  refine go_iload_n (j := 1) (n := 7) rfl rfl dX12_minutes_6 rfl ?_
  refine go_iconst (z := 0) (n := 8) ⟨by decide, by decide⟩ dX12_minutes_7 rfl ?_
  refine go_bipush (z := 120) (n := 10) ⟨by decide, by decide⟩ dX12_minutes_8 rfl ?_
  replace E := xb_some E; obtain ⟨v2, h3, ev2, E⟩ := E
  refine go_callS (y := yX12_in) (n := 13) (st := [vr (some l0)]) (as := [vi l1, vi 0, vi 120]) (stk9 := [vi v2, vr (some l0)]) (OX12_in ev2) yw_X12_in wml_RX12_61 wst_X12_in (Nat.le_of_ble_eq_true rfl) rfl ⟨Nat.le_of_ble_eq_true rfl, Nat.le_of_ble_eq_true rfl⟩ (Nat.le_of_ble_eq_true rfl) dX12_minutes_10 rfl rfl rfl ?_
  refine go_if_ne (tgt := 20) (n := 16) dX12_minutes_13 rfl rfl (fun c4 => ?_) (fun c4 => ?_)
  · simp only [if_neg c4] at E
    refine go_iconst (z := 0) (n := 21) ⟨by decide, by decide⟩ dX12_minutes_20 rfl ?_
    exact SX12_minutes_L21     _ _ _ _ _ E
  · simp only [if_pos c4] at E
    refine go_iconst (z := 1) (n := 17) ⟨by decide, by decide⟩ dX12_minutes_16 rfl ?_
    refine go_goto (tgt := 21) dX12_minutes_17 rfl ?_
    exact SX12_minutes_L21     _ _ _ _ _ E
theorem OX12_minutes {F : Nat} {l0 : Nat} {l1 : Int} {h hf : HP} {r : Int} (e : X12_minutes F l0 l1 h = some (r, hf)) : Ok MX12_minutes [vr (some l0), vi l1] (some (vi r)) h hf := fun K _ _ _ => SX12_minutes l0 l1 h e
abbrev MX12_placeOf : MI := (RX12, cX12_placeOf, 3, (some .int), 7, none, "placeOf")
noncomputable def X12_placeOf_L11 (F : Nat)   (k : Nat) : Nat → Int → Int → HP → Option (Int × HP) :=
  Nat.rec (motive := fun _ => Nat → Int → Int → HP → Option (Int × HP)) (fun _ _ _ _ => none) (fun _ rc11 l0 l1 l2 h =>
    (xgP h (some l0) 12 31 16).bind fun v1 =>
    (xaI h v1 100 l2).bind fun v2 =>
    if v2 = l1 then
      some (l2, h)
    else
      rc11 l0 l1 (w32 (l2 + 1)) h) k
theorem X12_placeOf_L11_s (F : Nat)   (k : Nat) (l0 : Nat) (l1 : Int) (l2 : Int)  (h : HP) : X12_placeOf_L11 F   (k + 1) l0 l1 l2 h =
    (xgP h (some l0) 12 31 16).bind fun v1 =>
    (xaI h v1 100 l2).bind fun v2 =>
    if v2 = l1 then
      some (l2, h)
    else
      (X12_placeOf_L11 F k) l0 l1 (w32 (l2 + 1)) h := rfl
set_option maxRecDepth 100000 in
theorem SX12_placeOf_L11 {K : Ctx} {F : Nat} {r : Int} {hf : HP}     : ∀ (k : Nat) (l0 : Nat) (l1 : Int) (l2 : Int)  (h : HP), X12_placeOf_L11 F   k l0 l1 l2 h = some (r, hf) → Go K MX12_placeOf (QM K (some (vi r)) hf) hf 11 [(0, vr (some l0)), (1, vi l1), (2, vi l2)] [] h := by
  intro k
  induction k with
  | zero => intro l0 l1 l2 h E; exact nomatch E
  | succ k hrc11 =>
    intro l0 l1 l2 h E
    rw [X12_placeOf_L11_s] at E
    refine go_aload_n (j := 0) (n := 12) rfl rfl dX12_placeOf_11 rfl ?_
    replace E := Option.bind_eq_some_iff.mp E; obtain ⟨v1, ev1, E⟩ := E
    refine go_getP (n := 15) ev1 fl_RX12_34 rfl dX12_placeOf_12 rfl ?_
    refine go_iload_n (j := 2) (n := 16) rfl rfl dX12_placeOf_15 rfl ?_
    replace E := Option.bind_eq_some_iff.mp E; obtain ⟨v2, ev2, E⟩ := E
    refine go_iaload (n := 17) ev2 dX12_placeOf_16 rfl ?_
    refine go_iload_n (j := 1) (n := 18) rfl rfl dX12_placeOf_17 rfl ?_
    refine go_icmp_eq (tgt := 27) (n := 21) dX12_placeOf_18 rfl rfl (fun c3 => ?_) (fun c3 => ?_)
    · rw [if_pos c3] at E
      refine go_iload_n (j := 2) (n := 28) rfl rfl dX12_placeOf_27 rfl ?_
      cases E
      exact go_ireturn rfl dX12_placeOf_28
    · rw [if_neg c3] at E
      refine go_iinc (j := 2) (n := 24) (lv' := [(2, vi (w32 (l2 + 1))), (0, vr (some l0)), (1, vi l1)]) rfl dX12_placeOf_21 rfl (Nat.le_of_ble_eq_true rfl) rfl ?_
      refine go_goto (tgt := 11) dX12_placeOf_24 rfl ?_
      refine go_pick (lv' := [(0, vr (some l0)), (1, vi l1), (2, vi (w32 (l2 + 1)))]) [1, 2, 0] rfl ?_
      exact hrc11 _ _ _ _ E
noncomputable def X12_placeOf (F : Nat)   (l0 : Nat) (l1 : Int)  (h : HP) : Option (Int × HP) :=
  (xrc h (some l0) 12 31).bind fun a3 =>
  xb (X12_orders F a3 h) fun v1 h2 =>
  if v1 = 0 then
    some ((-1), h2)
  else
    X12_placeOf_L11 F F l0 l1 0 h2
set_option maxRecDepth 100000 in
theorem SX12_placeOf {K : Ctx} {F : Nat} {r : Int} {hf : HP}     (l0 : Nat) (l1 : Int)  (h : HP) (E : X12_placeOf F   l0 l1 h = some (r, hf)) : Go K MX12_placeOf (QM K (some (vi r)) hf) hf 0 [(0, vr (some l0)), (1, vi l1)] [] h := by
  unfold X12_placeOf at E
  refine go_aload_n (j := 0) (n := 1) rfl rfl dX12_placeOf_0 rfl ?_
  replace E := Option.bind_eq_some_iff.mp E; obtain ⟨a3, ea3, E⟩ := E
  obtain ⟨fa3, ga3⟩ := xrc_some ea3
  replace E := xb_some E; obtain ⟨v1, h2, ev1, E⟩ := E
  refine go_callV (y := yX12_orders) (n := 4) (st := []) (as := []) (stk9 := [vi v1]) (OX12_orders ev1) yw_X12_orders ci_12 ga3 wml_RX12_263 wim_X12_orders wse_X12_orders (Nat.le_of_ble_eq_true rfl) rfl ⟨Nat.le_of_ble_eq_true rfl, Nat.le_of_ble_eq_true rfl⟩ (Nat.le_of_ble_eq_true rfl) dX12_placeOf_1 rfl (by cases fa3; rfl) rfl ?_
  refine go_if_ne (tgt := 9) (n := 7) dX12_placeOf_4 rfl rfl (fun c4 => ?_) (fun c4 => ?_)
  · rw [if_neg c4] at E
    refine go_iconst (z := 0) (n := 10) ⟨by decide, by decide⟩ dX12_placeOf_9 rfl ?_
    refine go_istore_n (n := 11) (lv' := [(2, vi 0), (0, vr (some l0)), (1, vi l1)]) rfl dX12_placeOf_10 rfl (Nat.le_of_ble_eq_true rfl) rfl ?_
    refine go_pick (lv' := [(0, vr (some l0)), (1, vi l1), (2, vi 0)]) [1, 2, 0] rfl ?_
    exact SX12_placeOf_L11     F _ _ _ _ E
  · rw [if_pos c4] at E
    refine go_iconst (z := (-1)) (n := 8) ⟨by decide, by decide⟩ dX12_placeOf_7 rfl ?_
    cases E
    exact go_ireturn rfl dX12_placeOf_8
theorem OX12_placeOf {F : Nat} {l0 : Nat} {l1 : Int} {h hf : HP} {r : Int} (e : X12_placeOf F l0 l1 h = some (r, hf)) : Ok MX12_placeOf [vr (some l0), vi l1] (some (vi r)) h hf := fun K _ _ _ => SX12_placeOf l0 l1 h e
theorem yw_X12_placeOf : YW yX12_placeOf cX12_placeOf 3 (some .int) 1 := ⟨bw_of 2171 (by decide +kernel) rfl, bw_of 129 (by decide +kernel) rfl, ⟨by decide +kernel, by decide +kernel, by decide +kernel⟩, by decide +kernel⟩
theorem wml_RX12_314 : Cond.methodLink RX12 314 yX12_placeOf ∈ BW := bw_of 2168 (by decide +kernel) rfl
theorem wim_X12_placeOf : Cond.instanceMethod yX12_placeOf ∈ BW := bw_of 2170 (by decide +kernel) rfl
theorem wse_X12_placeOf : Cond.selects RX12 yX12_placeOf yX12_placeOf ∈ BW := bw_of 101 (by decide +kernel) rfl
abbrev MX12_look : MI := (RX12, cX12_look, 3, (some .int), 8, none, "look")
noncomputable def X12_look (F : Nat)   (l0 : Nat) (l1 : Int) (l2 : Int)  (h : HP) : Option (Int × HP) :=
  (xpI h (some l0) 12 31 0 0).bind fun h1 =>
  (xrc h1 (some l0) 12 31).bind fun a4 =>
  xb (X12_noJob F a4 l1 h1) fun v2 h3 =>
  (xrc h3 (some l0) 12 31).bind fun a7 =>
  xb (X12_throwsIf F a7 v2 1 h3) fun v5 h6 =>
  if v5 = 0 then
    if l2 = 0 then
      (xrc h6 (some l0) 12 31).bind fun a11 =>
      xb (X12_its F a11 l1 8 h6) fun v9 h10 =>
      some (v9, h10)
    else
      if l2 = 1 then
        (xrc h6 (some l0) 12 31).bind fun a14 =>
        xb (X12_its F a14 l1 9 h6) fun v12 h13 =>
        some (v12, h13)
      else
        if l2 = 2 then
          (xrc h6 (some l0) 12 31).bind fun a17 =>
          xb (X12_its F a17 l1 10 h6) fun v15 h16 =>
          some (v15, h16)
        else
          if l2 = 3 then
            (xrc h6 (some l0) 12 31).bind fun a20 =>
            xb (X12_its F a20 l1 11 h6) fun v18 h19 =>
            some (v18, h19)
          else
            if l2 = 4 then
              (xrc h6 (some l0) 12 31).bind fun a23 =>
              xb (X12_its F a23 l1 16 h6) fun v21 h22 =>
              some (v21, h22)
            else
              if l2 = 5 then
                (xrc h6 (some l0) 12 31).bind fun a26 =>
                xb (X12_its F a26 l1 12 h6) fun v24 h25 =>
                some (v24, h25)
              else
                if l2 = 6 then
                  (xrc h6 (some l0) 12 31).bind fun a29 =>
                  xb (X12_its F a29 l1 13 h6) fun v27 h28 =>
                  some (v27, h28)
                else
                  if l2 = 7 then
                    (xrc h6 (some l0) 12 31).bind fun a32 =>
                    xb (X12_its F a32 l1 14 h6) fun v30 h31 =>
                    some (v30, h31)
                  else
                    if l2 = 8 then
                      (xrc h6 (some l0) 12 31).bind fun a35 =>
                      xb (X12_its F a35 l1 15 h6) fun v33 h34 =>
                      some (v33, h34)
                    else
                      if l2 = 9 then
                        (xrc h6 (some l0) 12 31).bind fun a38 =>
                        xb (X12_placeOf F a38 l1 h6) fun v36 h37 =>
                        some (v36, h37)
                      else
                        (xpI h6 (some l0) 12 31 0 2).bind fun h39 =>
                        some (0, h39)
  else
    some (0, h6)
set_option maxRecDepth 100000 in
theorem SX12_look {K : Ctx} {F : Nat} {r : Int} {hf : HP}     (l0 : Nat) (l1 : Int) (l2 : Int)  (h : HP) (E : X12_look F   l0 l1 l2 h = some (r, hf)) : Go K MX12_look (QM K (some (vi r)) hf) hf 0 [(0, vr (some l0)), (1, vi l1), (2, vi l2)] [] h := by
  unfold X12_look at E
  refine go_aload_n (j := 0) (n := 1) rfl rfl dX12_look_0 rfl ?_
  refine go_iconst (z := 0) (n := 2) ⟨by decide, by decide⟩ dX12_look_1 rfl ?_
  replace E := Option.bind_eq_some_iff.mp E; obtain ⟨h1, eh1, E⟩ := E
  refine go_putI (n := 5) eh1 fl_RX12_3 rfl dX12_look_2 rfl ?_
  refine go_aload_n (j := 0) (n := 6) rfl rfl dX12_look_5 rfl ?_
  refine go_aload_n (j := 0) (n := 7) rfl rfl dX12_look_6 rfl ?_
  refine go_iload_n (j := 1) (n := 8) rfl rfl dX12_look_7 rfl ?_
  replace E := Option.bind_eq_some_iff.mp E; obtain ⟨a4, ea4, E⟩ := E
  obtain ⟨fa4, ga4⟩ := xrc_some ea4
  replace E := xb_some E; obtain ⟨v2, h3, ev2, E⟩ := E
  refine go_callV (y := yX12_noJob) (n := 11) (st := [vr (some l0)]) (as := [vi l1]) (stk9 := [vi v2, vr (some l0)]) (OX12_noJob ev2) yw_X12_noJob ci_12 ga4 wml_RX12_247 wim_X12_noJob wse_X12_noJob (Nat.le_of_ble_eq_true rfl) rfl ⟨Nat.le_of_ble_eq_true rfl, Nat.le_of_ble_eq_true rfl⟩ (Nat.le_of_ble_eq_true rfl) dX12_look_8 rfl (by cases fa4; rfl) rfl ?_
  refine go_iconst (z := 1) (n := 12) ⟨by decide, by decide⟩ dX12_look_11 rfl ?_
  replace E := Option.bind_eq_some_iff.mp E; obtain ⟨a7, ea7, E⟩ := E
  obtain ⟨fa7, ga7⟩ := xrc_some ea7
  replace E := xb_some E; obtain ⟨v5, h6, ev5, E⟩ := E
  refine go_callV (y := yX12_throwsIf) (n := 15) (st := []) (as := [vi v2, vi 1]) (stk9 := [vi v5]) (OX12_throwsIf ev5) yw_X12_throwsIf ci_12 ga7 wml_RX12_65 wim_X12_throwsIf wse_X12_throwsIf (Nat.le_of_ble_eq_true rfl) rfl ⟨Nat.le_of_ble_eq_true rfl, Nat.le_of_ble_eq_true rfl⟩ (Nat.le_of_ble_eq_true rfl) dX12_look_12 rfl (by cases fa7; rfl) rfl ?_
  refine go_if_eq (tgt := 20) (n := 18) dX12_look_15 rfl rfl (fun c8 => ?_) (fun c8 => ?_)
  · rw [if_pos c8] at E
    refine go_iload_n (j := 2) (n := 21) rfl rfl dX12_look_20 rfl ?_
    by_cases c40 : l2 = 0
    · rw [if_pos c40] at E
      refine go_tableIn (tgt := 76) dX12_look_21 (by omega) (by omega) (by rw [c40]; rfl) rfl ?_
      refine go_aload_n (j := 0) (n := 77) rfl rfl dX12_look_76 rfl ?_
      refine go_iload_n (j := 1) (n := 78) rfl rfl dX12_look_77 rfl ?_
      refine go_bipush (z := 8) (n := 80) ⟨by decide, by decide⟩ dX12_look_78 rfl ?_
      replace E := Option.bind_eq_some_iff.mp E; obtain ⟨a11, ea11, E⟩ := E
      obtain ⟨fa11, ga11⟩ := xrc_some ea11
      replace E := xb_some E; obtain ⟨v9, h10, ev9, E⟩ := E
      refine go_callV (y := yX12_its) (n := 83) (st := []) (as := [vi l1, vi 8]) (stk9 := [vi v9]) (OX12_its ev9) yw_X12_its ci_12 ga11 wml_RX12_250 wim_X12_its wse_X12_its (Nat.le_of_ble_eq_true rfl) rfl ⟨Nat.le_of_ble_eq_true rfl, Nat.le_of_ble_eq_true rfl⟩ (Nat.le_of_ble_eq_true rfl) dX12_look_80 rfl (by cases fa11; rfl) rfl ?_
      cases E
      exact go_ireturn rfl dX12_look_83
    rw [if_neg c40] at E
    by_cases c41 : l2 = 1
    · rw [if_pos c41] at E
      refine go_tableIn (tgt := 84) dX12_look_21 (by omega) (by omega) (by rw [c41]; rfl) rfl ?_
      refine go_aload_n (j := 0) (n := 85) rfl rfl dX12_look_84 rfl ?_
      refine go_iload_n (j := 1) (n := 86) rfl rfl dX12_look_85 rfl ?_
      refine go_bipush (z := 9) (n := 88) ⟨by decide, by decide⟩ dX12_look_86 rfl ?_
      replace E := Option.bind_eq_some_iff.mp E; obtain ⟨a14, ea14, E⟩ := E
      obtain ⟨fa14, ga14⟩ := xrc_some ea14
      replace E := xb_some E; obtain ⟨v12, h13, ev12, E⟩ := E
      refine go_callV (y := yX12_its) (n := 91) (st := []) (as := [vi l1, vi 9]) (stk9 := [vi v12]) (OX12_its ev12) yw_X12_its ci_12 ga14 wml_RX12_250 wim_X12_its wse_X12_its (Nat.le_of_ble_eq_true rfl) rfl ⟨Nat.le_of_ble_eq_true rfl, Nat.le_of_ble_eq_true rfl⟩ (Nat.le_of_ble_eq_true rfl) dX12_look_88 rfl (by cases fa14; rfl) rfl ?_
      cases E
      exact go_ireturn rfl dX12_look_91
    rw [if_neg c41] at E
    by_cases c42 : l2 = 2
    · rw [if_pos c42] at E
      refine go_tableIn (tgt := 92) dX12_look_21 (by omega) (by omega) (by rw [c42]; rfl) rfl ?_
      refine go_aload_n (j := 0) (n := 93) rfl rfl dX12_look_92 rfl ?_
      refine go_iload_n (j := 1) (n := 94) rfl rfl dX12_look_93 rfl ?_
      refine go_bipush (z := 10) (n := 96) ⟨by decide, by decide⟩ dX12_look_94 rfl ?_
      replace E := Option.bind_eq_some_iff.mp E; obtain ⟨a17, ea17, E⟩ := E
      obtain ⟨fa17, ga17⟩ := xrc_some ea17
      replace E := xb_some E; obtain ⟨v15, h16, ev15, E⟩ := E
      refine go_callV (y := yX12_its) (n := 99) (st := []) (as := [vi l1, vi 10]) (stk9 := [vi v15]) (OX12_its ev15) yw_X12_its ci_12 ga17 wml_RX12_250 wim_X12_its wse_X12_its (Nat.le_of_ble_eq_true rfl) rfl ⟨Nat.le_of_ble_eq_true rfl, Nat.le_of_ble_eq_true rfl⟩ (Nat.le_of_ble_eq_true rfl) dX12_look_96 rfl (by cases fa17; rfl) rfl ?_
      cases E
      exact go_ireturn rfl dX12_look_99
    rw [if_neg c42] at E
    by_cases c43 : l2 = 3
    · rw [if_pos c43] at E
      refine go_tableIn (tgt := 100) dX12_look_21 (by omega) (by omega) (by rw [c43]; rfl) rfl ?_
      refine go_aload_n (j := 0) (n := 101) rfl rfl dX12_look_100 rfl ?_
      refine go_iload_n (j := 1) (n := 102) rfl rfl dX12_look_101 rfl ?_
      refine go_bipush (z := 11) (n := 104) ⟨by decide, by decide⟩ dX12_look_102 rfl ?_
      replace E := Option.bind_eq_some_iff.mp E; obtain ⟨a20, ea20, E⟩ := E
      obtain ⟨fa20, ga20⟩ := xrc_some ea20
      replace E := xb_some E; obtain ⟨v18, h19, ev18, E⟩ := E
      refine go_callV (y := yX12_its) (n := 107) (st := []) (as := [vi l1, vi 11]) (stk9 := [vi v18]) (OX12_its ev18) yw_X12_its ci_12 ga20 wml_RX12_250 wim_X12_its wse_X12_its (Nat.le_of_ble_eq_true rfl) rfl ⟨Nat.le_of_ble_eq_true rfl, Nat.le_of_ble_eq_true rfl⟩ (Nat.le_of_ble_eq_true rfl) dX12_look_104 rfl (by cases fa20; rfl) rfl ?_
      cases E
      exact go_ireturn rfl dX12_look_107
    rw [if_neg c43] at E
    by_cases c44 : l2 = 4
    · rw [if_pos c44] at E
      refine go_tableIn (tgt := 108) dX12_look_21 (by omega) (by omega) (by rw [c44]; rfl) rfl ?_
      refine go_aload_n (j := 0) (n := 109) rfl rfl dX12_look_108 rfl ?_
      refine go_iload_n (j := 1) (n := 110) rfl rfl dX12_look_109 rfl ?_
      refine go_bipush (z := 16) (n := 112) ⟨by decide, by decide⟩ dX12_look_110 rfl ?_
      replace E := Option.bind_eq_some_iff.mp E; obtain ⟨a23, ea23, E⟩ := E
      obtain ⟨fa23, ga23⟩ := xrc_some ea23
      replace E := xb_some E; obtain ⟨v21, h22, ev21, E⟩ := E
      refine go_callV (y := yX12_its) (n := 115) (st := []) (as := [vi l1, vi 16]) (stk9 := [vi v21]) (OX12_its ev21) yw_X12_its ci_12 ga23 wml_RX12_250 wim_X12_its wse_X12_its (Nat.le_of_ble_eq_true rfl) rfl ⟨Nat.le_of_ble_eq_true rfl, Nat.le_of_ble_eq_true rfl⟩ (Nat.le_of_ble_eq_true rfl) dX12_look_112 rfl (by cases fa23; rfl) rfl ?_
      cases E
      exact go_ireturn rfl dX12_look_115
    rw [if_neg c44] at E
    by_cases c45 : l2 = 5
    · rw [if_pos c45] at E
      refine go_tableIn (tgt := 116) dX12_look_21 (by omega) (by omega) (by rw [c45]; rfl) rfl ?_
      refine go_aload_n (j := 0) (n := 117) rfl rfl dX12_look_116 rfl ?_
      refine go_iload_n (j := 1) (n := 118) rfl rfl dX12_look_117 rfl ?_
      refine go_bipush (z := 12) (n := 120) ⟨by decide, by decide⟩ dX12_look_118 rfl ?_
      replace E := Option.bind_eq_some_iff.mp E; obtain ⟨a26, ea26, E⟩ := E
      obtain ⟨fa26, ga26⟩ := xrc_some ea26
      replace E := xb_some E; obtain ⟨v24, h25, ev24, E⟩ := E
      refine go_callV (y := yX12_its) (n := 123) (st := []) (as := [vi l1, vi 12]) (stk9 := [vi v24]) (OX12_its ev24) yw_X12_its ci_12 ga26 wml_RX12_250 wim_X12_its wse_X12_its (Nat.le_of_ble_eq_true rfl) rfl ⟨Nat.le_of_ble_eq_true rfl, Nat.le_of_ble_eq_true rfl⟩ (Nat.le_of_ble_eq_true rfl) dX12_look_120 rfl (by cases fa26; rfl) rfl ?_
      cases E
      exact go_ireturn rfl dX12_look_123
    rw [if_neg c45] at E
    by_cases c46 : l2 = 6
    · rw [if_pos c46] at E
      refine go_tableIn (tgt := 124) dX12_look_21 (by omega) (by omega) (by rw [c46]; rfl) rfl ?_
      refine go_aload_n (j := 0) (n := 125) rfl rfl dX12_look_124 rfl ?_
      refine go_iload_n (j := 1) (n := 126) rfl rfl dX12_look_125 rfl ?_
      refine go_bipush (z := 13) (n := 128) ⟨by decide, by decide⟩ dX12_look_126 rfl ?_
      replace E := Option.bind_eq_some_iff.mp E; obtain ⟨a29, ea29, E⟩ := E
      obtain ⟨fa29, ga29⟩ := xrc_some ea29
      replace E := xb_some E; obtain ⟨v27, h28, ev27, E⟩ := E
      refine go_callV (y := yX12_its) (n := 131) (st := []) (as := [vi l1, vi 13]) (stk9 := [vi v27]) (OX12_its ev27) yw_X12_its ci_12 ga29 wml_RX12_250 wim_X12_its wse_X12_its (Nat.le_of_ble_eq_true rfl) rfl ⟨Nat.le_of_ble_eq_true rfl, Nat.le_of_ble_eq_true rfl⟩ (Nat.le_of_ble_eq_true rfl) dX12_look_128 rfl (by cases fa29; rfl) rfl ?_
      cases E
      exact go_ireturn rfl dX12_look_131
    rw [if_neg c46] at E
    by_cases c47 : l2 = 7
    · rw [if_pos c47] at E
      refine go_tableIn (tgt := 132) dX12_look_21 (by omega) (by omega) (by rw [c47]; rfl) rfl ?_
      refine go_aload_n (j := 0) (n := 133) rfl rfl dX12_look_132 rfl ?_
      refine go_iload_n (j := 1) (n := 134) rfl rfl dX12_look_133 rfl ?_
      refine go_bipush (z := 14) (n := 136) ⟨by decide, by decide⟩ dX12_look_134 rfl ?_
      replace E := Option.bind_eq_some_iff.mp E; obtain ⟨a32, ea32, E⟩ := E
      obtain ⟨fa32, ga32⟩ := xrc_some ea32
      replace E := xb_some E; obtain ⟨v30, h31, ev30, E⟩ := E
      refine go_callV (y := yX12_its) (n := 139) (st := []) (as := [vi l1, vi 14]) (stk9 := [vi v30]) (OX12_its ev30) yw_X12_its ci_12 ga32 wml_RX12_250 wim_X12_its wse_X12_its (Nat.le_of_ble_eq_true rfl) rfl ⟨Nat.le_of_ble_eq_true rfl, Nat.le_of_ble_eq_true rfl⟩ (Nat.le_of_ble_eq_true rfl) dX12_look_136 rfl (by cases fa32; rfl) rfl ?_
      cases E
      exact go_ireturn rfl dX12_look_139
    rw [if_neg c47] at E
    by_cases c48 : l2 = 8
    · rw [if_pos c48] at E
      refine go_tableIn (tgt := 140) dX12_look_21 (by omega) (by omega) (by rw [c48]; rfl) rfl ?_
      refine go_aload_n (j := 0) (n := 141) rfl rfl dX12_look_140 rfl ?_
      refine go_iload_n (j := 1) (n := 142) rfl rfl dX12_look_141 rfl ?_
      refine go_bipush (z := 15) (n := 144) ⟨by decide, by decide⟩ dX12_look_142 rfl ?_
      replace E := Option.bind_eq_some_iff.mp E; obtain ⟨a35, ea35, E⟩ := E
      obtain ⟨fa35, ga35⟩ := xrc_some ea35
      replace E := xb_some E; obtain ⟨v33, h34, ev33, E⟩ := E
      refine go_callV (y := yX12_its) (n := 147) (st := []) (as := [vi l1, vi 15]) (stk9 := [vi v33]) (OX12_its ev33) yw_X12_its ci_12 ga35 wml_RX12_250 wim_X12_its wse_X12_its (Nat.le_of_ble_eq_true rfl) rfl ⟨Nat.le_of_ble_eq_true rfl, Nat.le_of_ble_eq_true rfl⟩ (Nat.le_of_ble_eq_true rfl) dX12_look_144 rfl (by cases fa35; rfl) rfl ?_
      cases E
      exact go_ireturn rfl dX12_look_147
    rw [if_neg c48] at E
    by_cases c49 : l2 = 9
    · rw [if_pos c49] at E
      refine go_tableIn (tgt := 148) dX12_look_21 (by omega) (by omega) (by rw [c49]; rfl) rfl ?_
      refine go_aload_n (j := 0) (n := 149) rfl rfl dX12_look_148 rfl ?_
      refine go_iload_n (j := 1) (n := 150) rfl rfl dX12_look_149 rfl ?_
      replace E := Option.bind_eq_some_iff.mp E; obtain ⟨a38, ea38, E⟩ := E
      obtain ⟨fa38, ga38⟩ := xrc_some ea38
      replace E := xb_some E; obtain ⟨v36, h37, ev36, E⟩ := E
      refine go_callV (y := yX12_placeOf) (n := 153) (st := []) (as := [vi l1]) (stk9 := [vi v36]) (OX12_placeOf ev36) yw_X12_placeOf ci_12 ga38 wml_RX12_314 wim_X12_placeOf wse_X12_placeOf (Nat.le_of_ble_eq_true rfl) rfl ⟨Nat.le_of_ble_eq_true rfl, Nat.le_of_ble_eq_true rfl⟩ (Nat.le_of_ble_eq_true rfl) dX12_look_150 rfl (by cases fa38; rfl) rfl ?_
      cases E
      exact go_ireturn rfl dX12_look_153
    rw [if_neg c49] at E
    refine go_tableOut (tgt := 154) dX12_look_21 (by omega) rfl ?_
    refine go_aload_n (j := 0) (n := 155) rfl rfl dX12_look_154 rfl ?_
    refine go_iconst (z := 2) (n := 156) ⟨by decide, by decide⟩ dX12_look_155 rfl ?_
    replace E := Option.bind_eq_some_iff.mp E; obtain ⟨h39, eh39, E⟩ := E
    refine go_putI (n := 159) eh39 fl_RX12_3 rfl dX12_look_156 rfl ?_
    refine go_iconst (z := 0) (n := 160) ⟨by decide, by decide⟩ dX12_look_159 rfl ?_
    cases E
    exact go_ireturn rfl dX12_look_160
  · rw [if_neg c8] at E
    refine go_iconst (z := 0) (n := 19) ⟨by decide, by decide⟩ dX12_look_18 rfl ?_
    cases E
    exact go_ireturn rfl dX12_look_19
theorem OX12_look {F : Nat} {l0 : Nat} {l1 : Int} {l2 : Int} {h hf : HP} {r : Int} (e : X12_look F l0 l1 l2 h = some (r, hf)) : Ok MX12_look [vr (some l0), vi l1, vi l2] (some (vi r)) h hf := fun K _ _ _ => SX12_look l0 l1 l2 h e
abbrev MX12_noLamp : MI := (RX12, cX12_noLamp, 1, (some .boolean), 3, none, "noLamp")
noncomputable def X12_noLamp (F : Nat)   (l0 : Int)  (h : HP) : Option (Int × HP) :=
  xb (X12_in F l0 0 15 h) fun v1 h2 =>
  some (if v1 = 0 then 1 else 0, h2)
set_option maxRecDepth 100000 in
theorem SX12_noLamp {K : Ctx} {F : Nat} {r : Int} {hf : HP}     (l0 : Int)  (h : HP) (E : X12_noLamp F   l0 h = some (r, hf)) : Go K MX12_noLamp (QM K (some (vi r)) hf) hf 0 [(0, vi l0)] [] h := by
  unfold X12_noLamp at E
  refine go_iload_n (j := 0) (n := 1) rfl rfl dX12_noLamp_0 rfl ?_
  refine go_iconst (z := 0) (n := 2) ⟨by decide, by decide⟩ dX12_noLamp_1 rfl ?_
  refine go_bipush (z := 15) (n := 4) ⟨by decide, by decide⟩ dX12_noLamp_2 rfl ?_
  replace E := xb_some E; obtain ⟨v1, h2, ev1, E⟩ := E
  refine go_callS (y := yX12_in) (n := 7) (st := []) (as := [vi l0, vi 0, vi 15]) (stk9 := [vi v1]) (OX12_in ev1) yw_X12_in wml_RX12_61 wst_X12_in (Nat.le_of_ble_eq_true rfl) rfl ⟨Nat.le_of_ble_eq_true rfl, Nat.le_of_ble_eq_true rfl⟩ (Nat.le_of_ble_eq_true rfl) dX12_noLamp_4 rfl rfl rfl ?_
  refine go_if_ne (tgt := 14) (n := 10) dX12_noLamp_7 rfl rfl (fun c3 => ?_) (fun c3 => ?_)
  · simp only [if_neg c3] at E
    refine go_iconst (z := 0) (n := 15) ⟨by decide, by decide⟩ dX12_noLamp_14 rfl ?_
    cases E
    exact go_zreturn rfl (Or.inl rfl) dX12_noLamp_15
  · simp only [if_pos c3] at E
    refine go_iconst (z := 1) (n := 11) ⟨by decide, by decide⟩ dX12_noLamp_10 rfl ?_
    refine go_goto (tgt := 15) dX12_noLamp_11 rfl ?_
    cases E
    exact go_zreturn rfl (Or.inr rfl) dX12_noLamp_15
theorem OX12_noLamp {F : Nat} {l0 : Int} {h hf : HP} {r : Int} (e : X12_noLamp F l0 h = some (r, hf)) : Ok MX12_noLamp [vi l0] (some (vi r)) h hf := fun K _ _ _ => SX12_noLamp l0 h e
theorem yw_X12_noLamp : YW yX12_noLamp cX12_noLamp 1 (some .boolean) 1 := ⟨bw_of 2178 (by decide +kernel) rfl, bw_of 129 (by decide +kernel) rfl, ⟨by decide +kernel, by decide +kernel, by decide +kernel⟩, by decide +kernel⟩
theorem wml_RX12_317 : Cond.methodLink RX12 317 yX12_noLamp ∈ BW := bw_of 2176 (by decide +kernel) rfl
theorem wst_X12_noLamp : Cond.static yX12_noLamp ∈ BW := bw_of 2177 (by decide +kernel) rfl
abbrev MX12_lamp : MI := (RX12, cX12_lamp, 4, (some .boolean), 4, none, "lamp")
noncomputable def X12_lamp_L41 (F : Nat)   (l0 : Nat) (l1 : Int) (l2 : Int) (l3 : Int) (s0 : Int) (s1 : Option Nat) (h : HP) : Option (Int × HP) :=
  (xrc h s1 12 31).bind fun a3 =>
  xb (X12_throwsIf F a3 s0 2 h) fun v1 h2 =>
  if v1 = 0 then
    (xgP h2 (some l0) 12 31 1).bind fun v5 =>
    (xaI h2 v5 100 (w32 ((w32 (137 + (w32 (2 * l1)))) + 1))).bind fun v6 =>
    if v6 = 0 then
      (xgP h2 (some l0) 12 31 1).bind fun v8 =>
      (xsI h2 v8 (w32 (137 + (w32 (2 * l1)))) l2).bind fun h9 =>
      (xgP h9 (some l0) 12 31 1).bind fun v10 =>
      (xsI h9 v10 (w32 ((w32 (137 + (w32 (2 * l1)))) + 1)) l3).bind fun h11 =>
      some (1, h11)
    else
      some (0, h2)
  else
    some (0, h2)
set_option maxRecDepth 100000 in
theorem SX12_lamp_L41 {K : Ctx} {F : Nat} {r : Int} {hf : HP}     (l0 : Nat) (l1 : Int) (l2 : Int) (l3 : Int) (s0 : Int) (s1 : Option Nat) (h : HP) (E : X12_lamp_L41 F   l0 l1 l2 l3 s0 s1 h = some (r, hf)) : Go K MX12_lamp (QM K (some (vi r)) hf) hf 41 [(0, vr (some l0)), (1, vi l1), (2, vi l2), (3, vi l3)] [vi s0, vr s1] h := by
  unfold X12_lamp_L41 at E
  refine go_iconst (z := 2) (n := 42) ⟨by decide, by decide⟩ dX12_lamp_41 rfl ?_
  replace E := Option.bind_eq_some_iff.mp E; obtain ⟨a3, ea3, E⟩ := E
  obtain ⟨fa3, ga3⟩ := xrc_some ea3
  replace E := xb_some E; obtain ⟨v1, h2, ev1, E⟩ := E
  refine go_callV (y := yX12_throwsIf) (n := 45) (st := []) (as := [vi s0, vi 2]) (stk9 := [vi v1]) (OX12_throwsIf ev1) yw_X12_throwsIf ci_12 ga3 wml_RX12_65 wim_X12_throwsIf wse_X12_throwsIf (Nat.le_of_ble_eq_true rfl) rfl ⟨Nat.le_of_ble_eq_true rfl, Nat.le_of_ble_eq_true rfl⟩ (Nat.le_of_ble_eq_true rfl) dX12_lamp_42 rfl (by cases fa3; rfl) rfl ?_
  refine go_if_ne (tgt := 65) (n := 48) dX12_lamp_45 rfl rfl (fun c4 => ?_) (fun c4 => ?_)
  · rw [if_neg c4] at E
    refine go_iconst (z := 0) (n := 66) ⟨by decide, by decide⟩ dX12_lamp_65 rfl ?_
    cases E
    exact go_zreturn rfl (Or.inl rfl) dX12_lamp_66
  · rw [if_pos c4] at E
    refine go_aload_n (j := 0) (n := 49) rfl rfl dX12_lamp_48 rfl ?_
    replace E := Option.bind_eq_some_iff.mp E; obtain ⟨v5, ev5, E⟩ := E
    refine go_getP (n := 52) ev5 fl_RX12_14 rfl dX12_lamp_49 rfl ?_
    refine go_sipush (z := 137) (n := 55) ⟨by decide, by decide⟩ dX12_lamp_52 rfl ?_
    refine go_iconst (z := 2) (n := 56) ⟨by decide, by decide⟩ dX12_lamp_55 rfl ?_
    refine go_iload_n (j := 1) (n := 57) rfl rfl dX12_lamp_56 rfl ?_
    refine go_imul (n := 58) dX12_lamp_57 rfl ?_
    refine go_iadd (n := 59) dX12_lamp_58 rfl ?_
    refine go_iconst (z := 1) (n := 60) ⟨by decide, by decide⟩ dX12_lamp_59 rfl ?_
    refine go_iadd (n := 61) dX12_lamp_60 rfl ?_
    replace E := Option.bind_eq_some_iff.mp E; obtain ⟨v6, ev6, E⟩ := E
    refine go_iaload (n := 62) ev6 dX12_lamp_61 rfl ?_
    refine go_if_eq (tgt := 67) (n := 65) dX12_lamp_62 rfl rfl (fun c7 => ?_) (fun c7 => ?_)
    · rw [if_pos c7] at E
      refine go_aload_n (j := 0) (n := 68) rfl rfl dX12_lamp_67 rfl ?_
      replace E := Option.bind_eq_some_iff.mp E; obtain ⟨v8, ev8, E⟩ := E
      refine go_getP (n := 71) ev8 fl_RX12_14 rfl dX12_lamp_68 rfl ?_
      refine go_sipush (z := 137) (n := 74) ⟨by decide, by decide⟩ dX12_lamp_71 rfl ?_
      refine go_iconst (z := 2) (n := 75) ⟨by decide, by decide⟩ dX12_lamp_74 rfl ?_
      refine go_iload_n (j := 1) (n := 76) rfl rfl dX12_lamp_75 rfl ?_
      refine go_imul (n := 77) dX12_lamp_76 rfl ?_
      refine go_iadd (n := 78) dX12_lamp_77 rfl ?_
      refine go_iload_n (j := 2) (n := 79) rfl rfl dX12_lamp_78 rfl ?_
      replace E := Option.bind_eq_some_iff.mp E; obtain ⟨h9, eh9, E⟩ := E
      refine go_iastore (n := 80) eh9 dX12_lamp_79 rfl ?_
      refine go_aload_n (j := 0) (n := 81) rfl rfl dX12_lamp_80 rfl ?_
      replace E := Option.bind_eq_some_iff.mp E; obtain ⟨v10, ev10, E⟩ := E
      refine go_getP (n := 84) ev10 fl_RX12_14 rfl dX12_lamp_81 rfl ?_
      refine go_sipush (z := 137) (n := 87) ⟨by decide, by decide⟩ dX12_lamp_84 rfl ?_
      refine go_iconst (z := 2) (n := 88) ⟨by decide, by decide⟩ dX12_lamp_87 rfl ?_
      refine go_iload_n (j := 1) (n := 89) rfl rfl dX12_lamp_88 rfl ?_
      refine go_imul (n := 90) dX12_lamp_89 rfl ?_
      refine go_iadd (n := 91) dX12_lamp_90 rfl ?_
      refine go_iconst (z := 1) (n := 92) ⟨by decide, by decide⟩ dX12_lamp_91 rfl ?_
      refine go_iadd (n := 93) dX12_lamp_92 rfl ?_
      refine go_iload_n (j := 3) (n := 94) rfl rfl dX12_lamp_93 rfl ?_
      replace E := Option.bind_eq_some_iff.mp E; obtain ⟨h11, eh11, E⟩ := E
      refine go_iastore (n := 95) eh11 dX12_lamp_94 rfl ?_
      refine go_iconst (z := 1) (n := 96) ⟨by decide, by decide⟩ dX12_lamp_95 rfl ?_
      cases E
      exact go_zreturn rfl (Or.inr rfl) dX12_lamp_96
    · rw [if_neg c7] at E
      refine go_iconst (z := 0) (n := 66) ⟨by decide, by decide⟩ dX12_lamp_65 rfl ?_
      cases E
      exact go_zreturn rfl (Or.inl rfl) dX12_lamp_66
noncomputable def X12_lamp_L36 (F : Nat)   (l0 : Nat) (l1 : Int) (l2 : Int) (l3 : Int) (s0 : Option Nat) (h : HP) : Option (Int × HP) :=
  X12_lamp_L41 F l0 l1 l2 l3 1 s0 h
set_option maxRecDepth 100000 in
theorem SX12_lamp_L36 {K : Ctx} {F : Nat} {r : Int} {hf : HP}     (l0 : Nat) (l1 : Int) (l2 : Int) (l3 : Int) (s0 : Option Nat) (h : HP) (E : X12_lamp_L36 F   l0 l1 l2 l3 s0 h = some (r, hf)) : Go K MX12_lamp (QM K (some (vi r)) hf) hf 36 [(0, vr (some l0)), (1, vi l1), (2, vi l2), (3, vi l3)] [vr s0] h := by
  unfold X12_lamp_L36 at E
  refine go_iconst (z := 1) (n := 37) ⟨by decide, by decide⟩ dX12_lamp_36 rfl ?_
  refine go_goto (tgt := 41) dX12_lamp_37 rfl ?_
  exact SX12_lamp_L41     _ _ _ _ _ _ _ E
noncomputable def X12_lamp (F : Nat)   (l0 : Nat) (l1 : Int) (l2 : Int) (l3 : Int)  (h : HP) : Option (Int × HP) :=
  (xpI h (some l0) 12 31 0 0).bind fun h1 =>
  xb (X12_noLamp F l1 h1) fun v2 h3 =>
  (xrc h3 (some l0) 12 31).bind fun a6 =>
  xb (X12_throwsIf F a6 v2 1 h3) fun v4 h5 =>
  if v4 = 0 then
    (xrc h5 (some l0) 12 31).bind fun a10 =>
    xb (X12_now F a10 h5) fun v8 h9 =>
    xb (X12_in F l2 v8 480 h9) fun v11 h12 =>
    if v11 = 0 then
      X12_lamp_L36 F l0 l1 l2 l3 (some l0) h12
    else
      if l3 = 0 then
        X12_lamp_L36 F l0 l1 l2 l3 (some l0) h12
      else
        X12_lamp_L41 F l0 l1 l2 l3 0 (some l0) h12
  else
    some (0, h5)
set_option maxRecDepth 100000 in
theorem SX12_lamp {K : Ctx} {F : Nat} {r : Int} {hf : HP}     (l0 : Nat) (l1 : Int) (l2 : Int) (l3 : Int)  (h : HP) (E : X12_lamp F   l0 l1 l2 l3 h = some (r, hf)) : Go K MX12_lamp (QM K (some (vi r)) hf) hf 0 [(0, vr (some l0)), (1, vi l1), (2, vi l2), (3, vi l3)] [] h := by
  unfold X12_lamp at E
  refine go_aload_n (j := 0) (n := 1) rfl rfl dX12_lamp_0 rfl ?_
  refine go_iconst (z := 0) (n := 2) ⟨by decide, by decide⟩ dX12_lamp_1 rfl ?_
  replace E := Option.bind_eq_some_iff.mp E; obtain ⟨h1, eh1, E⟩ := E
  refine go_putI (n := 5) eh1 fl_RX12_3 rfl dX12_lamp_2 rfl ?_
  refine go_aload_n (j := 0) (n := 6) rfl rfl dX12_lamp_5 rfl ?_
  refine go_iload_n (j := 1) (n := 7) rfl rfl dX12_lamp_6 rfl ?_
  replace E := xb_some E; obtain ⟨v2, h3, ev2, E⟩ := E
  refine go_callS (y := yX12_noLamp) (n := 10) (st := [vr (some l0)]) (as := [vi l1]) (stk9 := [vi v2, vr (some l0)]) (OX12_noLamp ev2) yw_X12_noLamp wml_RX12_317 wst_X12_noLamp (Nat.le_of_ble_eq_true rfl) rfl ⟨Nat.le_of_ble_eq_true rfl, Nat.le_of_ble_eq_true rfl⟩ (Nat.le_of_ble_eq_true rfl) dX12_lamp_7 rfl rfl rfl ?_
  refine go_iconst (z := 1) (n := 11) ⟨by decide, by decide⟩ dX12_lamp_10 rfl ?_
  replace E := Option.bind_eq_some_iff.mp E; obtain ⟨a6, ea6, E⟩ := E
  obtain ⟨fa6, ga6⟩ := xrc_some ea6
  replace E := xb_some E; obtain ⟨v4, h5, ev4, E⟩ := E
  refine go_callV (y := yX12_throwsIf) (n := 14) (st := []) (as := [vi v2, vi 1]) (stk9 := [vi v4]) (OX12_throwsIf ev4) yw_X12_throwsIf ci_12 ga6 wml_RX12_65 wim_X12_throwsIf wse_X12_throwsIf (Nat.le_of_ble_eq_true rfl) rfl ⟨Nat.le_of_ble_eq_true rfl, Nat.le_of_ble_eq_true rfl⟩ (Nat.le_of_ble_eq_true rfl) dX12_lamp_11 rfl (by cases fa6; rfl) rfl ?_
  refine go_if_ne (tgt := 65) (n := 17) dX12_lamp_14 rfl rfl (fun c7 => ?_) (fun c7 => ?_)
  · rw [if_neg c7] at E
    refine go_iconst (z := 0) (n := 66) ⟨by decide, by decide⟩ dX12_lamp_65 rfl ?_
    cases E
    exact go_zreturn rfl (Or.inl rfl) dX12_lamp_66
  · rw [if_pos c7] at E
    refine go_aload_n (j := 0) (n := 18) rfl rfl dX12_lamp_17 rfl ?_
    refine go_iload_n (j := 2) (n := 19) rfl rfl dX12_lamp_18 rfl ?_
    refine go_aload_n (j := 0) (n := 20) rfl rfl dX12_lamp_19 rfl ?_
    replace E := Option.bind_eq_some_iff.mp E; obtain ⟨a10, ea10, E⟩ := E
    obtain ⟨fa10, ga10⟩ := xrc_some ea10
    replace E := xb_some E; obtain ⟨v8, h9, ev8, E⟩ := E
    refine go_callV (y := yX12_now) (n := 23) (st := [vi l2, vr (some l0)]) (as := []) (stk9 := [vi v8, vi l2, vr (some l0)]) (OX12_now ev8) yw_X12_now ci_12 ga10 wml_RX12_83 wim_X12_now wse_X12_now (Nat.le_of_ble_eq_true rfl) rfl ⟨Nat.le_of_ble_eq_true rfl, Nat.le_of_ble_eq_true rfl⟩ (Nat.le_of_ble_eq_true rfl) dX12_lamp_20 rfl (by cases fa10; rfl) rfl ?_
    refine go_sipush (z := 480) (n := 26) ⟨by decide, by decide⟩ dX12_lamp_23 rfl ?_
    replace E := xb_some E; obtain ⟨v11, h12, ev11, E⟩ := E
    refine go_callS (y := yX12_in) (n := 29) (st := [vr (some l0)]) (as := [vi l2, vi v8, vi 480]) (stk9 := [vi v11, vr (some l0)]) (OX12_in ev11) yw_X12_in wml_RX12_61 wst_X12_in (Nat.le_of_ble_eq_true rfl) rfl ⟨Nat.le_of_ble_eq_true rfl, Nat.le_of_ble_eq_true rfl⟩ (Nat.le_of_ble_eq_true rfl) dX12_lamp_26 rfl rfl rfl ?_
    refine go_if_eq (tgt := 36) (n := 32) dX12_lamp_29 rfl rfl (fun c13 => ?_) (fun c13 => ?_)
    · rw [if_pos c13] at E
      exact SX12_lamp_L36     _ _ _ _ _ _ E
    · rw [if_neg c13] at E
      refine go_iload_n (j := 3) (n := 33) rfl rfl dX12_lamp_32 rfl ?_
      refine go_if_ne (tgt := 40) (n := 36) dX12_lamp_33 rfl rfl (fun c14 => ?_) (fun c14 => ?_)
      · rw [if_neg c14] at E
        refine go_iconst (z := 0) (n := 41) ⟨by decide, by decide⟩ dX12_lamp_40 rfl ?_
        exact SX12_lamp_L41     _ _ _ _ _ _ _ E
      · rw [if_pos c14] at E
        exact SX12_lamp_L36     _ _ _ _ _ _ E
theorem OX12_lamp {F : Nat} {l0 : Nat} {l1 : Int} {l2 : Int} {l3 : Int} {h hf : HP} {r : Int} (e : X12_lamp F l0 l1 l2 l3 h = some (r, hf)) : Ok MX12_lamp [vr (some l0), vi l1, vi l2, vi l3] (some (vi r)) h hf := fun K _ _ _ => SX12_lamp l0 l1 l2 l3 h e
abbrev MX12_test : MI := (RX12, cX12_test, 7, (some .int), 4, none, "test")
noncomputable def X12_test_L227 (F : Nat)  (rc139 : Nat → Int → Int → Int → Int → HP → Option (Int × HP)) (l0 : Nat) (l1 : Int) (l2 : Int) (l3 : Int) (l4 : Int)  (h : HP) : Option (Int × HP) :=
  rc139 l0 l1 l2 l3 (w32 (l4 + 1)) h
set_option maxRecDepth 100000 in
theorem SX12_test_L227 {K : Ctx} {F : Nat} {r : Int} {hf : HP}   (rc139 : Nat → Int → Int → Int → Int → HP → Option (Int × HP)) (hrc139 : ∀ l0 l1 l2 l3 l4 h, rc139 l0 l1 l2 l3 l4 h = some (r, hf) → Go K MX12_test (QM K (some (vi r)) hf) hf 139 [(0, vr (some l0)), (1, vi l1), (2, vi l2), (3, vi l3), (4, vi l4)] [] h) (l0 : Nat) (l1 : Int) (l2 : Int) (l3 : Int) (l4 : Int)  (h : HP) (E : X12_test_L227 F  rc139 l0 l1 l2 l3 l4 h = some (r, hf)) : Go K MX12_test (QM K (some (vi r)) hf) hf 227 [(0, vr (some l0)), (1, vi l1), (2, vi l2), (3, vi l3), (4, vi l4)] [] h := by
  unfold X12_test_L227 at E
  refine go_iinc (j := 4) (n := 230) (lv' := [(4, vi (w32 (l4 + 1))), (0, vr (some l0)), (1, vi l1), (2, vi l2), (3, vi l3)]) rfl dX12_test_227 rfl (Nat.le_of_ble_eq_true rfl) rfl ?_
  refine go_goto (tgt := 139) dX12_test_230 rfl ?_
  refine go_pick (lv' := [(0, vr (some l0)), (1, vi l1), (2, vi l2), (3, vi l3), (4, vi (w32 (l4 + 1)))]) [1, 2, 3, 4, 0] rfl ?_
  exact hrc139 _ _ _ _ _ _ E
noncomputable def X12_test_L225 (F : Nat)  (rc139 : Nat → Int → Int → Int → Int → HP → Option (Int × HP)) (l0 : Nat) (l1 : Int) (l2 : Int) (l3 : Int) (l4 : Int) (s0 : Int) (s1 : Int) (s2 : Int) (s3 : Option Nat) (h : HP) : Option (Int × HP) :=
  (xsI h s3 s2 (w32 (s1 + s0))).bind fun h1 =>
  X12_test_L227 F rc139 l0 l1 l2 l3 l4 h1
set_option maxRecDepth 100000 in
theorem SX12_test_L225 {K : Ctx} {F : Nat} {r : Int} {hf : HP}   (rc139 : Nat → Int → Int → Int → Int → HP → Option (Int × HP)) (hrc139 : ∀ l0 l1 l2 l3 l4 h, rc139 l0 l1 l2 l3 l4 h = some (r, hf) → Go K MX12_test (QM K (some (vi r)) hf) hf 139 [(0, vr (some l0)), (1, vi l1), (2, vi l2), (3, vi l3), (4, vi l4)] [] h) (l0 : Nat) (l1 : Int) (l2 : Int) (l3 : Int) (l4 : Int) (s0 : Int) (s1 : Int) (s2 : Int) (s3 : Option Nat) (h : HP) (E : X12_test_L225 F  rc139 l0 l1 l2 l3 l4 s0 s1 s2 s3 h = some (r, hf)) : Go K MX12_test (QM K (some (vi r)) hf) hf 225 [(0, vr (some l0)), (1, vi l1), (2, vi l2), (3, vi l3), (4, vi l4)] [vi s0, vi s1, vi s2, vr s3] h := by
  unfold X12_test_L225 at E
  refine go_iadd (n := 226) dX12_test_225 rfl ?_
  replace E := Option.bind_eq_some_iff.mp E; obtain ⟨h1, eh1, E⟩ := E
  refine go_iastore (n := 227) eh1 dX12_test_226 rfl ?_
  exact SX12_test_L227   _ hrc139 _ _ _ _ _  _ E
noncomputable def X12_test_L139 (F : Nat)   (k : Nat) : Nat → Int → Int → Int → Int → HP → Option (Int × HP) :=
  Nat.rec (motive := fun _ => Nat → Int → Int → Int → Int → HP → Option (Int × HP)) (fun _ _ _ _ _ _ => none) (fun _ rc139 l0 l1 l2 l3 l4 h =>
    (xrc h (some l0) 12 31).bind fun a3 =>
    xb (X12_writings F a3 h) fun v1 h2 =>
    if v1 ≤ l4 then
      some (l3, h2)
    else
      (xrc h2 (some l0) 12 31).bind fun a7 =>
      xb (X12_of F a7 l4 1 h2) fun v5 h6 =>
      (xrc h6 (some l0) 12 31).bind fun a10 =>
      xb (X12_of F a10 l4 6 h6) fun v8 h9 =>
      xb (X12_in F (v5.tmod 16) l1 l2 h9) fun v11 h12 =>
      if v11 = 0 then
        X12_test_L227 F rc139 l0 l1 l2 l3 l4 h12
      else
        if ((w32 (v8.tdiv 4)).tmod 2) = 1 then
          X12_test_L227 F rc139 l0 l1 l2 l3 l4 h12
        else
          (xgP h12 (some l0) 12 31 1).bind fun v15 =>
          (xrc h12 (some l0) 12 31).bind fun a18 =>
          xb (X12_writingAt F a18 l4 6 h12) fun v16 h17 =>
          X12_test_L225 F rc139 l0 l1 l2 l3 l4 (if (xand (xshr l3 (v5.tmod 16)) 1) = 1 then 8 else 0) (w32 (v8 + 4)) v16 v15 h17) k
theorem X12_test_L139_s (F : Nat)   (k : Nat) (l0 : Nat) (l1 : Int) (l2 : Int) (l3 : Int) (l4 : Int)  (h : HP) : X12_test_L139 F   (k + 1) l0 l1 l2 l3 l4 h =
    (xrc h (some l0) 12 31).bind fun a3 =>
    xb (X12_writings F a3 h) fun v1 h2 =>
    if v1 ≤ l4 then
      some (l3, h2)
    else
      (xrc h2 (some l0) 12 31).bind fun a7 =>
      xb (X12_of F a7 l4 1 h2) fun v5 h6 =>
      (xrc h6 (some l0) 12 31).bind fun a10 =>
      xb (X12_of F a10 l4 6 h6) fun v8 h9 =>
      xb (X12_in F (v5.tmod 16) l1 l2 h9) fun v11 h12 =>
      if v11 = 0 then
        X12_test_L227 F (X12_test_L139 F k) l0 l1 l2 l3 l4 h12
      else
        if ((w32 (v8.tdiv 4)).tmod 2) = 1 then
          X12_test_L227 F (X12_test_L139 F k) l0 l1 l2 l3 l4 h12
        else
          (xgP h12 (some l0) 12 31 1).bind fun v15 =>
          (xrc h12 (some l0) 12 31).bind fun a18 =>
          xb (X12_writingAt F a18 l4 6 h12) fun v16 h17 =>
          X12_test_L225 F (X12_test_L139 F k) l0 l1 l2 l3 l4 (if (xand (xshr l3 (v5.tmod 16)) 1) = 1 then 8 else 0) (w32 (v8 + 4)) v16 v15 h17 := rfl
set_option maxRecDepth 100000 in
theorem SX12_test_L139 {K : Ctx} {F : Nat} {r : Int} {hf : HP}     : ∀ (k : Nat) (l0 : Nat) (l1 : Int) (l2 : Int) (l3 : Int) (l4 : Int)  (h : HP), X12_test_L139 F   k l0 l1 l2 l3 l4 h = some (r, hf) → Go K MX12_test (QM K (some (vi r)) hf) hf 139 [(0, vr (some l0)), (1, vi l1), (2, vi l2), (3, vi l3), (4, vi l4)] [] h := by
  intro k
  induction k with
  | zero => intro l0 l1 l2 l3 l4 h E; exact nomatch E
  | succ k hrc139 =>
    intro l0 l1 l2 l3 l4 h E
    rw [X12_test_L139_s] at E
    refine go_iload (j := 4) (n := 141) rfl dX12_test_139 rfl ?_
    refine go_aload_n (j := 0) (n := 142) rfl rfl dX12_test_141 rfl ?_
    replace E := Option.bind_eq_some_iff.mp E; obtain ⟨a3, ea3, E⟩ := E
    obtain ⟨fa3, ga3⟩ := xrc_some ea3
    replace E := xb_some E; obtain ⟨v1, h2, ev1, E⟩ := E
    refine go_callV (y := yX12_writings) (n := 145) (st := [vi l4]) (as := []) (stk9 := [vi v1, vi l4]) (OX12_writings ev1) yw_X12_writings ci_12 ga3 wml_RX12_79 wim_X12_writings wse_X12_writings (Nat.le_of_ble_eq_true rfl) rfl ⟨Nat.le_of_ble_eq_true rfl, Nat.le_of_ble_eq_true rfl⟩ (Nat.le_of_ble_eq_true rfl) dX12_test_142 rfl (by cases fa3; rfl) rfl ?_
    refine go_icmp_ge (tgt := 233) (n := 148) dX12_test_145 rfl rfl (fun c4 => ?_) (fun c4 => ?_)
    · rw [if_pos c4] at E
      refine go_iload_n (j := 3) (n := 234) rfl rfl dX12_test_233 rfl ?_
      cases E
      exact go_ireturn rfl dX12_test_234
    · rw [if_neg c4] at E
      refine go_aload_n (j := 0) (n := 149) rfl rfl dX12_test_148 rfl ?_
      refine go_iload (j := 4) (n := 151) rfl dX12_test_149 rfl ?_
      refine go_iconst (z := 1) (n := 152) ⟨by decide, by decide⟩ dX12_test_151 rfl ?_
      replace E := Option.bind_eq_some_iff.mp E; obtain ⟨a7, ea7, E⟩ := E
      obtain ⟨fa7, ga7⟩ := xrc_some ea7
      replace E := xb_some E; obtain ⟨v5, h6, ev5, E⟩ := E
      refine go_callV (y := yX12_of) (n := 155) (st := []) (as := [vi l4, vi 1]) (stk9 := [vi v5]) (OX12_of ev5) yw_X12_of ci_12 ga7 wml_RX12_100 wim_X12_of wse_X12_of (Nat.le_of_ble_eq_true rfl) rfl ⟨Nat.le_of_ble_eq_true rfl, Nat.le_of_ble_eq_true rfl⟩ (Nat.le_of_ble_eq_true rfl) dX12_test_152 rfl (by cases fa7; rfl) rfl ?_
      refine go_bipush (z := 16) (n := 157) ⟨by decide, by decide⟩ dX12_test_155 rfl ?_
      refine go_irem (n := 158) (by decide) dX12_test_157 rfl ?_
      refine go_istore (n := 160) (lv' := [(5, vi (v5.tmod 16)), (0, vr (some l0)), (1, vi l1), (2, vi l2), (3, vi l3), (4, vi l4)]) dX12_test_158 rfl (Nat.le_of_ble_eq_true rfl) rfl ?_
      refine go_aload_n (j := 1) (n := 161) rfl rfl dX12_test_160 rfl ?_
      refine go_iload (j := 5) (n := 163) rfl dX12_test_161 rfl ?_
      refine go_bipush (z := 6) (n := 165) ⟨by decide, by decide⟩ dX12_test_163 rfl ?_
      replace E := Option.bind_eq_some_iff.mp E; obtain ⟨a10, ea10, E⟩ := E
      obtain ⟨fa10, ga10⟩ := xrc_some ea10
      replace E := xb_some E; obtain ⟨v8, h9, ev8, E⟩ := E
      refine go_callV (y := yX12_of) (n := 168) (st := []) (as := [vi l4, vi 6]) (stk9 := [vi v8]) (OX12_of ev8) yw_X12_of ci_12 ga10 wml_RX12_100 wim_X12_of wse_X12_of (Nat.le_of_ble_eq_true rfl) rfl ⟨Nat.le_of_ble_eq_true rfl, Nat.le_of_ble_eq_true rfl⟩ (Nat.le_of_ble_eq_true rfl) dX12_test_165 rfl (by cases fa10; rfl) rfl ?_
      refine go_istore (n := 170) (lv' := [(6, vi v8), (5, vi (v5.tmod 16)), (0, vr (some l0)), (1, vi l1), (2, vi l2), (3, vi l3), (4, vi l4)]) dX12_test_168 rfl (Nat.le_of_ble_eq_true rfl) rfl ?_
      refine go_iload (j := 1) (n := 172) rfl dX12_test_170 rfl ?_
      refine go_iload_n (j := 3) (n := 173) rfl rfl dX12_test_172 rfl ?_
      refine go_iload_n (j := 4) (n := 174) rfl rfl dX12_test_173 rfl ?_
      replace E := xb_some E; obtain ⟨v11, h12, ev11, E⟩ := E
      refine go_callS (y := yX12_in) (n := 177) (st := []) (as := [vi (v5.tmod 16), vi l1, vi l2]) (stk9 := [vi v11]) (OX12_in ev11) yw_X12_in wml_RX12_61 wst_X12_in (Nat.le_of_ble_eq_true rfl) rfl ⟨Nat.le_of_ble_eq_true rfl, Nat.le_of_ble_eq_true rfl⟩ (Nat.le_of_ble_eq_true rfl) dX12_test_174 rfl rfl rfl ?_
      refine go_if_eq (tgt := 227) (n := 180) dX12_test_177 rfl rfl (fun c13 => ?_) (fun c13 => ?_)
      · rw [if_pos c13] at E
        refine go_pick (lv' := [(0, vr (some l0)), (1, vi l1), (2, vi l2), (3, vi l3), (4, vi l4)]) [2, 3, 4, 5, 6] rfl ?_
        exact SX12_test_L227   _ hrc139 _ _ _ _ _  _ E
      · rw [if_neg c13] at E
        refine go_iload (j := 0) (n := 182) rfl dX12_test_180 rfl ?_
        refine go_iconst (z := 4) (n := 183) ⟨by decide, by decide⟩ dX12_test_182 rfl ?_
        refine go_idiv (n := 184) (by decide) dX12_test_183 rfl ?_
        refine go_iconst (z := 2) (n := 185) ⟨by decide, by decide⟩ dX12_test_184 rfl ?_
        refine go_irem (n := 186) (by decide) dX12_test_185 rfl ?_
        refine go_iconst (z := 1) (n := 187) ⟨by decide, by decide⟩ dX12_test_186 rfl ?_
        refine go_icmp_ne (tgt := 193) (n := 190) dX12_test_187 rfl rfl (fun c14 => ?_) (fun c14 => ?_)
        · rw [if_neg c14] at E
          refine go_aload_n (j := 2) (n := 194) rfl rfl dX12_test_193 rfl ?_
          replace E := Option.bind_eq_some_iff.mp E; obtain ⟨v15, ev15, E⟩ := E
          refine go_getP (n := 197) ev15 fl_RX12_14 rfl dX12_test_194 rfl ?_
          refine go_aload_n (j := 2) (n := 198) rfl rfl dX12_test_197 rfl ?_
          refine go_iload (j := 6) (n := 200) rfl dX12_test_198 rfl ?_
          refine go_bipush (z := 6) (n := 202) ⟨by decide, by decide⟩ dX12_test_200 rfl ?_
          replace E := Option.bind_eq_some_iff.mp E; obtain ⟨a18, ea18, E⟩ := E
          obtain ⟨fa18, ga18⟩ := xrc_some ea18
          replace E := xb_some E; obtain ⟨v16, h17, ev16, E⟩ := E
          refine go_callV (y := yX12_writingAt) (n := 205) (st := [vr v15]) (as := [vi l4, vi 6]) (stk9 := [vi v16, vr v15]) (OX12_writingAt ev16) yw_X12_writingAt ci_12 ga18 wml_RX12_75 wim_X12_writingAt wse_X12_writingAt (Nat.le_of_ble_eq_true rfl) rfl ⟨Nat.le_of_ble_eq_true rfl, Nat.le_of_ble_eq_true rfl⟩ (Nat.le_of_ble_eq_true rfl) dX12_test_202 rfl (by cases fa18; rfl) rfl ?_
          refine go_iload (j := 0) (n := 207) rfl dX12_test_205 rfl ?_
          refine go_iconst (z := 4) (n := 208) ⟨by decide, by decide⟩ dX12_test_207 rfl ?_
          refine go_iadd (n := 209) dX12_test_208 rfl ?_
          refine go_iload_n (j := 5) (n := 210) rfl rfl dX12_test_209 rfl ?_
          refine go_iload (j := 1) (n := 212) rfl dX12_test_210 rfl ?_
          refine go_ishr (n := 213) dX12_test_212 rfl ?_
          refine go_iconst (z := 1) (n := 214) ⟨by decide, by decide⟩ dX12_test_213 rfl ?_
          refine go_iand (n := 215) dX12_test_214 rfl ?_
          refine go_iconst (z := 1) (n := 216) ⟨by decide, by decide⟩ dX12_test_215 rfl ?_
          refine go_icmp_ne (tgt := 224) (n := 219) dX12_test_216 rfl rfl (fun c19 => ?_) (fun c19 => ?_)
          · simp only [if_neg c19] at E
            refine go_iconst (z := 0) (n := 225) ⟨by decide, by decide⟩ dX12_test_224 rfl ?_
            refine go_pick (lv' := [(0, vr (some l0)), (1, vi l1), (2, vi l2), (3, vi l3), (4, vi l4)]) [2, 3, 4, 5, 6] rfl ?_
            exact SX12_test_L225   _ hrc139 _ _ _ _ _ _ _ _ _ _ E
          · simp only [if_pos c19] at E
            refine go_bipush (z := 8) (n := 221) ⟨by decide, by decide⟩ dX12_test_219 rfl ?_
            refine go_goto (tgt := 225) dX12_test_221 rfl ?_
            refine go_pick (lv' := [(0, vr (some l0)), (1, vi l1), (2, vi l2), (3, vi l3), (4, vi l4)]) [2, 3, 4, 5, 6] rfl ?_
            exact SX12_test_L225   _ hrc139 _ _ _ _ _ _ _ _ _ _ E
        · rw [if_pos c14] at E
          refine go_goto (tgt := 227) dX12_test_190 rfl ?_
          refine go_pick (lv' := [(0, vr (some l0)), (1, vi l1), (2, vi l2), (3, vi l3), (4, vi l4)]) [2, 3, 4, 5, 6] rfl ?_
          exact SX12_test_L227   _ hrc139 _ _ _ _ _  _ E
noncomputable def X12_test_L130 (F : Nat)  (rc57 : Nat → Int → Int → Int → Int → HP → Option (Int × HP)) (l0 : Nat) (l1 : Int) (l2 : Int) (l3 : Int) (l4 : Int)  (h : HP) : Option (Int × HP) :=
  rc57 l0 l1 l2 l3 (w32 (l4 + 1)) h
set_option maxRecDepth 100000 in
theorem SX12_test_L130 {K : Ctx} {F : Nat} {r : Int} {hf : HP}   (rc57 : Nat → Int → Int → Int → Int → HP → Option (Int × HP)) (hrc57 : ∀ l0 l1 l2 l3 l4 h, rc57 l0 l1 l2 l3 l4 h = some (r, hf) → Go K MX12_test (QM K (some (vi r)) hf) hf 57 [(0, vr (some l0)), (1, vi l1), (2, vi l2), (3, vi l3), (4, vi l4)] [] h) (l0 : Nat) (l1 : Int) (l2 : Int) (l3 : Int) (l4 : Int)  (h : HP) (E : X12_test_L130 F  rc57 l0 l1 l2 l3 l4 h = some (r, hf)) : Go K MX12_test (QM K (some (vi r)) hf) hf 130 [(0, vr (some l0)), (1, vi l1), (2, vi l2), (3, vi l3), (4, vi l4)] [] h := by
  unfold X12_test_L130 at E
  refine go_iinc (j := 4) (n := 133) (lv' := [(4, vi (w32 (l4 + 1))), (0, vr (some l0)), (1, vi l1), (2, vi l2), (3, vi l3)]) rfl dX12_test_130 rfl (Nat.le_of_ble_eq_true rfl) rfl ?_
  refine go_goto (tgt := 57) dX12_test_133 rfl ?_
  refine go_pick (lv' := [(0, vr (some l0)), (1, vi l1), (2, vi l2), (3, vi l3), (4, vi (w32 (l4 + 1)))]) [1, 2, 3, 4, 0] rfl ?_
  exact hrc57 _ _ _ _ _ _ E
noncomputable def X12_test_L57 (F : Nat)   (k : Nat) : Nat → Int → Int → Int → Int → HP → Option (Int × HP) :=
  Nat.rec (motive := fun _ => Nat → Int → Int → Int → Int → HP → Option (Int × HP)) (fun _ _ _ _ _ _ => none) (fun _ rc57 l0 l1 l2 l3 l4 h =>
    if l2 < l4 then
      X12_test_L139 F F l0 l1 l2 l3 0 h
    else
      (xgP h (some l0) 12 31 1).bind fun v2 =>
      (xaI h v2 100 (w32 ((w32 (137 + (w32 (2 * l4)))) + 1))).bind fun v3 =>
      if v3 = 0 then
        X12_test_L130 F rc57 l0 l1 l2 l3 l4 h
      else
        (xgP h (some l0) 12 31 1).bind fun v5 =>
        (xaI h v5 100 (w32 (137 + (w32 (2 * l4))))).bind fun v6 =>
        (xrc h (some l0) 12 31).bind fun a9 =>
        xb (X12_now F a9 h) fun v7 h8 =>
        if v6 ≤ v7 then
          (xgP h8 (some l0) 12 31 1).bind fun v11 =>
          (xsI h8 v11 (w32 ((w32 (137 + (w32 (2 * l4)))) + 1)) 0).bind fun h12 =>
          (xgP h12 (some l0) 12 31 1).bind fun v13 =>
          (xaI h12 v13 100 7).bind fun v14 =>
          (xsI h12 v13 7 (w32 (v14 + 1))).bind fun h15 =>
          X12_test_L130 F rc57 l0 l1 l2 (xor_ l3 (xshl 1 l4)) l4 h15
        else
          X12_test_L130 F rc57 l0 l1 l2 l3 l4 h8) k
theorem X12_test_L57_s (F : Nat)   (k : Nat) (l0 : Nat) (l1 : Int) (l2 : Int) (l3 : Int) (l4 : Int)  (h : HP) : X12_test_L57 F   (k + 1) l0 l1 l2 l3 l4 h =
    if l2 < l4 then
      X12_test_L139 F F l0 l1 l2 l3 0 h
    else
      (xgP h (some l0) 12 31 1).bind fun v2 =>
      (xaI h v2 100 (w32 ((w32 (137 + (w32 (2 * l4)))) + 1))).bind fun v3 =>
      if v3 = 0 then
        X12_test_L130 F (X12_test_L57 F k) l0 l1 l2 l3 l4 h
      else
        (xgP h (some l0) 12 31 1).bind fun v5 =>
        (xaI h v5 100 (w32 (137 + (w32 (2 * l4))))).bind fun v6 =>
        (xrc h (some l0) 12 31).bind fun a9 =>
        xb (X12_now F a9 h) fun v7 h8 =>
        if v6 ≤ v7 then
          (xgP h8 (some l0) 12 31 1).bind fun v11 =>
          (xsI h8 v11 (w32 ((w32 (137 + (w32 (2 * l4)))) + 1)) 0).bind fun h12 =>
          (xgP h12 (some l0) 12 31 1).bind fun v13 =>
          (xaI h12 v13 100 7).bind fun v14 =>
          (xsI h12 v13 7 (w32 (v14 + 1))).bind fun h15 =>
          X12_test_L130 F (X12_test_L57 F k) l0 l1 l2 (xor_ l3 (xshl 1 l4)) l4 h15
        else
          X12_test_L130 F (X12_test_L57 F k) l0 l1 l2 l3 l4 h8 := rfl
set_option maxRecDepth 100000 in
theorem SX12_test_L57 {K : Ctx} {F : Nat} {r : Int} {hf : HP}     : ∀ (k : Nat) (l0 : Nat) (l1 : Int) (l2 : Int) (l3 : Int) (l4 : Int)  (h : HP), X12_test_L57 F   k l0 l1 l2 l3 l4 h = some (r, hf) → Go K MX12_test (QM K (some (vi r)) hf) hf 57 [(0, vr (some l0)), (1, vi l1), (2, vi l2), (3, vi l3), (4, vi l4)] [] h := by
  intro k
  induction k with
  | zero => intro l0 l1 l2 l3 l4 h E; exact nomatch E
  | succ k hrc57 =>
    intro l0 l1 l2 l3 l4 h E
    rw [X12_test_L57_s] at E
    refine go_iload (j := 4) (n := 59) rfl dX12_test_57 rfl ?_
    refine go_iload_n (j := 2) (n := 60) rfl rfl dX12_test_59 rfl ?_
    refine go_icmp_gt (tgt := 136) (n := 63) dX12_test_60 rfl rfl (fun c1 => ?_) (fun c1 => ?_)
    · rw [if_pos c1] at E
      refine go_iconst (z := 0) (n := 137) ⟨by decide, by decide⟩ dX12_test_136 rfl ?_
      refine go_istore (n := 139) (lv' := [(4, vi 0), (0, vr (some l0)), (1, vi l1), (2, vi l2), (3, vi l3)]) dX12_test_137 rfl (Nat.le_of_ble_eq_true rfl) rfl ?_
      refine go_pick (lv' := [(0, vr (some l0)), (1, vi l1), (2, vi l2), (3, vi l3), (4, vi 0)]) [1, 2, 3, 4, 0] rfl ?_
      exact SX12_test_L139     F _ _ _ _ _ _ E
    · rw [if_neg c1] at E
      refine go_sipush (z := 137) (n := 66) ⟨by decide, by decide⟩ dX12_test_63 rfl ?_
      refine go_iconst (z := 2) (n := 67) ⟨by decide, by decide⟩ dX12_test_66 rfl ?_
      refine go_iload (j := 4) (n := 69) rfl dX12_test_67 rfl ?_
      refine go_imul (n := 70) dX12_test_69 rfl ?_
      refine go_iadd (n := 71) dX12_test_70 rfl ?_
      refine go_istore (n := 73) (lv' := [(5, vi (w32 (137 + (w32 (2 * l4))))), (0, vr (some l0)), (1, vi l1), (2, vi l2), (3, vi l3), (4, vi l4)]) dX12_test_71 rfl (Nat.le_of_ble_eq_true rfl) rfl ?_
      refine go_aload_n (j := 1) (n := 74) rfl rfl dX12_test_73 rfl ?_
      replace E := Option.bind_eq_some_iff.mp E; obtain ⟨v2, ev2, E⟩ := E
      refine go_getP (n := 77) ev2 fl_RX12_14 rfl dX12_test_74 rfl ?_
      refine go_iload (j := 0) (n := 79) rfl dX12_test_77 rfl ?_
      refine go_iconst (z := 1) (n := 80) ⟨by decide, by decide⟩ dX12_test_79 rfl ?_
      refine go_iadd (n := 81) dX12_test_80 rfl ?_
      replace E := Option.bind_eq_some_iff.mp E; obtain ⟨v3, ev3, E⟩ := E
      refine go_iaload (n := 82) ev3 dX12_test_81 rfl ?_
      refine go_if_eq (tgt := 130) (n := 85) dX12_test_82 rfl rfl (fun c4 => ?_) (fun c4 => ?_)
      · rw [if_pos c4] at E
        refine go_pick (lv' := [(0, vr (some l0)), (1, vi l1), (2, vi l2), (3, vi l3), (4, vi l4)]) [1, 2, 3, 4, 5] rfl ?_
        exact SX12_test_L130   _ hrc57 _ _ _ _ _  _ E
      · rw [if_neg c4] at E
        refine go_aload_n (j := 1) (n := 86) rfl rfl dX12_test_85 rfl ?_
        replace E := Option.bind_eq_some_iff.mp E; obtain ⟨v5, ev5, E⟩ := E
        refine go_getP (n := 89) ev5 fl_RX12_14 rfl dX12_test_86 rfl ?_
        refine go_iload (j := 0) (n := 91) rfl dX12_test_89 rfl ?_
        replace E := Option.bind_eq_some_iff.mp E; obtain ⟨v6, ev6, E⟩ := E
        refine go_iaload (n := 92) ev6 dX12_test_91 rfl ?_
        refine go_aload_n (j := 1) (n := 93) rfl rfl dX12_test_92 rfl ?_
        replace E := Option.bind_eq_some_iff.mp E; obtain ⟨a9, ea9, E⟩ := E
        obtain ⟨fa9, ga9⟩ := xrc_some ea9
        replace E := xb_some E; obtain ⟨v7, h8, ev7, E⟩ := E
        refine go_callV (y := yX12_now) (n := 96) (st := [vi v6]) (as := []) (stk9 := [vi v7, vi v6]) (OX12_now ev7) yw_X12_now ci_12 ga9 wml_RX12_83 wim_X12_now wse_X12_now (Nat.le_of_ble_eq_true rfl) rfl ⟨Nat.le_of_ble_eq_true rfl, Nat.le_of_ble_eq_true rfl⟩ (Nat.le_of_ble_eq_true rfl) dX12_test_93 rfl (by cases fa9; rfl) rfl ?_
        refine go_icmp_le (tgt := 102) (n := 99) dX12_test_96 rfl rfl (fun c10 => ?_) (fun c10 => ?_)
        · rw [if_pos c10] at E
          refine go_iload_n (j := 4) (n := 103) rfl rfl dX12_test_102 rfl ?_
          refine go_iconst (z := 1) (n := 104) ⟨by decide, by decide⟩ dX12_test_103 rfl ?_
          refine go_iload (j := 5) (n := 106) rfl dX12_test_104 rfl ?_
          refine go_ishl (n := 107) dX12_test_106 rfl ?_
          refine go_ior (n := 108) dX12_test_107 rfl ?_
          refine go_istore_n (n := 109) (lv' := [(3, vi (xor_ l3 (xshl 1 l4))), (5, vi (w32 (137 + (w32 (2 * l4))))), (0, vr (some l0)), (1, vi l1), (2, vi l2), (4, vi l4)]) rfl dX12_test_108 rfl (Nat.le_of_ble_eq_true rfl) rfl ?_
          refine go_aload_n (j := 2) (n := 110) rfl rfl dX12_test_109 rfl ?_
          replace E := Option.bind_eq_some_iff.mp E; obtain ⟨v11, ev11, E⟩ := E
          refine go_getP (n := 113) ev11 fl_RX12_14 rfl dX12_test_110 rfl ?_
          refine go_iload (j := 1) (n := 115) rfl dX12_test_113 rfl ?_
          refine go_iconst (z := 1) (n := 116) ⟨by decide, by decide⟩ dX12_test_115 rfl ?_
          refine go_iadd (n := 117) dX12_test_116 rfl ?_
          refine go_iconst (z := 0) (n := 118) ⟨by decide, by decide⟩ dX12_test_117 rfl ?_
          replace E := Option.bind_eq_some_iff.mp E; obtain ⟨h12, eh12, E⟩ := E
          refine go_iastore (n := 119) eh12 dX12_test_118 rfl ?_
          refine go_aload_n (j := 2) (n := 120) rfl rfl dX12_test_119 rfl ?_
          replace E := Option.bind_eq_some_iff.mp E; obtain ⟨v13, ev13, E⟩ := E
          refine go_getP (n := 123) ev13 fl_RX12_14 rfl dX12_test_120 rfl ?_
          refine go_bipush (z := 7) (n := 125) ⟨by decide, by decide⟩ dX12_test_123 rfl ?_
          refine go_dup2 (n := 126) rfl rfl dX12_test_125 rfl ?_
          replace E := Option.bind_eq_some_iff.mp E; obtain ⟨v14, ev14, E⟩ := E
          refine go_iaload (n := 127) ev14 dX12_test_126 rfl ?_
          refine go_iconst (z := 1) (n := 128) ⟨by decide, by decide⟩ dX12_test_127 rfl ?_
          refine go_iadd (n := 129) dX12_test_128 rfl ?_
          replace E := Option.bind_eq_some_iff.mp E; obtain ⟨h15, eh15, E⟩ := E
          refine go_iastore (n := 130) eh15 dX12_test_129 rfl ?_
          refine go_pick (lv' := [(0, vr (some l0)), (1, vi l1), (2, vi l2), (3, vi (xor_ l3 (xshl 1 l4))), (4, vi l4)]) [2, 3, 4, 0, 5] rfl ?_
          exact SX12_test_L130   _ hrc57 _ _ _ _ _  _ E
        · rw [if_neg c10] at E
          refine go_goto (tgt := 130) dX12_test_99 rfl ?_
          refine go_pick (lv' := [(0, vr (some l0)), (1, vi l1), (2, vi l2), (3, vi l3), (4, vi l4)]) [1, 2, 3, 4, 5] rfl ?_
          exact SX12_test_L130   _ hrc57 _ _ _ _ _  _ E
noncomputable def X12_test_L43 (F : Nat)   (l0 : Nat) (l1 : Int) (l2 : Int) (s0 : Int) (s1 : Option Nat) (h : HP) : Option (Int × HP) :=
  (xrc h s1 12 31).bind fun a3 =>
  xb (X12_throwsIf F a3 s0 2 h) fun v1 h2 =>
  if v1 = 0 then
    X12_test_L57 F F l0 l1 l2 0 l1 h2
  else
    some (0, h2)
set_option maxRecDepth 100000 in
theorem SX12_test_L43 {K : Ctx} {F : Nat} {r : Int} {hf : HP}     (l0 : Nat) (l1 : Int) (l2 : Int) (s0 : Int) (s1 : Option Nat) (h : HP) (E : X12_test_L43 F   l0 l1 l2 s0 s1 h = some (r, hf)) : Go K MX12_test (QM K (some (vi r)) hf) hf 43 [(0, vr (some l0)), (1, vi l1), (2, vi l2)] [vi s0, vr s1] h := by
  unfold X12_test_L43 at E
  refine go_iconst (z := 2) (n := 44) ⟨by decide, by decide⟩ dX12_test_43 rfl ?_
  replace E := Option.bind_eq_some_iff.mp E; obtain ⟨a3, ea3, E⟩ := E
  obtain ⟨fa3, ga3⟩ := xrc_some ea3
  replace E := xb_some E; obtain ⟨v1, h2, ev1, E⟩ := E
  refine go_callV (y := yX12_throwsIf) (n := 47) (st := []) (as := [vi s0, vi 2]) (stk9 := [vi v1]) (OX12_throwsIf ev1) yw_X12_throwsIf ci_12 ga3 wml_RX12_65 wim_X12_throwsIf wse_X12_throwsIf (Nat.le_of_ble_eq_true rfl) rfl ⟨Nat.le_of_ble_eq_true rfl, Nat.le_of_ble_eq_true rfl⟩ (Nat.le_of_ble_eq_true rfl) dX12_test_44 rfl (by cases fa3; rfl) rfl ?_
  refine go_if_eq (tgt := 52) (n := 50) dX12_test_47 rfl rfl (fun c4 => ?_) (fun c4 => ?_)
  · rw [if_pos c4] at E
    refine go_iconst (z := 0) (n := 53) ⟨by decide, by decide⟩ dX12_test_52 rfl ?_
    refine go_istore_n (n := 54) (lv' := [(3, vi 0), (0, vr (some l0)), (1, vi l1), (2, vi l2)]) rfl dX12_test_53 rfl (Nat.le_of_ble_eq_true rfl) rfl ?_
    refine go_iload_n (j := 2) (n := 55) rfl rfl dX12_test_54 rfl ?_
    refine go_istore (n := 57) (lv' := [(4, vi l1), (3, vi 0), (0, vr (some l0)), (1, vi l1), (2, vi l2)]) dX12_test_55 rfl (Nat.le_of_ble_eq_true rfl) rfl ?_
    refine go_pick (lv' := [(0, vr (some l0)), (1, vi l1), (2, vi l2), (3, vi 0), (4, vi l1)]) [2, 3, 4, 1, 0] rfl ?_
    exact SX12_test_L57     F _ _ _ _ _ _ E
  · rw [if_neg c4] at E
    refine go_iconst (z := 0) (n := 51) ⟨by decide, by decide⟩ dX12_test_50 rfl ?_
    cases E
    exact go_ireturn rfl dX12_test_51
noncomputable def X12_test_L25 (F : Nat)   (l0 : Nat) (l1 : Int) (l2 : Int) (s0 : Int) (s1 : Option Nat) (h : HP) : Option (Int × HP) :=
  (xrc h s1 12 31).bind fun a3 =>
  xb (X12_throwsIf F a3 s0 1 h) fun v1 h2 =>
  if v1 = 0 then
    X12_test_L43 F l0 l1 l2 (if l1 ≤ l2 then 0 else 1) (some l0) h2
  else
    some (0, h2)
set_option maxRecDepth 100000 in
theorem SX12_test_L25 {K : Ctx} {F : Nat} {r : Int} {hf : HP}     (l0 : Nat) (l1 : Int) (l2 : Int) (s0 : Int) (s1 : Option Nat) (h : HP) (E : X12_test_L25 F   l0 l1 l2 s0 s1 h = some (r, hf)) : Go K MX12_test (QM K (some (vi r)) hf) hf 25 [(0, vr (some l0)), (1, vi l1), (2, vi l2)] [vi s0, vr s1] h := by
  unfold X12_test_L25 at E
  refine go_iconst (z := 1) (n := 26) ⟨by decide, by decide⟩ dX12_test_25 rfl ?_
  replace E := Option.bind_eq_some_iff.mp E; obtain ⟨a3, ea3, E⟩ := E
  obtain ⟨fa3, ga3⟩ := xrc_some ea3
  replace E := xb_some E; obtain ⟨v1, h2, ev1, E⟩ := E
  refine go_callV (y := yX12_throwsIf) (n := 29) (st := []) (as := [vi s0, vi 1]) (stk9 := [vi v1]) (OX12_throwsIf ev1) yw_X12_throwsIf ci_12 ga3 wml_RX12_65 wim_X12_throwsIf wse_X12_throwsIf (Nat.le_of_ble_eq_true rfl) rfl ⟨Nat.le_of_ble_eq_true rfl, Nat.le_of_ble_eq_true rfl⟩ (Nat.le_of_ble_eq_true rfl) dX12_test_26 rfl (by cases fa3; rfl) rfl ?_
  refine go_if_ne (tgt := 50) (n := 32) dX12_test_29 rfl rfl (fun c4 => ?_) (fun c4 => ?_)
  · rw [if_neg c4] at E
    refine go_iconst (z := 0) (n := 51) ⟨by decide, by decide⟩ dX12_test_50 rfl ?_
    cases E
    exact go_ireturn rfl dX12_test_51
  · rw [if_pos c4] at E
    refine go_aload_n (j := 0) (n := 33) rfl rfl dX12_test_32 rfl ?_
    refine go_iload_n (j := 2) (n := 34) rfl rfl dX12_test_33 rfl ?_
    refine go_iload_n (j := 1) (n := 35) rfl rfl dX12_test_34 rfl ?_
    refine go_icmp_ge (tgt := 42) (n := 38) dX12_test_35 rfl rfl (fun c5 => ?_) (fun c5 => ?_)
    · simp only [if_pos c5] at E
      refine go_iconst (z := 0) (n := 43) ⟨by decide, by decide⟩ dX12_test_42 rfl ?_
      exact SX12_test_L43     _ _ _ _ _ _ E
    · simp only [if_neg c5] at E
      refine go_iconst (z := 1) (n := 39) ⟨by decide, by decide⟩ dX12_test_38 rfl ?_
      refine go_goto (tgt := 43) dX12_test_39 rfl ?_
      exact SX12_test_L43     _ _ _ _ _ _ E
noncomputable def X12_test_L20 (F : Nat)   (l0 : Nat) (l1 : Int) (l2 : Int) (s0 : Option Nat) (h : HP) : Option (Int × HP) :=
  X12_test_L25 F l0 l1 l2 1 s0 h
set_option maxRecDepth 100000 in
theorem SX12_test_L20 {K : Ctx} {F : Nat} {r : Int} {hf : HP}     (l0 : Nat) (l1 : Int) (l2 : Int) (s0 : Option Nat) (h : HP) (E : X12_test_L20 F   l0 l1 l2 s0 h = some (r, hf)) : Go K MX12_test (QM K (some (vi r)) hf) hf 20 [(0, vr (some l0)), (1, vi l1), (2, vi l2)] [vr s0] h := by
  unfold X12_test_L20 at E
  refine go_iconst (z := 1) (n := 21) ⟨by decide, by decide⟩ dX12_test_20 rfl ?_
  refine go_goto (tgt := 25) dX12_test_21 rfl ?_
  exact SX12_test_L25     _ _ _ _ _ _ E
noncomputable def X12_test (F : Nat)   (l0 : Nat) (l1 : Int) (l2 : Int)  (h : HP) : Option (Int × HP) :=
  (xpI h (some l0) 12 31 0 0).bind fun h1 =>
  xb (X12_noLamp F l1 h1) fun v2 h3 =>
  if v2 = 0 then
    xb (X12_noLamp F l2 h3) fun v5 h6 =>
    if v5 = 0 then
      X12_test_L25 F l0 l1 l2 0 (some l0) h6
    else
      X12_test_L20 F l0 l1 l2 (some l0) h6
  else
    X12_test_L20 F l0 l1 l2 (some l0) h3
set_option maxRecDepth 100000 in
theorem SX12_test {K : Ctx} {F : Nat} {r : Int} {hf : HP}     (l0 : Nat) (l1 : Int) (l2 : Int)  (h : HP) (E : X12_test F   l0 l1 l2 h = some (r, hf)) : Go K MX12_test (QM K (some (vi r)) hf) hf 0 [(0, vr (some l0)), (1, vi l1), (2, vi l2)] [] h := by
  unfold X12_test at E
  refine go_aload_n (j := 0) (n := 1) rfl rfl dX12_test_0 rfl ?_
  refine go_iconst (z := 0) (n := 2) ⟨by decide, by decide⟩ dX12_test_1 rfl ?_
  replace E := Option.bind_eq_some_iff.mp E; obtain ⟨h1, eh1, E⟩ := E
  refine go_putI (n := 5) eh1 fl_RX12_3 rfl dX12_test_2 rfl ?_
  refine go_aload_n (j := 0) (n := 6) rfl rfl dX12_test_5 rfl ?_
  refine go_iload_n (j := 1) (n := 7) rfl rfl dX12_test_6 rfl ?_
  replace E := xb_some E; obtain ⟨v2, h3, ev2, E⟩ := E
  refine go_callS (y := yX12_noLamp) (n := 10) (st := [vr (some l0)]) (as := [vi l1]) (stk9 := [vi v2, vr (some l0)]) (OX12_noLamp ev2) yw_X12_noLamp wml_RX12_317 wst_X12_noLamp (Nat.le_of_ble_eq_true rfl) rfl ⟨Nat.le_of_ble_eq_true rfl, Nat.le_of_ble_eq_true rfl⟩ (Nat.le_of_ble_eq_true rfl) dX12_test_7 rfl rfl rfl ?_
  refine go_if_ne (tgt := 20) (n := 13) dX12_test_10 rfl rfl (fun c4 => ?_) (fun c4 => ?_)
  · rw [if_neg c4] at E
    exact SX12_test_L20     _ _ _ _ _ E
  · rw [if_pos c4] at E
    refine go_iload_n (j := 2) (n := 14) rfl rfl dX12_test_13 rfl ?_
    replace E := xb_some E; obtain ⟨v5, h6, ev5, E⟩ := E
    refine go_callS (y := yX12_noLamp) (n := 17) (st := [vr (some l0)]) (as := [vi l2]) (stk9 := [vi v5, vr (some l0)]) (OX12_noLamp ev5) yw_X12_noLamp wml_RX12_317 wst_X12_noLamp (Nat.le_of_ble_eq_true rfl) rfl ⟨Nat.le_of_ble_eq_true rfl, Nat.le_of_ble_eq_true rfl⟩ (Nat.le_of_ble_eq_true rfl) dX12_test_14 rfl rfl rfl ?_
    refine go_if_eq (tgt := 24) (n := 20) dX12_test_17 rfl rfl (fun c7 => ?_) (fun c7 => ?_)
    · rw [if_pos c7] at E
      refine go_iconst (z := 0) (n := 25) ⟨by decide, by decide⟩ dX12_test_24 rfl ?_
      exact SX12_test_L25     _ _ _ _ _ _ E
    · rw [if_neg c7] at E
      exact SX12_test_L20     _ _ _ _ _ E
theorem OX12_test {F : Nat} {l0 : Nat} {l1 : Int} {l2 : Int} {h hf : HP} {r : Int} (e : X12_test F l0 l1 l2 h = some (r, hf)) : Ok MX12_test [vr (some l0), vi l1, vi l2] (some (vi r)) h hf := fun K _ _ _ => SX12_test l0 l1 l2 h e
