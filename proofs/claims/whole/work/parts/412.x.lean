/-! the methods, decompiled: written by dec.py -/
theorem yw_X12_readAll : YW yX12_readAll cX12_readAll 2 (some .int) 0 := ⟨bw_of 1950 (by decide +kernel) rfl, bw_of 129 (by decide +kernel) rfl, ⟨by decide +kernel, by decide +kernel, by decide +kernel⟩, by decide +kernel⟩
theorem wml_RX12_240 : Cond.methodLink RX12 240 yX12_readAll ∈ BW := bw_of 1947 (by decide +kernel) rfl
theorem wim_X12_readAll : Cond.instanceMethod yX12_readAll ∈ BW := bw_of 1949 (by decide +kernel) rfl
theorem wse_X12_readAll : Cond.selects RX12 yX12_readAll yX12_readAll ∈ BW := bw_of 65 (by decide +kernel) rfl
theorem yw_X12_sets : YW yX12_sets cX12_sets 4 none 3 := ⟨bw_of 2053 (by decide +kernel) rfl, bw_of 129 (by decide +kernel) rfl, ⟨by decide +kernel, by decide +kernel, by decide +kernel⟩, by decide +kernel⟩
theorem wml_RX12_243 : Cond.methodLink RX12 243 yX12_sets ∈ BW := bw_of 2050 (by decide +kernel) rfl
theorem wim_X12_sets : Cond.instanceMethod yX12_sets ∈ BW := bw_of 2052 (by decide +kernel) rfl
theorem wse_X12_sets : Cond.selects RX12 yX12_sets yX12_sets ∈ BW := bw_of 85 (by decide +kernel) rfl
abbrev MX12_job : MI := (RX12, cX12_job, 9, (some .int), 116, none, "job")
noncomputable def X12_job_L258 (F : Nat)   (l0 : Nat) (l6 : Int) (l7 : Int) (s0 : Int) (s1 : Int) (s2 : Int) (s3 : Option Nat) (h : HP) : Option (Int × HP) :=
  (xrc h s3 12 31).bind fun a3 =>
  xb (X12_sets F a3 s2 s1 s0 h) fun v1 h2 =>
  (xrc h2 (some l0) 12 31).bind fun a6 =>
  xb (X12_sets F a6 l7 12 (-1) h2) fun v4 h5 =>
  (xrc h5 (some l0) 12 31).bind fun a9 =>
  xb (X12_sets F a9 l7 16 l6 h5) fun v7 h8 =>
  (xgJ h8 (some l0) 12 31 15).bind fun v10 =>
  (xrc h8 (some l0) 12 31).bind fun a13 =>
  xb (X12_sets F a13 l7 17 (w32 v10) h8) fun v11 h12 =>
  (xgJ h12 (some l0) 12 31 15).bind fun v14 =>
  (xrc h12 (some l0) 12 31).bind fun a17 =>
  xb (X12_sets F a17 l7 18 (w32 (yush v14 32)) h12) fun v15 h16 =>
  (xgJ h16 (some l0) 12 31 14).bind fun v18 =>
  (xrc h16 (some l0) 12 31).bind fun a21 =>
  xb (X12_sets F a21 l7 19 (w32 v18) h16) fun v19 h20 =>
  (xgJ h20 (some l0) 12 31 14).bind fun v22 =>
  (xrc h20 (some l0) 12 31).bind fun a25 =>
  xb (X12_sets F a25 l7 20 (w32 (yush v22 32)) h20) fun v23 h24 =>
  some (l7, h24)
set_option maxRecDepth 100000 in
theorem SX12_job_L258 {K : Ctx} {F : Nat} {r : Int} {hf : HP}     (l0 : Nat) (l6 : Int) (l7 : Int) (s0 : Int) (s1 : Int) (s2 : Int) (s3 : Option Nat) (h : HP) (E : X12_job_L258 F   l0 l6 l7 s0 s1 s2 s3 h = some (r, hf)) : Go K MX12_job (QM K (some (vi r)) hf) hf 258 [(0, vr (some l0)), (6, vi l6), (7, vi l7)] [vi s0, vi s1, vi s2, vr s3] h := by
  unfold X12_job_L258 at E
  replace E := Option.bind_eq_some_iff.mp E; obtain ⟨a3, ea3, E⟩ := E
  obtain ⟨fa3, ga3⟩ := xrc_some ea3
  replace E := xb_some E; obtain ⟨v1, h2, ev1, E⟩ := E
  refine go_callV (y := yX12_sets) (n := 261) (st := []) (as := [vi s2, vi s1, vi s0]) (stk9 := []) (OX12_sets ev1) yw_X12_sets ci_12 ga3 wml_RX12_243 wim_X12_sets wse_X12_sets (Nat.le_of_ble_eq_true rfl) rfl ⟨Nat.le_of_ble_eq_true rfl, Nat.le_of_ble_eq_true rfl⟩ (Nat.le_of_ble_eq_true rfl) dX12_job_258 rfl (by cases fa3; rfl) rfl ?_
  refine go_aload_n (j := 0) (n := 262) rfl rfl dX12_job_261 rfl ?_
  refine go_iload (j := 2) (n := 264) rfl dX12_job_262 rfl ?_
  refine go_bipush (z := 12) (n := 266) ⟨by decide, by decide⟩ dX12_job_264 rfl ?_
  refine go_iconst (z := (-1)) (n := 267) ⟨by decide, by decide⟩ dX12_job_266 rfl ?_
  replace E := Option.bind_eq_some_iff.mp E; obtain ⟨a6, ea6, E⟩ := E
  obtain ⟨fa6, ga6⟩ := xrc_some ea6
  replace E := xb_some E; obtain ⟨v4, h5, ev4, E⟩ := E
  refine go_callV (y := yX12_sets) (n := 270) (st := []) (as := [vi l7, vi 12, vi (-1)]) (stk9 := []) (OX12_sets ev4) yw_X12_sets ci_12 ga6 wml_RX12_243 wim_X12_sets wse_X12_sets (Nat.le_of_ble_eq_true rfl) rfl ⟨Nat.le_of_ble_eq_true rfl, Nat.le_of_ble_eq_true rfl⟩ (Nat.le_of_ble_eq_true rfl) dX12_job_267 rfl (by cases fa6; rfl) rfl ?_
  refine go_aload_n (j := 0) (n := 271) rfl rfl dX12_job_270 rfl ?_
  refine go_iload (j := 2) (n := 273) rfl dX12_job_271 rfl ?_
  refine go_bipush (z := 16) (n := 275) ⟨by decide, by decide⟩ dX12_job_273 rfl ?_
  refine go_iload (j := 1) (n := 277) rfl dX12_job_275 rfl ?_
  replace E := Option.bind_eq_some_iff.mp E; obtain ⟨a9, ea9, E⟩ := E
  obtain ⟨fa9, ga9⟩ := xrc_some ea9
  replace E := xb_some E; obtain ⟨v7, h8, ev7, E⟩ := E
  refine go_callV (y := yX12_sets) (n := 280) (st := []) (as := [vi l7, vi 16, vi l6]) (stk9 := []) (OX12_sets ev7) yw_X12_sets ci_12 ga9 wml_RX12_243 wim_X12_sets wse_X12_sets (Nat.le_of_ble_eq_true rfl) rfl ⟨Nat.le_of_ble_eq_true rfl, Nat.le_of_ble_eq_true rfl⟩ (Nat.le_of_ble_eq_true rfl) dX12_job_277 rfl (by cases fa9; rfl) rfl ?_
  refine go_aload_n (j := 0) (n := 281) rfl rfl dX12_job_280 rfl ?_
  refine go_iload (j := 2) (n := 283) rfl dX12_job_281 rfl ?_
  refine go_bipush (z := 17) (n := 285) ⟨by decide, by decide⟩ dX12_job_283 rfl ?_
  refine go_aload_n (j := 0) (n := 286) rfl rfl dX12_job_285 rfl ?_
  replace E := Option.bind_eq_some_iff.mp E; obtain ⟨v10, ev10, E⟩ := E
  refine go_getJ (n := 289) ev10 fl_RX12_147 rfl dX12_job_286 rfl ?_
  refine go_l2i (n := 290) dX12_job_289 rfl ?_
  replace E := Option.bind_eq_some_iff.mp E; obtain ⟨a13, ea13, E⟩ := E
  obtain ⟨fa13, ga13⟩ := xrc_some ea13
  replace E := xb_some E; obtain ⟨v11, h12, ev11, E⟩ := E
  refine go_callV (y := yX12_sets) (n := 293) (st := []) (as := [vi l7, vi 17, vi (w32 v10)]) (stk9 := []) (OX12_sets ev11) yw_X12_sets ci_12 ga13 wml_RX12_243 wim_X12_sets wse_X12_sets (Nat.le_of_ble_eq_true rfl) rfl ⟨Nat.le_of_ble_eq_true rfl, Nat.le_of_ble_eq_true rfl⟩ (Nat.le_of_ble_eq_true rfl) dX12_job_290 rfl (by cases fa13; rfl) rfl ?_
  refine go_aload_n (j := 0) (n := 294) rfl rfl dX12_job_293 rfl ?_
  refine go_iload (j := 2) (n := 296) rfl dX12_job_294 rfl ?_
  refine go_bipush (z := 18) (n := 298) ⟨by decide, by decide⟩ dX12_job_296 rfl ?_
  refine go_aload_n (j := 0) (n := 299) rfl rfl dX12_job_298 rfl ?_
  replace E := Option.bind_eq_some_iff.mp E; obtain ⟨v14, ev14, E⟩ := E
  refine go_getJ (n := 302) ev14 fl_RX12_147 rfl dX12_job_299 rfl ?_
  refine go_bipush (z := 32) (n := 304) ⟨by decide, by decide⟩ dX12_job_302 rfl ?_
  refine go_lushr (n := 305) dX12_job_304 rfl ?_
  refine go_l2i (n := 306) dX12_job_305 rfl ?_
  replace E := Option.bind_eq_some_iff.mp E; obtain ⟨a17, ea17, E⟩ := E
  obtain ⟨fa17, ga17⟩ := xrc_some ea17
  replace E := xb_some E; obtain ⟨v15, h16, ev15, E⟩ := E
  refine go_callV (y := yX12_sets) (n := 309) (st := []) (as := [vi l7, vi 18, vi (w32 (yush v14 32))]) (stk9 := []) (OX12_sets ev15) yw_X12_sets ci_12 ga17 wml_RX12_243 wim_X12_sets wse_X12_sets (Nat.le_of_ble_eq_true rfl) rfl ⟨Nat.le_of_ble_eq_true rfl, Nat.le_of_ble_eq_true rfl⟩ (Nat.le_of_ble_eq_true rfl) dX12_job_306 rfl (by cases fa17; rfl) rfl ?_
  refine go_aload_n (j := 0) (n := 310) rfl rfl dX12_job_309 rfl ?_
  refine go_iload (j := 2) (n := 312) rfl dX12_job_310 rfl ?_
  refine go_bipush (z := 19) (n := 314) ⟨by decide, by decide⟩ dX12_job_312 rfl ?_
  refine go_aload_n (j := 0) (n := 315) rfl rfl dX12_job_314 rfl ?_
  replace E := Option.bind_eq_some_iff.mp E; obtain ⟨v18, ev18, E⟩ := E
  refine go_getJ (n := 318) ev18 fl_RX12_151 rfl dX12_job_315 rfl ?_
  refine go_l2i (n := 319) dX12_job_318 rfl ?_
  replace E := Option.bind_eq_some_iff.mp E; obtain ⟨a21, ea21, E⟩ := E
  obtain ⟨fa21, ga21⟩ := xrc_some ea21
  replace E := xb_some E; obtain ⟨v19, h20, ev19, E⟩ := E
  refine go_callV (y := yX12_sets) (n := 322) (st := []) (as := [vi l7, vi 19, vi (w32 v18)]) (stk9 := []) (OX12_sets ev19) yw_X12_sets ci_12 ga21 wml_RX12_243 wim_X12_sets wse_X12_sets (Nat.le_of_ble_eq_true rfl) rfl ⟨Nat.le_of_ble_eq_true rfl, Nat.le_of_ble_eq_true rfl⟩ (Nat.le_of_ble_eq_true rfl) dX12_job_319 rfl (by cases fa21; rfl) rfl ?_
  refine go_aload_n (j := 0) (n := 323) rfl rfl dX12_job_322 rfl ?_
  refine go_iload (j := 2) (n := 325) rfl dX12_job_323 rfl ?_
  refine go_bipush (z := 20) (n := 327) ⟨by decide, by decide⟩ dX12_job_325 rfl ?_
  refine go_aload_n (j := 0) (n := 328) rfl rfl dX12_job_327 rfl ?_
  replace E := Option.bind_eq_some_iff.mp E; obtain ⟨v22, ev22, E⟩ := E
  refine go_getJ (n := 331) ev22 fl_RX12_151 rfl dX12_job_328 rfl ?_
  refine go_bipush (z := 32) (n := 333) ⟨by decide, by decide⟩ dX12_job_331 rfl ?_
  refine go_lushr (n := 334) dX12_job_333 rfl ?_
  refine go_l2i (n := 335) dX12_job_334 rfl ?_
  replace E := Option.bind_eq_some_iff.mp E; obtain ⟨a25, ea25, E⟩ := E
  obtain ⟨fa25, ga25⟩ := xrc_some ea25
  replace E := xb_some E; obtain ⟨v23, h24, ev23, E⟩ := E
  refine go_callV (y := yX12_sets) (n := 338) (st := []) (as := [vi l7, vi 20, vi (w32 (yush v22 32))]) (stk9 := []) (OX12_sets ev23) yw_X12_sets ci_12 ga25 wml_RX12_243 wim_X12_sets wse_X12_sets (Nat.le_of_ble_eq_true rfl) rfl ⟨Nat.le_of_ble_eq_true rfl, Nat.le_of_ble_eq_true rfl⟩ (Nat.le_of_ble_eq_true rfl) dX12_job_335 rfl (by cases fa25; rfl) rfl ?_
  refine go_iload (j := 2) (n := 340) rfl dX12_job_338 rfl ?_
  cases E
  exact go_ireturn rfl dX12_job_340
noncomputable def X12_job_L204 (F : Nat)  (rc167 : Nat → Int → Int → Int → Int → Int → Int → Int → Int → HP → Option (Int × HP)) (l0 : Nat) (l1 : Int) (l2 : Int) (l3 : Int) (l4 : Int) (l5 : Int) (l6 : Int) (l7 : Int) (l8 : Int) (s0 : Int) (s1 : Int) (s2 : Option Nat) (h : HP) : Option (Int × HP) :=
  (xsI h s2 s1 s0).bind fun h1 =>
  rc167 l0 l1 l2 l3 l4 l5 l6 l7 (w32 (l8 + 1)) h1
set_option maxRecDepth 100000 in
theorem SX12_job_L204 {K : Ctx} {F : Nat} {r : Int} {hf : HP}   (rc167 : Nat → Int → Int → Int → Int → Int → Int → Int → Int → HP → Option (Int × HP)) (hrc167 : ∀ l0 l1 l2 l3 l4 l5 l6 l7 l8 h, rc167 l0 l1 l2 l3 l4 l5 l6 l7 l8 h = some (r, hf) → Go K MX12_job (QM K (some (vi r)) hf) hf 167 [(0, vr (some l0)), (1, vi l1), (2, vi l2), (3, vi l3), (4, vi l4), (5, vi l5), (6, vi l6), (7, vi l7), (8, vi l8)] [] h) (l0 : Nat) (l1 : Int) (l2 : Int) (l3 : Int) (l4 : Int) (l5 : Int) (l6 : Int) (l7 : Int) (l8 : Int) (s0 : Int) (s1 : Int) (s2 : Option Nat) (h : HP) (E : X12_job_L204 F  rc167 l0 l1 l2 l3 l4 l5 l6 l7 l8 s0 s1 s2 h = some (r, hf)) : Go K MX12_job (QM K (some (vi r)) hf) hf 204 [(0, vr (some l0)), (1, vi l1), (2, vi l2), (3, vi l3), (4, vi l4), (5, vi l5), (6, vi l6), (7, vi l7), (8, vi l8)] [vi s0, vi s1, vr s2] h := by
  unfold X12_job_L204 at E
  replace E := Option.bind_eq_some_iff.mp E; obtain ⟨h1, eh1, E⟩ := E
  refine go_iastore (n := 205) eh1 dX12_job_204 rfl ?_
  refine go_iinc (j := 8) (n := 208) (lv' := [(8, vi (w32 (l8 + 1))), (0, vr (some l0)), (1, vi l1), (2, vi l2), (3, vi l3), (4, vi l4), (5, vi l5), (6, vi l6), (7, vi l7)]) rfl dX12_job_205 rfl (Nat.le_of_ble_eq_true rfl) rfl ?_
  refine go_goto (tgt := 167) dX12_job_208 rfl ?_
  refine go_pick (lv' := [(0, vr (some l0)), (1, vi l1), (2, vi l2), (3, vi l3), (4, vi l4), (5, vi l5), (6, vi l6), (7, vi l7), (8, vi (w32 (l8 + 1)))]) [1, 2, 3, 4, 5, 6, 7, 8, 0] rfl ?_
  exact hrc167 _ _ _ _ _ _ _ _ _ _ E
noncomputable def X12_job_L167 (F : Nat)   (k : Nat) : Nat → Int → Int → Int → Int → Int → Int → Int → Int → HP → Option (Int × HP) :=
  Nat.rec (motive := fun _ => Nat → Int → Int → Int → Int → Int → Int → Int → Int → HP → Option (Int × HP)) (fun _ _ _ _ _ _ _ _ _ _ => none) (fun _ rc167 l0 l1 l2 l3 l4 l5 l6 l7 l8 h =>
    if 882 ≤ l8 then
      (xrc h (some l0) 12 31).bind fun a4 =>
      xb (X12_sets F a4 l7 0 l1 h) fun v2 h3 =>
      (xrc h3 (some l0) 12 31).bind fun a7 =>
      xb (X12_sets F a7 l7 1 l2 h3) fun v5 h6 =>
      (xrc h6 (some l0) 12 31).bind fun a10 =>
      xb (X12_sets F a10 l7 2 l3 h6) fun v8 h9 =>
      (xrc h9 (some l0) 12 31).bind fun a13 =>
      xb (X12_sets F a13 l7 3 l4 h9) fun v11 h12 =>
      X12_job_L258 F l0 l6 l7 (if l5 = 0 then 0 else 1) 4 l7 (some l0) h12
    else
      (xgP h (some l0) 12 31 1).bind fun v15 =>
      xb (X12_jobAt F l7 l8 h) fun v16 h17 =>
      if 22 ≤ l8 then
        (xgP h17 (some l0) 12 31 12).bind fun v19 =>
        (xaI h17 v19 100 l8).bind fun v20 =>
        X12_job_L204 F rc167 l0 l1 l2 l3 l4 l5 l6 l7 l8 v20 v16 v15 h17
      else
        X12_job_L204 F rc167 l0 l1 l2 l3 l4 l5 l6 l7 l8 0 v16 v15 h17) k
theorem X12_job_L167_s (F : Nat)   (k : Nat) (l0 : Nat) (l1 : Int) (l2 : Int) (l3 : Int) (l4 : Int) (l5 : Int) (l6 : Int) (l7 : Int) (l8 : Int)  (h : HP) : X12_job_L167 F   (k + 1) l0 l1 l2 l3 l4 l5 l6 l7 l8 h =
    if 882 ≤ l8 then
      (xrc h (some l0) 12 31).bind fun a4 =>
      xb (X12_sets F a4 l7 0 l1 h) fun v2 h3 =>
      (xrc h3 (some l0) 12 31).bind fun a7 =>
      xb (X12_sets F a7 l7 1 l2 h3) fun v5 h6 =>
      (xrc h6 (some l0) 12 31).bind fun a10 =>
      xb (X12_sets F a10 l7 2 l3 h6) fun v8 h9 =>
      (xrc h9 (some l0) 12 31).bind fun a13 =>
      xb (X12_sets F a13 l7 3 l4 h9) fun v11 h12 =>
      X12_job_L258 F l0 l6 l7 (if l5 = 0 then 0 else 1) 4 l7 (some l0) h12
    else
      (xgP h (some l0) 12 31 1).bind fun v15 =>
      xb (X12_jobAt F l7 l8 h) fun v16 h17 =>
      if 22 ≤ l8 then
        (xgP h17 (some l0) 12 31 12).bind fun v19 =>
        (xaI h17 v19 100 l8).bind fun v20 =>
        X12_job_L204 F (X12_job_L167 F k) l0 l1 l2 l3 l4 l5 l6 l7 l8 v20 v16 v15 h17
      else
        X12_job_L204 F (X12_job_L167 F k) l0 l1 l2 l3 l4 l5 l6 l7 l8 0 v16 v15 h17 := rfl
set_option maxRecDepth 100000 in
theorem SX12_job_L167 {K : Ctx} {F : Nat} {r : Int} {hf : HP}     : ∀ (k : Nat) (l0 : Nat) (l1 : Int) (l2 : Int) (l3 : Int) (l4 : Int) (l5 : Int) (l6 : Int) (l7 : Int) (l8 : Int)  (h : HP), X12_job_L167 F   k l0 l1 l2 l3 l4 l5 l6 l7 l8 h = some (r, hf) → Go K MX12_job (QM K (some (vi r)) hf) hf 167 [(0, vr (some l0)), (1, vi l1), (2, vi l2), (3, vi l3), (4, vi l4), (5, vi l5), (6, vi l6), (7, vi l7), (8, vi l8)] [] h := by
  intro k
  induction k with
  | zero => intro l0 l1 l2 l3 l4 l5 l6 l7 l8 h E; exact nomatch E
  | succ k hrc167 =>
    intro l0 l1 l2 l3 l4 l5 l6 l7 l8 h E
    rw [X12_job_L167_s] at E
    refine go_iload (j := 8) (n := 169) rfl dX12_job_167 rfl ?_
    refine go_sipush (z := 882) (n := 172) ⟨by decide, by decide⟩ dX12_job_169 rfl ?_
    refine go_icmp_ge (tgt := 211) (n := 175) dX12_job_172 rfl rfl (fun c1 => ?_) (fun c1 => ?_)
    · rw [if_pos c1] at E
      refine go_aload_n (j := 0) (n := 212) rfl rfl dX12_job_211 rfl ?_
      refine go_iload (j := 7) (n := 214) rfl dX12_job_212 rfl ?_
      refine go_iconst (z := 0) (n := 215) ⟨by decide, by decide⟩ dX12_job_214 rfl ?_
      refine go_iload_n (j := 1) (n := 216) rfl rfl dX12_job_215 rfl ?_
      replace E := Option.bind_eq_some_iff.mp E; obtain ⟨a4, ea4, E⟩ := E
      obtain ⟨fa4, ga4⟩ := xrc_some ea4
      replace E := xb_some E; obtain ⟨v2, h3, ev2, E⟩ := E
      refine go_callV (y := yX12_sets) (n := 219) (st := []) (as := [vi l7, vi 0, vi l1]) (stk9 := []) (OX12_sets ev2) yw_X12_sets ci_12 ga4 wml_RX12_243 wim_X12_sets wse_X12_sets (Nat.le_of_ble_eq_true rfl) rfl ⟨Nat.le_of_ble_eq_true rfl, Nat.le_of_ble_eq_true rfl⟩ (Nat.le_of_ble_eq_true rfl) dX12_job_216 rfl (by cases fa4; rfl) rfl ?_
      refine go_aload_n (j := 0) (n := 220) rfl rfl dX12_job_219 rfl ?_
      refine go_iload (j := 7) (n := 222) rfl dX12_job_220 rfl ?_
      refine go_iconst (z := 1) (n := 223) ⟨by decide, by decide⟩ dX12_job_222 rfl ?_
      refine go_iload_n (j := 2) (n := 224) rfl rfl dX12_job_223 rfl ?_
      replace E := Option.bind_eq_some_iff.mp E; obtain ⟨a7, ea7, E⟩ := E
      obtain ⟨fa7, ga7⟩ := xrc_some ea7
      replace E := xb_some E; obtain ⟨v5, h6, ev5, E⟩ := E
      refine go_callV (y := yX12_sets) (n := 227) (st := []) (as := [vi l7, vi 1, vi l2]) (stk9 := []) (OX12_sets ev5) yw_X12_sets ci_12 ga7 wml_RX12_243 wim_X12_sets wse_X12_sets (Nat.le_of_ble_eq_true rfl) rfl ⟨Nat.le_of_ble_eq_true rfl, Nat.le_of_ble_eq_true rfl⟩ (Nat.le_of_ble_eq_true rfl) dX12_job_224 rfl (by cases fa7; rfl) rfl ?_
      refine go_aload_n (j := 0) (n := 228) rfl rfl dX12_job_227 rfl ?_
      refine go_iload (j := 7) (n := 230) rfl dX12_job_228 rfl ?_
      refine go_iconst (z := 2) (n := 231) ⟨by decide, by decide⟩ dX12_job_230 rfl ?_
      refine go_iload_n (j := 3) (n := 232) rfl rfl dX12_job_231 rfl ?_
      replace E := Option.bind_eq_some_iff.mp E; obtain ⟨a10, ea10, E⟩ := E
      obtain ⟨fa10, ga10⟩ := xrc_some ea10
      replace E := xb_some E; obtain ⟨v8, h9, ev8, E⟩ := E
      refine go_callV (y := yX12_sets) (n := 235) (st := []) (as := [vi l7, vi 2, vi l3]) (stk9 := []) (OX12_sets ev8) yw_X12_sets ci_12 ga10 wml_RX12_243 wim_X12_sets wse_X12_sets (Nat.le_of_ble_eq_true rfl) rfl ⟨Nat.le_of_ble_eq_true rfl, Nat.le_of_ble_eq_true rfl⟩ (Nat.le_of_ble_eq_true rfl) dX12_job_232 rfl (by cases fa10; rfl) rfl ?_
      refine go_aload_n (j := 0) (n := 236) rfl rfl dX12_job_235 rfl ?_
      refine go_iload (j := 7) (n := 238) rfl dX12_job_236 rfl ?_
      refine go_iconst (z := 3) (n := 239) ⟨by decide, by decide⟩ dX12_job_238 rfl ?_
      refine go_iload (j := 4) (n := 241) rfl dX12_job_239 rfl ?_
      replace E := Option.bind_eq_some_iff.mp E; obtain ⟨a13, ea13, E⟩ := E
      obtain ⟨fa13, ga13⟩ := xrc_some ea13
      replace E := xb_some E; obtain ⟨v11, h12, ev11, E⟩ := E
      refine go_callV (y := yX12_sets) (n := 244) (st := []) (as := [vi l7, vi 3, vi l4]) (stk9 := []) (OX12_sets ev11) yw_X12_sets ci_12 ga13 wml_RX12_243 wim_X12_sets wse_X12_sets (Nat.le_of_ble_eq_true rfl) rfl ⟨Nat.le_of_ble_eq_true rfl, Nat.le_of_ble_eq_true rfl⟩ (Nat.le_of_ble_eq_true rfl) dX12_job_241 rfl (by cases fa13; rfl) rfl ?_
      refine go_aload_n (j := 0) (n := 245) rfl rfl dX12_job_244 rfl ?_
      refine go_iload (j := 7) (n := 247) rfl dX12_job_245 rfl ?_
      refine go_iconst (z := 4) (n := 248) ⟨by decide, by decide⟩ dX12_job_247 rfl ?_
      refine go_iload (j := 5) (n := 250) rfl dX12_job_248 rfl ?_
      refine go_if_eq (tgt := 257) (n := 253) dX12_job_250 rfl rfl (fun c14 => ?_) (fun c14 => ?_)
      · simp only [if_pos c14] at E
        refine go_iconst (z := 0) (n := 258) ⟨by decide, by decide⟩ dX12_job_257 rfl ?_
        refine go_pick (lv' := [(0, vr (some l0)), (6, vi l6), (7, vi l7)]) [0, 6, 7] rfl ?_
        exact SX12_job_L258     _ _ _ _ _ _ _ _ E
      · simp only [if_neg c14] at E
        refine go_iconst (z := 1) (n := 254) ⟨by decide, by decide⟩ dX12_job_253 rfl ?_
        refine go_goto (tgt := 258) dX12_job_254 rfl ?_
        refine go_pick (lv' := [(0, vr (some l0)), (6, vi l6), (7, vi l7)]) [0, 6, 7] rfl ?_
        exact SX12_job_L258     _ _ _ _ _ _ _ _ E
    · rw [if_neg c1] at E
      refine go_aload_n (j := 0) (n := 176) rfl rfl dX12_job_175 rfl ?_
      replace E := Option.bind_eq_some_iff.mp E; obtain ⟨v15, ev15, E⟩ := E
      refine go_getP (n := 179) ev15 fl_RX12_14 rfl dX12_job_176 rfl ?_
      refine go_iload (j := 7) (n := 181) rfl dX12_job_179 rfl ?_
      refine go_iload (j := 8) (n := 183) rfl dX12_job_181 rfl ?_
      replace E := xb_some E; obtain ⟨v16, h17, ev16, E⟩ := E
      refine go_callS (y := yX12_jobAt) (n := 186) (st := [vr v15]) (as := [vi l7, vi l8]) (stk9 := [vi v16, vr v15]) (OX12_jobAt ev16) yw_X12_jobAt wml_RX12_141 wst_X12_jobAt (Nat.le_of_ble_eq_true rfl) rfl ⟨Nat.le_of_ble_eq_true rfl, Nat.le_of_ble_eq_true rfl⟩ (Nat.le_of_ble_eq_true rfl) dX12_job_183 rfl rfl rfl ?_
      refine go_iload (j := 8) (n := 188) rfl dX12_job_186 rfl ?_
      refine go_bipush (z := 22) (n := 190) ⟨by decide, by decide⟩ dX12_job_188 rfl ?_
      refine go_icmp_ge (tgt := 197) (n := 193) dX12_job_190 rfl rfl (fun c18 => ?_) (fun c18 => ?_)
      · rw [if_pos c18] at E
        refine go_aload_n (j := 0) (n := 198) rfl rfl dX12_job_197 rfl ?_
        replace E := Option.bind_eq_some_iff.mp E; obtain ⟨v19, ev19, E⟩ := E
        refine go_getP (n := 201) ev19 fl_RX12_31 rfl dX12_job_198 rfl ?_
        refine go_iload (j := 8) (n := 203) rfl dX12_job_201 rfl ?_
        replace E := Option.bind_eq_some_iff.mp E; obtain ⟨v20, ev20, E⟩ := E
        refine go_iaload (n := 204) ev20 dX12_job_203 rfl ?_
        exact SX12_job_L204   _ hrc167 _ _ _ _ _ _ _ _ _ _ _ _ _ E
      · rw [if_neg c18] at E
        refine go_iconst (z := 0) (n := 194) ⟨by decide, by decide⟩ dX12_job_193 rfl ?_
        refine go_goto (tgt := 204) dX12_job_194 rfl ?_
        exact SX12_job_L204   _ hrc167 _ _ _ _ _ _ _ _ _ _ _ _ _ E
noncomputable def X12_job_L135 (F : Nat)   (l0 : Nat) (l1 : Int) (l2 : Int) (l3 : Int) (l4 : Int) (l5 : Int) (l6 : Int) (s0 : Int) (s1 : Option Nat) (h : HP) : Option (Int × HP) :=
  (xrc h s1 12 31).bind fun a3 =>
  xb (X12_throwsIf F a3 s0 2 h) fun v1 h2 =>
  if v1 = 0 then
    (xgP h2 (some l0) 12 31 1).bind fun v5 =>
    (xaI h2 v5 100 8).bind fun v6 =>
    (xgP h2 (some l0) 12 31 1).bind fun v7 =>
    (xaI h2 v7 100 8).bind fun v8 =>
    (xsI h2 v7 8 (w32 (v8 + 1))).bind fun h9 =>
    X12_job_L167 F F l0 l1 l2 l3 l4 l5 l6 v6 0 h9
  else
    some (0, h2)
set_option maxRecDepth 100000 in
theorem SX12_job_L135 {K : Ctx} {F : Nat} {r : Int} {hf : HP}     (l0 : Nat) (l1 : Int) (l2 : Int) (l3 : Int) (l4 : Int) (l5 : Int) (l6 : Int) (s0 : Int) (s1 : Option Nat) (h : HP) (E : X12_job_L135 F   l0 l1 l2 l3 l4 l5 l6 s0 s1 h = some (r, hf)) : Go K MX12_job (QM K (some (vi r)) hf) hf 135 [(0, vr (some l0)), (1, vi l1), (2, vi l2), (3, vi l3), (4, vi l4), (5, vi l5), (6, vi l6)] [vi s0, vr s1] h := by
  unfold X12_job_L135 at E
  refine go_iconst (z := 2) (n := 136) ⟨by decide, by decide⟩ dX12_job_135 rfl ?_
  replace E := Option.bind_eq_some_iff.mp E; obtain ⟨a3, ea3, E⟩ := E
  obtain ⟨fa3, ga3⟩ := xrc_some ea3
  replace E := xb_some E; obtain ⟨v1, h2, ev1, E⟩ := E
  refine go_callV (y := yX12_throwsIf) (n := 139) (st := []) (as := [vi s0, vi 2]) (stk9 := [vi v1]) (OX12_throwsIf ev1) yw_X12_throwsIf ci_12 ga3 wml_RX12_65 wim_X12_throwsIf wse_X12_throwsIf (Nat.le_of_ble_eq_true rfl) rfl ⟨Nat.le_of_ble_eq_true rfl, Nat.le_of_ble_eq_true rfl⟩ (Nat.le_of_ble_eq_true rfl) dX12_job_136 rfl (by cases fa3; rfl) rfl ?_
  refine go_if_eq (tgt := 144) (n := 142) dX12_job_139 rfl rfl (fun c4 => ?_) (fun c4 => ?_)
  · rw [if_pos c4] at E
    refine go_aload_n (j := 0) (n := 145) rfl rfl dX12_job_144 rfl ?_
    replace E := Option.bind_eq_some_iff.mp E; obtain ⟨v5, ev5, E⟩ := E
    refine go_getP (n := 148) ev5 fl_RX12_14 rfl dX12_job_145 rfl ?_
    refine go_bipush (z := 8) (n := 150) ⟨by decide, by decide⟩ dX12_job_148 rfl ?_
    replace E := Option.bind_eq_some_iff.mp E; obtain ⟨v6, ev6, E⟩ := E
    refine go_iaload (n := 151) ev6 dX12_job_150 rfl ?_
    refine go_istore (n := 153) (lv' := [(7, vi v6), (0, vr (some l0)), (1, vi l1), (2, vi l2), (3, vi l3), (4, vi l4), (5, vi l5), (6, vi l6)]) dX12_job_151 rfl (Nat.le_of_ble_eq_true rfl) rfl ?_
    refine go_aload_n (j := 1) (n := 154) rfl rfl dX12_job_153 rfl ?_
    replace E := Option.bind_eq_some_iff.mp E; obtain ⟨v7, ev7, E⟩ := E
    refine go_getP (n := 157) ev7 fl_RX12_14 rfl dX12_job_154 rfl ?_
    refine go_bipush (z := 8) (n := 159) ⟨by decide, by decide⟩ dX12_job_157 rfl ?_
    refine go_dup2 (n := 160) rfl rfl dX12_job_159 rfl ?_
    replace E := Option.bind_eq_some_iff.mp E; obtain ⟨v8, ev8, E⟩ := E
    refine go_iaload (n := 161) ev8 dX12_job_160 rfl ?_
    refine go_iconst (z := 1) (n := 162) ⟨by decide, by decide⟩ dX12_job_161 rfl ?_
    refine go_iadd (n := 163) dX12_job_162 rfl ?_
    replace E := Option.bind_eq_some_iff.mp E; obtain ⟨h9, eh9, E⟩ := E
    refine go_iastore (n := 164) eh9 dX12_job_163 rfl ?_
    refine go_iconst (z := 0) (n := 165) ⟨by decide, by decide⟩ dX12_job_164 rfl ?_
    refine go_istore (n := 167) (lv' := [(8, vi 0), (7, vi v6), (0, vr (some l0)), (1, vi l1), (2, vi l2), (3, vi l3), (4, vi l4), (5, vi l5), (6, vi l6)]) dX12_job_165 rfl (Nat.le_of_ble_eq_true rfl) rfl ?_
    refine go_pick (lv' := [(0, vr (some l0)), (1, vi l1), (2, vi l2), (3, vi l3), (4, vi l4), (5, vi l5), (6, vi l6), (7, vi v6), (8, vi 0)]) [2, 3, 4, 5, 6, 7, 8, 1, 0] rfl ?_
    exact SX12_job_L167     F _ _ _ _ _ _ _ _ _ _ E
  · rw [if_neg c4] at E
    refine go_iconst (z := 0) (n := 143) ⟨by decide, by decide⟩ dX12_job_142 rfl ?_
    cases E
    exact go_ireturn rfl dX12_job_143
noncomputable def X12_job_L110 (F : Nat)   (l0 : Nat) (l1 : Int) (l2 : Int) (l3 : Int) (l4 : Int) (l5 : Int) (l6 : Int) (s0 : Int) (s1 : Option Nat) (h : HP) : Option (Int × HP) :=
  (xrc h s1 12 31).bind fun a3 =>
  xb (X12_throwsIf F a3 s0 1 h) fun v1 h2 =>
  if v1 = 0 then
    (xgP h2 (some l0) 12 31 1).bind fun v5 =>
    (xaI h2 v5 100 8).bind fun v6 =>
    X12_job_L135 F l0 l1 l2 l3 l4 l5 l6 (if v6 = 12 then 1 else 0) (some l0) h2
  else
    some (0, h2)
set_option maxRecDepth 100000 in
theorem SX12_job_L110 {K : Ctx} {F : Nat} {r : Int} {hf : HP}     (l0 : Nat) (l1 : Int) (l2 : Int) (l3 : Int) (l4 : Int) (l5 : Int) (l6 : Int) (s0 : Int) (s1 : Option Nat) (h : HP) (E : X12_job_L110 F   l0 l1 l2 l3 l4 l5 l6 s0 s1 h = some (r, hf)) : Go K MX12_job (QM K (some (vi r)) hf) hf 110 [(0, vr (some l0)), (1, vi l1), (2, vi l2), (3, vi l3), (4, vi l4), (5, vi l5), (6, vi l6)] [vi s0, vr s1] h := by
  unfold X12_job_L110 at E
  refine go_iconst (z := 1) (n := 111) ⟨by decide, by decide⟩ dX12_job_110 rfl ?_
  replace E := Option.bind_eq_some_iff.mp E; obtain ⟨a3, ea3, E⟩ := E
  obtain ⟨fa3, ga3⟩ := xrc_some ea3
  replace E := xb_some E; obtain ⟨v1, h2, ev1, E⟩ := E
  refine go_callV (y := yX12_throwsIf) (n := 114) (st := []) (as := [vi s0, vi 1]) (stk9 := [vi v1]) (OX12_throwsIf ev1) yw_X12_throwsIf ci_12 ga3 wml_RX12_65 wim_X12_throwsIf wse_X12_throwsIf (Nat.le_of_ble_eq_true rfl) rfl ⟨Nat.le_of_ble_eq_true rfl, Nat.le_of_ble_eq_true rfl⟩ (Nat.le_of_ble_eq_true rfl) dX12_job_111 rfl (by cases fa3; rfl) rfl ?_
  refine go_if_ne (tgt := 142) (n := 117) dX12_job_114 rfl rfl (fun c4 => ?_) (fun c4 => ?_)
  · rw [if_neg c4] at E
    refine go_iconst (z := 0) (n := 143) ⟨by decide, by decide⟩ dX12_job_142 rfl ?_
    cases E
    exact go_ireturn rfl dX12_job_143
  · rw [if_pos c4] at E
    refine go_aload_n (j := 0) (n := 118) rfl rfl dX12_job_117 rfl ?_
    refine go_aload_n (j := 0) (n := 119) rfl rfl dX12_job_118 rfl ?_
    replace E := Option.bind_eq_some_iff.mp E; obtain ⟨v5, ev5, E⟩ := E
    refine go_getP (n := 122) ev5 fl_RX12_14 rfl dX12_job_119 rfl ?_
    refine go_bipush (z := 8) (n := 124) ⟨by decide, by decide⟩ dX12_job_122 rfl ?_
    replace E := Option.bind_eq_some_iff.mp E; obtain ⟨v6, ev6, E⟩ := E
    refine go_iaload (n := 125) ev6 dX12_job_124 rfl ?_
    refine go_bipush (z := 12) (n := 127) ⟨by decide, by decide⟩ dX12_job_125 rfl ?_
    refine go_icmp_ne (tgt := 134) (n := 130) dX12_job_127 rfl rfl (fun c7 => ?_) (fun c7 => ?_)
    · simp only [if_neg c7] at E
      refine go_iconst (z := 0) (n := 135) ⟨by decide, by decide⟩ dX12_job_134 rfl ?_
      exact SX12_job_L135     _ _ _ _ _ _ _ _ _ _ E
    · simp only [if_pos c7] at E
      refine go_iconst (z := 1) (n := 131) ⟨by decide, by decide⟩ dX12_job_130 rfl ?_
      refine go_goto (tgt := 135) dX12_job_131 rfl ?_
      exact SX12_job_L135     _ _ _ _ _ _ _ _ _ _ E
noncomputable def X12_job_L96 (F : Nat)   (l0 : Nat) (l1 : Int) (l2 : Int) (l3 : Int) (l4 : Int) (l5 : Int) (l6 : Int) (s0 : Int) (s1 : Option Nat) (h : HP) : Option (Int × HP) :=
  (xpI h s1 12 31 10 s0).bind fun h1 =>
  X12_job_L110 F l0 l1 l2 l3 l4 l5 l6 (if 0 ≤ l6 then 0 else 1) (some l0) h1
set_option maxRecDepth 100000 in
theorem SX12_job_L96 {K : Ctx} {F : Nat} {r : Int} {hf : HP}     (l0 : Nat) (l1 : Int) (l2 : Int) (l3 : Int) (l4 : Int) (l5 : Int) (l6 : Int) (s0 : Int) (s1 : Option Nat) (h : HP) (E : X12_job_L96 F   l0 l1 l2 l3 l4 l5 l6 s0 s1 h = some (r, hf)) : Go K MX12_job (QM K (some (vi r)) hf) hf 96 [(0, vr (some l0)), (1, vi l1), (2, vi l2), (3, vi l3), (4, vi l4), (5, vi l5), (6, vi l6)] [vi s0, vr s1] h := by
  unfold X12_job_L96 at E
  replace E := Option.bind_eq_some_iff.mp E; obtain ⟨h1, eh1, E⟩ := E
  refine go_putI (n := 99) eh1 fl_RX12_25 rfl dX12_job_96 rfl ?_
  refine go_aload_n (j := 0) (n := 100) rfl rfl dX12_job_99 rfl ?_
  refine go_iload (j := 6) (n := 102) rfl dX12_job_100 rfl ?_
  refine go_if_ge (tgt := 109) (n := 105) dX12_job_102 rfl rfl (fun c2 => ?_) (fun c2 => ?_)
  · simp only [if_pos c2] at E
    refine go_iconst (z := 0) (n := 110) ⟨by decide, by decide⟩ dX12_job_109 rfl ?_
    exact SX12_job_L110     _ _ _ _ _ _ _ _ _ _ E
  · simp only [if_neg c2] at E
    refine go_iconst (z := 1) (n := 106) ⟨by decide, by decide⟩ dX12_job_105 rfl ?_
    refine go_goto (tgt := 110) dX12_job_106 rfl ?_
    exact SX12_job_L110     _ _ _ _ _ _ _ _ _ _ E
noncomputable def X12_job_L67 (F : Nat)   (l0 : Nat) (l1 : Int) (l2 : Int) (l3 : Int) (l4 : Int) (l5 : Int) (s0 : Int) (s1 : Option Nat) (h : HP) : Option (Int × HP) :=
  (xrc h s1 12 31).bind fun a3 =>
  xb (X12_throwsIf F a3 s0 1 h) fun v1 h2 =>
  if v1 = 0 then
    (xrc h2 (some l0) 12 31).bind fun a7 =>
    xb (X12_readAll F a7 h2) fun v5 h6 =>
    if 0 ≤ v5 then
      X12_job_L96 F l0 l1 l2 l3 l4 l5 v5 (-1) (some l0) h6
    else
      (xgI h6 (some l0) 12 31 8).bind fun v9 =>
      X12_job_L96 F l0 l1 l2 l3 l4 l5 v5 v9 (some l0) h6
  else
    some (0, h2)
set_option maxRecDepth 100000 in
theorem SX12_job_L67 {K : Ctx} {F : Nat} {r : Int} {hf : HP}     (l0 : Nat) (l1 : Int) (l2 : Int) (l3 : Int) (l4 : Int) (l5 : Int) (s0 : Int) (s1 : Option Nat) (h : HP) (E : X12_job_L67 F   l0 l1 l2 l3 l4 l5 s0 s1 h = some (r, hf)) : Go K MX12_job (QM K (some (vi r)) hf) hf 67 [(0, vr (some l0)), (1, vi l1), (2, vi l2), (3, vi l3), (4, vi l4), (5, vi l5)] [vi s0, vr s1] h := by
  unfold X12_job_L67 at E
  refine go_iconst (z := 1) (n := 68) ⟨by decide, by decide⟩ dX12_job_67 rfl ?_
  replace E := Option.bind_eq_some_iff.mp E; obtain ⟨a3, ea3, E⟩ := E
  obtain ⟨fa3, ga3⟩ := xrc_some ea3
  replace E := xb_some E; obtain ⟨v1, h2, ev1, E⟩ := E
  refine go_callV (y := yX12_throwsIf) (n := 71) (st := []) (as := [vi s0, vi 1]) (stk9 := [vi v1]) (OX12_throwsIf ev1) yw_X12_throwsIf ci_12 ga3 wml_RX12_65 wim_X12_throwsIf wse_X12_throwsIf (Nat.le_of_ble_eq_true rfl) rfl ⟨Nat.le_of_ble_eq_true rfl, Nat.le_of_ble_eq_true rfl⟩ (Nat.le_of_ble_eq_true rfl) dX12_job_68 rfl (by cases fa3; rfl) rfl ?_
  refine go_if_eq (tgt := 76) (n := 74) dX12_job_71 rfl rfl (fun c4 => ?_) (fun c4 => ?_)
  · rw [if_pos c4] at E
    refine go_aload_n (j := 0) (n := 77) rfl rfl dX12_job_76 rfl ?_
    replace E := Option.bind_eq_some_iff.mp E; obtain ⟨a7, ea7, E⟩ := E
    obtain ⟨fa7, ga7⟩ := xrc_some ea7
    replace E := xb_some E; obtain ⟨v5, h6, ev5, E⟩ := E
    refine go_callV (y := yX12_readAll) (n := 80) (st := []) (as := []) (stk9 := [vi v5]) (OX12_readAll ev5) yw_X12_readAll ci_12 ga7 wml_RX12_240 wim_X12_readAll wse_X12_readAll (Nat.le_of_ble_eq_true rfl) rfl ⟨Nat.le_of_ble_eq_true rfl, Nat.le_of_ble_eq_true rfl⟩ (Nat.le_of_ble_eq_true rfl) dX12_job_77 rfl (by cases fa7; rfl) rfl ?_
    refine go_istore (n := 82) (lv' := [(6, vi v5), (0, vr (some l0)), (1, vi l1), (2, vi l2), (3, vi l3), (4, vi l4), (5, vi l5)]) dX12_job_80 rfl (Nat.le_of_ble_eq_true rfl) rfl ?_
    refine go_aload_n (j := 1) (n := 83) rfl rfl dX12_job_82 rfl ?_
    refine go_iload (j := 0) (n := 85) rfl dX12_job_83 rfl ?_
    refine go_if_ge (tgt := 95) (n := 88) dX12_job_85 rfl rfl (fun c8 => ?_) (fun c8 => ?_)
    · rw [if_pos c8] at E
      refine go_iconst (z := (-1)) (n := 96) ⟨by decide, by decide⟩ dX12_job_95 rfl ?_
      refine go_pick (lv' := [(0, vr (some l0)), (1, vi l1), (2, vi l2), (3, vi l3), (4, vi l4), (5, vi l5), (6, vi v5)]) [1, 2, 3, 4, 5, 6, 0] rfl ?_
      exact SX12_job_L96     _ _ _ _ _ _ _ _ _ _ E
    · rw [if_neg c8] at E
      refine go_aload_n (j := 1) (n := 89) rfl rfl dX12_job_88 rfl ?_
      replace E := Option.bind_eq_some_iff.mp E; obtain ⟨v9, ev9, E⟩ := E
      refine go_getI (n := 92) ev9 fl_RX12_119 rfl dX12_job_89 rfl ?_
      refine go_goto (tgt := 96) dX12_job_92 rfl ?_
      refine go_pick (lv' := [(0, vr (some l0)), (1, vi l1), (2, vi l2), (3, vi l3), (4, vi l4), (5, vi l5), (6, vi v5)]) [1, 2, 3, 4, 5, 6, 0] rfl ?_
      exact SX12_job_L96     _ _ _ _ _ _ _ _ _ _ E
  · rw [if_neg c4] at E
    refine go_iconst (z := 0) (n := 75) ⟨by decide, by decide⟩ dX12_job_74 rfl ?_
    cases E
    exact go_ireturn rfl dX12_job_75
noncomputable def X12_job_L62 (F : Nat)   (l0 : Nat) (l1 : Int) (l2 : Int) (l3 : Int) (l4 : Int) (l5 : Int) (s0 : Option Nat) (h : HP) : Option (Int × HP) :=
  X12_job_L67 F l0 l1 l2 l3 l4 l5 1 s0 h
set_option maxRecDepth 100000 in
theorem SX12_job_L62 {K : Ctx} {F : Nat} {r : Int} {hf : HP}     (l0 : Nat) (l1 : Int) (l2 : Int) (l3 : Int) (l4 : Int) (l5 : Int) (s0 : Option Nat) (h : HP) (E : X12_job_L62 F   l0 l1 l2 l3 l4 l5 s0 h = some (r, hf)) : Go K MX12_job (QM K (some (vi r)) hf) hf 62 [(0, vr (some l0)), (1, vi l1), (2, vi l2), (3, vi l3), (4, vi l4), (5, vi l5)] [vr s0] h := by
  unfold X12_job_L62 at E
  refine go_iconst (z := 1) (n := 63) ⟨by decide, by decide⟩ dX12_job_62 rfl ?_
  refine go_goto (tgt := 67) dX12_job_63 rfl ?_
  exact SX12_job_L67     _ _ _ _ _ _ _ _ _ E
noncomputable def X12_job (F : Nat)   (l0 : Nat) (l1 : Int) (l2 : Int) (l3 : Int) (l4 : Int) (l5 : Int)  (h : HP) : Option (Int × HP) :=
  (xpI h (some l0) 12 31 0 0).bind fun h1 =>
  (xgI h1 (some l0) 12 31 5).bind fun v2 =>
  (xpI h1 (some l0) 12 31 7 v2).bind fun h3 =>
  (xpI h3 (some l0) 12 31 5 0).bind fun h4 =>
  xb (X12_in F l1 1 60 h4) fun v5 h6 =>
  if v5 = 0 then
    X12_job_L62 F l0 l1 l2 l3 l4 l5 (some l0) h6
  else
    xb (X12_in F l2 0 1000 h6) fun v8 h9 =>
    if v8 = 0 then
      X12_job_L62 F l0 l1 l2 l3 l4 l5 (some l0) h9
    else
      xb (X12_in F l3 0 480 h9) fun v11 h12 =>
      if v11 = 0 then
        X12_job_L62 F l0 l1 l2 l3 l4 l5 (some l0) h12
      else
        xb (X12_in F l4 0 60 h12) fun v14 h15 =>
        if v14 = 0 then
          X12_job_L62 F l0 l1 l2 l3 l4 l5 (some l0) h15
        else
          X12_job_L67 F l0 l1 l2 l3 l4 l5 0 (some l0) h15
set_option maxRecDepth 100000 in
theorem SX12_job {K : Ctx} {F : Nat} {r : Int} {hf : HP}     (l0 : Nat) (l1 : Int) (l2 : Int) (l3 : Int) (l4 : Int) (l5 : Int)  (h : HP) (E : X12_job F   l0 l1 l2 l3 l4 l5 h = some (r, hf)) : Go K MX12_job (QM K (some (vi r)) hf) hf 0 [(0, vr (some l0)), (1, vi l1), (2, vi l2), (3, vi l3), (4, vi l4), (5, vi l5)] [] h := by
  unfold X12_job at E
  refine go_aload_n (j := 0) (n := 1) rfl rfl dX12_job_0 rfl ?_
  refine go_iconst (z := 0) (n := 2) ⟨by decide, by decide⟩ dX12_job_1 rfl ?_
  replace E := Option.bind_eq_some_iff.mp E; obtain ⟨h1, eh1, E⟩ := E
  refine go_putI (n := 5) eh1 fl_RX12_3 rfl dX12_job_2 rfl ?_
  refine go_aload_n (j := 0) (n := 6) rfl rfl dX12_job_5 rfl ?_
  refine go_aload_n (j := 0) (n := 7) rfl rfl dX12_job_6 rfl ?_
  replace E := Option.bind_eq_some_iff.mp E; obtain ⟨v2, ev2, E⟩ := E
  refine go_getI (n := 10) ev2 fl_RX12_106 rfl dX12_job_7 rfl ?_
  replace E := Option.bind_eq_some_iff.mp E; obtain ⟨h3, eh3, E⟩ := E
  refine go_putI (n := 13) eh3 fl_RX12_112 rfl dX12_job_10 rfl ?_
  refine go_aload_n (j := 0) (n := 14) rfl rfl dX12_job_13 rfl ?_
  refine go_iconst (z := 0) (n := 15) ⟨by decide, by decide⟩ dX12_job_14 rfl ?_
  replace E := Option.bind_eq_some_iff.mp E; obtain ⟨h4, eh4, E⟩ := E
  refine go_putI (n := 18) eh4 fl_RX12_106 rfl dX12_job_15 rfl ?_
  refine go_aload_n (j := 0) (n := 19) rfl rfl dX12_job_18 rfl ?_
  refine go_iload_n (j := 1) (n := 20) rfl rfl dX12_job_19 rfl ?_
  refine go_iconst (z := 1) (n := 21) ⟨by decide, by decide⟩ dX12_job_20 rfl ?_
  refine go_bipush (z := 60) (n := 23) ⟨by decide, by decide⟩ dX12_job_21 rfl ?_
  replace E := xb_some E; obtain ⟨v5, h6, ev5, E⟩ := E
  refine go_callS (y := yX12_in) (n := 26) (st := [vr (some l0)]) (as := [vi l1, vi 1, vi 60]) (stk9 := [vi v5, vr (some l0)]) (OX12_in ev5) yw_X12_in wml_RX12_61 wst_X12_in (Nat.le_of_ble_eq_true rfl) rfl ⟨Nat.le_of_ble_eq_true rfl, Nat.le_of_ble_eq_true rfl⟩ (Nat.le_of_ble_eq_true rfl) dX12_job_23 rfl rfl rfl ?_
  refine go_if_eq (tgt := 62) (n := 29) dX12_job_26 rfl rfl (fun c7 => ?_) (fun c7 => ?_)
  · rw [if_pos c7] at E
    exact SX12_job_L62     _ _ _ _ _ _ _ _ E
  · rw [if_neg c7] at E
    refine go_iload_n (j := 2) (n := 30) rfl rfl dX12_job_29 rfl ?_
    refine go_iconst (z := 0) (n := 31) ⟨by decide, by decide⟩ dX12_job_30 rfl ?_
    refine go_sipush (z := 1000) (n := 34) ⟨by decide, by decide⟩ dX12_job_31 rfl ?_
    replace E := xb_some E; obtain ⟨v8, h9, ev8, E⟩ := E
    refine go_callS (y := yX12_in) (n := 37) (st := [vr (some l0)]) (as := [vi l2, vi 0, vi 1000]) (stk9 := [vi v8, vr (some l0)]) (OX12_in ev8) yw_X12_in wml_RX12_61 wst_X12_in (Nat.le_of_ble_eq_true rfl) rfl ⟨Nat.le_of_ble_eq_true rfl, Nat.le_of_ble_eq_true rfl⟩ (Nat.le_of_ble_eq_true rfl) dX12_job_34 rfl rfl rfl ?_
    refine go_if_eq (tgt := 62) (n := 40) dX12_job_37 rfl rfl (fun c10 => ?_) (fun c10 => ?_)
    · rw [if_pos c10] at E
      exact SX12_job_L62     _ _ _ _ _ _ _ _ E
    · rw [if_neg c10] at E
      refine go_iload_n (j := 3) (n := 41) rfl rfl dX12_job_40 rfl ?_
      refine go_iconst (z := 0) (n := 42) ⟨by decide, by decide⟩ dX12_job_41 rfl ?_
      refine go_sipush (z := 480) (n := 45) ⟨by decide, by decide⟩ dX12_job_42 rfl ?_
      replace E := xb_some E; obtain ⟨v11, h12, ev11, E⟩ := E
      refine go_callS (y := yX12_in) (n := 48) (st := [vr (some l0)]) (as := [vi l3, vi 0, vi 480]) (stk9 := [vi v11, vr (some l0)]) (OX12_in ev11) yw_X12_in wml_RX12_61 wst_X12_in (Nat.le_of_ble_eq_true rfl) rfl ⟨Nat.le_of_ble_eq_true rfl, Nat.le_of_ble_eq_true rfl⟩ (Nat.le_of_ble_eq_true rfl) dX12_job_45 rfl rfl rfl ?_
      refine go_if_eq (tgt := 62) (n := 51) dX12_job_48 rfl rfl (fun c13 => ?_) (fun c13 => ?_)
      · rw [if_pos c13] at E
        exact SX12_job_L62     _ _ _ _ _ _ _ _ E
      · rw [if_neg c13] at E
        refine go_iload (j := 4) (n := 53) rfl dX12_job_51 rfl ?_
        refine go_iconst (z := 0) (n := 54) ⟨by decide, by decide⟩ dX12_job_53 rfl ?_
        refine go_bipush (z := 60) (n := 56) ⟨by decide, by decide⟩ dX12_job_54 rfl ?_
        replace E := xb_some E; obtain ⟨v14, h15, ev14, E⟩ := E
        refine go_callS (y := yX12_in) (n := 59) (st := [vr (some l0)]) (as := [vi l4, vi 0, vi 60]) (stk9 := [vi v14, vr (some l0)]) (OX12_in ev14) yw_X12_in wml_RX12_61 wst_X12_in (Nat.le_of_ble_eq_true rfl) rfl ⟨Nat.le_of_ble_eq_true rfl, Nat.le_of_ble_eq_true rfl⟩ (Nat.le_of_ble_eq_true rfl) dX12_job_56 rfl rfl rfl ?_
        refine go_if_ne (tgt := 66) (n := 62) dX12_job_59 rfl rfl (fun c16 => ?_) (fun c16 => ?_)
        · rw [if_neg c16] at E
          refine go_iconst (z := 0) (n := 67) ⟨by decide, by decide⟩ dX12_job_66 rfl ?_
          exact SX12_job_L67     _ _ _ _ _ _ _ _ _ E
        · rw [if_pos c16] at E
          exact SX12_job_L62     _ _ _ _ _ _ _ _ E
theorem OX12_job {F : Nat} {l0 : Nat} {l1 : Int} {l2 : Int} {l3 : Int} {l4 : Int} {l5 : Int} {h hf : HP} {r : Int} (e : X12_job F l0 l1 l2 l3 l4 l5 h = some (r, hf)) : Ok MX12_job [vr (some l0), vi l1, vi l2, vi l3, vi l4, vi l5] (some (vi r)) h hf := fun K _ _ _ => SX12_job l0 l1 l2 l3 l4 l5 h e
abbrev MX12_fault : MI := (RX12, cX12_fault, 1, (some .int), 2, none, "fault")
noncomputable def X12_fault (F : Nat)   (l0 : Nat)  (h : HP) : Option (Int × HP) :=
  (xpI h (some l0) 12 31 0 0).bind fun h1 =>
  (xgI h1 (some l0) 12 31 10).bind fun v2 =>
  some (v2, h1)
set_option maxRecDepth 100000 in
theorem SX12_fault {K : Ctx} {F : Nat} {r : Int} {hf : HP}     (l0 : Nat)  (h : HP) (E : X12_fault F   l0 h = some (r, hf)) : Go K MX12_fault (QM K (some (vi r)) hf) hf 0 [(0, vr (some l0))] [] h := by
  unfold X12_fault at E
  refine go_aload_n (j := 0) (n := 1) rfl rfl dX12_fault_0 rfl ?_
  refine go_iconst (z := 0) (n := 2) ⟨by decide, by decide⟩ dX12_fault_1 rfl ?_
  replace E := Option.bind_eq_some_iff.mp E; obtain ⟨h1, eh1, E⟩ := E
  refine go_putI (n := 5) eh1 fl_RX12_3 rfl dX12_fault_2 rfl ?_
  refine go_aload_n (j := 0) (n := 6) rfl rfl dX12_fault_5 rfl ?_
  replace E := Option.bind_eq_some_iff.mp E; obtain ⟨v2, ev2, E⟩ := E
  refine go_getI (n := 9) ev2 fl_RX12_25 rfl dX12_fault_6 rfl ?_
  cases E
  exact go_ireturn rfl dX12_fault_9
theorem OX12_fault {F : Nat} {l0 : Nat} {h hf : HP} {r : Int} (e : X12_fault F l0 h = some (r, hf)) : Ok MX12_fault [vr (some l0)] (some (vi r)) h hf := fun K _ _ _ => SX12_fault l0 h e
abbrev MX12_noJob : MI := (RX12, cX12_noJob, 2, (some .boolean), 3, none, "noJob")
noncomputable def X12_noJob (F : Nat)   (l0 : Nat) (l1 : Int)  (h : HP) : Option (Int × HP) :=
  (xgP h (some l0) 12 31 1).bind fun v1 =>
  (xaI h v1 100 8).bind fun v2 =>
  xb (X12_in F l1 0 (w32 (v2 - 1)) h) fun v3 h4 =>
  some (if v3 = 0 then 1 else 0, h4)
set_option maxRecDepth 100000 in
theorem SX12_noJob {K : Ctx} {F : Nat} {r : Int} {hf : HP}     (l0 : Nat) (l1 : Int)  (h : HP) (E : X12_noJob F   l0 l1 h = some (r, hf)) : Go K MX12_noJob (QM K (some (vi r)) hf) hf 0 [(0, vr (some l0)), (1, vi l1)] [] h := by
  unfold X12_noJob at E
  refine go_iload_n (j := 1) (n := 1) rfl rfl dX12_noJob_0 rfl ?_
  refine go_iconst (z := 0) (n := 2) ⟨by decide, by decide⟩ dX12_noJob_1 rfl ?_
  refine go_aload_n (j := 0) (n := 3) rfl rfl dX12_noJob_2 rfl ?_
  replace E := Option.bind_eq_some_iff.mp E; obtain ⟨v1, ev1, E⟩ := E
  refine go_getP (n := 6) ev1 fl_RX12_14 rfl dX12_noJob_3 rfl ?_
  refine go_bipush (z := 8) (n := 8) ⟨by decide, by decide⟩ dX12_noJob_6 rfl ?_
  replace E := Option.bind_eq_some_iff.mp E; obtain ⟨v2, ev2, E⟩ := E
  refine go_iaload (n := 9) ev2 dX12_noJob_8 rfl ?_
  refine go_iconst (z := 1) (n := 10) ⟨by decide, by decide⟩ dX12_noJob_9 rfl ?_
  refine go_isub (n := 11) dX12_noJob_10 rfl ?_
  replace E := xb_some E; obtain ⟨v3, h4, ev3, E⟩ := E
  refine go_callS (y := yX12_in) (n := 14) (st := []) (as := [vi l1, vi 0, vi (w32 (v2 - 1))]) (stk9 := [vi v3]) (OX12_in ev3) yw_X12_in wml_RX12_61 wst_X12_in (Nat.le_of_ble_eq_true rfl) rfl ⟨Nat.le_of_ble_eq_true rfl, Nat.le_of_ble_eq_true rfl⟩ (Nat.le_of_ble_eq_true rfl) dX12_noJob_11 rfl rfl rfl ?_
  refine go_if_ne (tgt := 21) (n := 17) dX12_noJob_14 rfl rfl (fun c5 => ?_) (fun c5 => ?_)
  · simp only [if_neg c5] at E
    refine go_iconst (z := 0) (n := 22) ⟨by decide, by decide⟩ dX12_noJob_21 rfl ?_
    cases E
    exact go_zreturn rfl (Or.inl rfl) dX12_noJob_22
  · simp only [if_pos c5] at E
    refine go_iconst (z := 1) (n := 18) ⟨by decide, by decide⟩ dX12_noJob_17 rfl ?_
    refine go_goto (tgt := 22) dX12_noJob_18 rfl ?_
    cases E
    exact go_zreturn rfl (Or.inr rfl) dX12_noJob_22
theorem OX12_noJob {F : Nat} {l0 : Nat} {l1 : Int} {h hf : HP} {r : Int} (e : X12_noJob F l0 l1 h = some (r, hf)) : Ok MX12_noJob [vr (some l0), vi l1] (some (vi r)) h hf := fun K _ _ _ => SX12_noJob l0 l1 h e
theorem yw_X12_noJob : YW yX12_noJob cX12_noJob 2 (some .boolean) 1 := ⟨bw_of 2061 (by decide +kernel) rfl, bw_of 129 (by decide +kernel) rfl, ⟨by decide +kernel, by decide +kernel, by decide +kernel⟩, by decide +kernel⟩
theorem wml_RX12_247 : Cond.methodLink RX12 247 yX12_noJob ∈ BW := bw_of 2058 (by decide +kernel) rfl
theorem wim_X12_noJob : Cond.instanceMethod yX12_noJob ∈ BW := bw_of 2060 (by decide +kernel) rfl
theorem wse_X12_noJob : Cond.selects RX12 yX12_noJob yX12_noJob ∈ BW := bw_of 86 (by decide +kernel) rfl
abbrev MX12_shorter : MI := (RX12, cX12_shorter, 5, none, 4, none, "shorter")
noncomputable def X12_shorter_L59 (F : Nat)   (l0 : Nat) (l1 : Int) (l2 : Int) (l3 : Int) (l4 : Int) (s0 : Int) (s1 : Option Nat) (h : HP) : Option (Unit × HP) :=
  (xrc h s1 12 31).bind fun a3 =>
  xb (X12_throwsIf F a3 s0 2 h) fun v1 h2 =>
  if v1 = 0 then
    (xrc h2 (some l0) 12 31).bind fun a7 =>
    xb (X12_sets F a7 l1 5 l2 h2) fun v5 h6 =>
    (xrc h6 (some l0) 12 31).bind fun a10 =>
    xb (X12_sets F a10 l1 6 l3 h6) fun v8 h9 =>
    (xrc h9 (some l0) 12 31).bind fun a13 =>
    xb (X12_sets F a13 l1 7 l4 h9) fun v11 h12 =>
    some ((), h12)
  else
    some ((), h2)
set_option maxRecDepth 100000 in
theorem SX12_shorter_L59 {K : Ctx} {F : Nat} {r : Unit} {hf : HP}     (l0 : Nat) (l1 : Int) (l2 : Int) (l3 : Int) (l4 : Int) (s0 : Int) (s1 : Option Nat) (h : HP) (E : X12_shorter_L59 F   l0 l1 l2 l3 l4 s0 s1 h = some (r, hf)) : Go K MX12_shorter (QM K none hf) hf 59 [(0, vr (some l0)), (1, vi l1), (2, vi l2), (3, vi l3), (4, vi l4)] [vi s0, vr s1] h := by
  unfold X12_shorter_L59 at E
  refine go_iconst (z := 2) (n := 60) ⟨by decide, by decide⟩ dX12_shorter_59 rfl ?_
  replace E := Option.bind_eq_some_iff.mp E; obtain ⟨a3, ea3, E⟩ := E
  obtain ⟨fa3, ga3⟩ := xrc_some ea3
  replace E := xb_some E; obtain ⟨v1, h2, ev1, E⟩ := E
  refine go_callV (y := yX12_throwsIf) (n := 63) (st := []) (as := [vi s0, vi 2]) (stk9 := [vi v1]) (OX12_throwsIf ev1) yw_X12_throwsIf ci_12 ga3 wml_RX12_65 wim_X12_throwsIf wse_X12_throwsIf (Nat.le_of_ble_eq_true rfl) rfl ⟨Nat.le_of_ble_eq_true rfl, Nat.le_of_ble_eq_true rfl⟩ (Nat.le_of_ble_eq_true rfl) dX12_shorter_60 rfl (by cases fa3; rfl) rfl ?_
  refine go_if_eq (tgt := 67) (n := 66) dX12_shorter_63 rfl rfl (fun c4 => ?_) (fun c4 => ?_)
  · rw [if_pos c4] at E
    refine go_aload_n (j := 0) (n := 68) rfl rfl dX12_shorter_67 rfl ?_
    refine go_iload_n (j := 1) (n := 69) rfl rfl dX12_shorter_68 rfl ?_
    refine go_iconst (z := 5) (n := 70) ⟨by decide, by decide⟩ dX12_shorter_69 rfl ?_
    refine go_iload_n (j := 2) (n := 71) rfl rfl dX12_shorter_70 rfl ?_
    replace E := Option.bind_eq_some_iff.mp E; obtain ⟨a7, ea7, E⟩ := E
    obtain ⟨fa7, ga7⟩ := xrc_some ea7
    replace E := xb_some E; obtain ⟨v5, h6, ev5, E⟩ := E
    refine go_callV (y := yX12_sets) (n := 74) (st := []) (as := [vi l1, vi 5, vi l2]) (stk9 := []) (OX12_sets ev5) yw_X12_sets ci_12 ga7 wml_RX12_243 wim_X12_sets wse_X12_sets (Nat.le_of_ble_eq_true rfl) rfl ⟨Nat.le_of_ble_eq_true rfl, Nat.le_of_ble_eq_true rfl⟩ (Nat.le_of_ble_eq_true rfl) dX12_shorter_71 rfl (by cases fa7; rfl) rfl ?_
    refine go_aload_n (j := 0) (n := 75) rfl rfl dX12_shorter_74 rfl ?_
    refine go_iload_n (j := 1) (n := 76) rfl rfl dX12_shorter_75 rfl ?_
    refine go_bipush (z := 6) (n := 78) ⟨by decide, by decide⟩ dX12_shorter_76 rfl ?_
    refine go_iload_n (j := 3) (n := 79) rfl rfl dX12_shorter_78 rfl ?_
    replace E := Option.bind_eq_some_iff.mp E; obtain ⟨a10, ea10, E⟩ := E
    obtain ⟨fa10, ga10⟩ := xrc_some ea10
    replace E := xb_some E; obtain ⟨v8, h9, ev8, E⟩ := E
    refine go_callV (y := yX12_sets) (n := 82) (st := []) (as := [vi l1, vi 6, vi l3]) (stk9 := []) (OX12_sets ev8) yw_X12_sets ci_12 ga10 wml_RX12_243 wim_X12_sets wse_X12_sets (Nat.le_of_ble_eq_true rfl) rfl ⟨Nat.le_of_ble_eq_true rfl, Nat.le_of_ble_eq_true rfl⟩ (Nat.le_of_ble_eq_true rfl) dX12_shorter_79 rfl (by cases fa10; rfl) rfl ?_
    refine go_aload_n (j := 0) (n := 83) rfl rfl dX12_shorter_82 rfl ?_
    refine go_iload_n (j := 1) (n := 84) rfl rfl dX12_shorter_83 rfl ?_
    refine go_bipush (z := 7) (n := 86) ⟨by decide, by decide⟩ dX12_shorter_84 rfl ?_
    refine go_iload (j := 4) (n := 88) rfl dX12_shorter_86 rfl ?_
    replace E := Option.bind_eq_some_iff.mp E; obtain ⟨a13, ea13, E⟩ := E
    obtain ⟨fa13, ga13⟩ := xrc_some ea13
    replace E := xb_some E; obtain ⟨v11, h12, ev11, E⟩ := E
    refine go_callV (y := yX12_sets) (n := 91) (st := []) (as := [vi l1, vi 7, vi l4]) (stk9 := []) (OX12_sets ev11) yw_X12_sets ci_12 ga13 wml_RX12_243 wim_X12_sets wse_X12_sets (Nat.le_of_ble_eq_true rfl) rfl ⟨Nat.le_of_ble_eq_true rfl, Nat.le_of_ble_eq_true rfl⟩ (Nat.le_of_ble_eq_true rfl) dX12_shorter_88 rfl (by cases fa13; rfl) rfl ?_
    cases E
    exact go_return rfl dX12_shorter_91
  · rw [if_neg c4] at E
    cases E
    exact go_return rfl dX12_shorter_66
noncomputable def X12_shorter_L54 (F : Nat)   (l0 : Nat) (l1 : Int) (l2 : Int) (l3 : Int) (l4 : Int) (s0 : Option Nat) (h : HP) : Option (Unit × HP) :=
  X12_shorter_L59 F l0 l1 l2 l3 l4 1 s0 h
set_option maxRecDepth 100000 in
theorem SX12_shorter_L54 {K : Ctx} {F : Nat} {r : Unit} {hf : HP}     (l0 : Nat) (l1 : Int) (l2 : Int) (l3 : Int) (l4 : Int) (s0 : Option Nat) (h : HP) (E : X12_shorter_L54 F   l0 l1 l2 l3 l4 s0 h = some (r, hf)) : Go K MX12_shorter (QM K none hf) hf 54 [(0, vr (some l0)), (1, vi l1), (2, vi l2), (3, vi l3), (4, vi l4)] [vr s0] h := by
  unfold X12_shorter_L54 at E
  refine go_iconst (z := 1) (n := 55) ⟨by decide, by decide⟩ dX12_shorter_54 rfl ?_
  refine go_goto (tgt := 59) dX12_shorter_55 rfl ?_
  exact SX12_shorter_L59     _ _ _ _ _ _ _ _ E
noncomputable def X12_shorter (F : Nat)   (l0 : Nat) (l1 : Int) (l2 : Int) (l3 : Int) (l4 : Int)  (h : HP) : Option (Unit × HP) :=
  (xpI h (some l0) 12 31 0 0).bind fun h1 =>
  (xrc h1 (some l0) 12 31).bind fun a4 =>
  xb (X12_noJob F a4 l1 h1) fun v2 h3 =>
  (xrc h3 (some l0) 12 31).bind fun a7 =>
  xb (X12_throwsIf F a7 v2 1 h3) fun v5 h6 =>
  if v5 = 0 then
    xb (X12_in F l2 0 60 h6) fun v9 h10 =>
    if v9 = 0 then
      X12_shorter_L54 F l0 l1 l2 l3 l4 (some l0) h10
    else
      xb (X12_in F l3 0 1000 h10) fun v12 h13 =>
      if v12 = 0 then
        X12_shorter_L54 F l0 l1 l2 l3 l4 (some l0) h13
      else
        xb (X12_in F l4 (-9999) 9999 h13) fun v15 h16 =>
        if v15 = 0 then
          X12_shorter_L54 F l0 l1 l2 l3 l4 (some l0) h16
        else
          X12_shorter_L59 F l0 l1 l2 l3 l4 0 (some l0) h16
  else
    some ((), h6)
set_option maxRecDepth 100000 in
theorem SX12_shorter {K : Ctx} {F : Nat} {r : Unit} {hf : HP}     (l0 : Nat) (l1 : Int) (l2 : Int) (l3 : Int) (l4 : Int)  (h : HP) (E : X12_shorter F   l0 l1 l2 l3 l4 h = some (r, hf)) : Go K MX12_shorter (QM K none hf) hf 0 [(0, vr (some l0)), (1, vi l1), (2, vi l2), (3, vi l3), (4, vi l4)] [] h := by
  unfold X12_shorter at E
  refine go_aload_n (j := 0) (n := 1) rfl rfl dX12_shorter_0 rfl ?_
  refine go_iconst (z := 0) (n := 2) ⟨by decide, by decide⟩ dX12_shorter_1 rfl ?_
  replace E := Option.bind_eq_some_iff.mp E; obtain ⟨h1, eh1, E⟩ := E
  refine go_putI (n := 5) eh1 fl_RX12_3 rfl dX12_shorter_2 rfl ?_
  refine go_aload_n (j := 0) (n := 6) rfl rfl dX12_shorter_5 rfl ?_
  refine go_aload_n (j := 0) (n := 7) rfl rfl dX12_shorter_6 rfl ?_
  refine go_iload_n (j := 1) (n := 8) rfl rfl dX12_shorter_7 rfl ?_
  replace E := Option.bind_eq_some_iff.mp E; obtain ⟨a4, ea4, E⟩ := E
  obtain ⟨fa4, ga4⟩ := xrc_some ea4
  replace E := xb_some E; obtain ⟨v2, h3, ev2, E⟩ := E
  refine go_callV (y := yX12_noJob) (n := 11) (st := [vr (some l0)]) (as := [vi l1]) (stk9 := [vi v2, vr (some l0)]) (OX12_noJob ev2) yw_X12_noJob ci_12 ga4 wml_RX12_247 wim_X12_noJob wse_X12_noJob (Nat.le_of_ble_eq_true rfl) rfl ⟨Nat.le_of_ble_eq_true rfl, Nat.le_of_ble_eq_true rfl⟩ (Nat.le_of_ble_eq_true rfl) dX12_shorter_8 rfl (by cases fa4; rfl) rfl ?_
  refine go_iconst (z := 1) (n := 12) ⟨by decide, by decide⟩ dX12_shorter_11 rfl ?_
  replace E := Option.bind_eq_some_iff.mp E; obtain ⟨a7, ea7, E⟩ := E
  obtain ⟨fa7, ga7⟩ := xrc_some ea7
  replace E := xb_some E; obtain ⟨v5, h6, ev5, E⟩ := E
  refine go_callV (y := yX12_throwsIf) (n := 15) (st := []) (as := [vi v2, vi 1]) (stk9 := [vi v5]) (OX12_throwsIf ev5) yw_X12_throwsIf ci_12 ga7 wml_RX12_65 wim_X12_throwsIf wse_X12_throwsIf (Nat.le_of_ble_eq_true rfl) rfl ⟨Nat.le_of_ble_eq_true rfl, Nat.le_of_ble_eq_true rfl⟩ (Nat.le_of_ble_eq_true rfl) dX12_shorter_12 rfl (by cases fa7; rfl) rfl ?_
  refine go_if_ne (tgt := 66) (n := 18) dX12_shorter_15 rfl rfl (fun c8 => ?_) (fun c8 => ?_)
  · rw [if_neg c8] at E
    cases E
    exact go_return rfl dX12_shorter_66
  · rw [if_pos c8] at E
    refine go_aload_n (j := 0) (n := 19) rfl rfl dX12_shorter_18 rfl ?_
    refine go_iload_n (j := 2) (n := 20) rfl rfl dX12_shorter_19 rfl ?_
    refine go_iconst (z := 0) (n := 21) ⟨by decide, by decide⟩ dX12_shorter_20 rfl ?_
    refine go_bipush (z := 60) (n := 23) ⟨by decide, by decide⟩ dX12_shorter_21 rfl ?_
    replace E := xb_some E; obtain ⟨v9, h10, ev9, E⟩ := E
    refine go_callS (y := yX12_in) (n := 26) (st := [vr (some l0)]) (as := [vi l2, vi 0, vi 60]) (stk9 := [vi v9, vr (some l0)]) (OX12_in ev9) yw_X12_in wml_RX12_61 wst_X12_in (Nat.le_of_ble_eq_true rfl) rfl ⟨Nat.le_of_ble_eq_true rfl, Nat.le_of_ble_eq_true rfl⟩ (Nat.le_of_ble_eq_true rfl) dX12_shorter_23 rfl rfl rfl ?_
    refine go_if_eq (tgt := 54) (n := 29) dX12_shorter_26 rfl rfl (fun c11 => ?_) (fun c11 => ?_)
    · rw [if_pos c11] at E
      exact SX12_shorter_L54     _ _ _ _ _ _ _ E
    · rw [if_neg c11] at E
      refine go_iload_n (j := 3) (n := 30) rfl rfl dX12_shorter_29 rfl ?_
      refine go_iconst (z := 0) (n := 31) ⟨by decide, by decide⟩ dX12_shorter_30 rfl ?_
      refine go_sipush (z := 1000) (n := 34) ⟨by decide, by decide⟩ dX12_shorter_31 rfl ?_
      replace E := xb_some E; obtain ⟨v12, h13, ev12, E⟩ := E
      refine go_callS (y := yX12_in) (n := 37) (st := [vr (some l0)]) (as := [vi l3, vi 0, vi 1000]) (stk9 := [vi v12, vr (some l0)]) (OX12_in ev12) yw_X12_in wml_RX12_61 wst_X12_in (Nat.le_of_ble_eq_true rfl) rfl ⟨Nat.le_of_ble_eq_true rfl, Nat.le_of_ble_eq_true rfl⟩ (Nat.le_of_ble_eq_true rfl) dX12_shorter_34 rfl rfl rfl ?_
      refine go_if_eq (tgt := 54) (n := 40) dX12_shorter_37 rfl rfl (fun c14 => ?_) (fun c14 => ?_)
      · rw [if_pos c14] at E
        exact SX12_shorter_L54     _ _ _ _ _ _ _ E
      · rw [if_neg c14] at E
        refine go_iload (j := 4) (n := 42) rfl dX12_shorter_40 rfl ?_
        refine go_sipush (z := (-9999)) (n := 45) ⟨by decide, by decide⟩ dX12_shorter_42 rfl ?_
        refine go_sipush (z := 9999) (n := 48) ⟨by decide, by decide⟩ dX12_shorter_45 rfl ?_
        replace E := xb_some E; obtain ⟨v15, h16, ev15, E⟩ := E
        refine go_callS (y := yX12_in) (n := 51) (st := [vr (some l0)]) (as := [vi l4, vi (-9999), vi 9999]) (stk9 := [vi v15, vr (some l0)]) (OX12_in ev15) yw_X12_in wml_RX12_61 wst_X12_in (Nat.le_of_ble_eq_true rfl) rfl ⟨Nat.le_of_ble_eq_true rfl, Nat.le_of_ble_eq_true rfl⟩ (Nat.le_of_ble_eq_true rfl) dX12_shorter_48 rfl rfl rfl ?_
        refine go_if_ne (tgt := 58) (n := 54) dX12_shorter_51 rfl rfl (fun c17 => ?_) (fun c17 => ?_)
        · rw [if_neg c17] at E
          refine go_iconst (z := 0) (n := 59) ⟨by decide, by decide⟩ dX12_shorter_58 rfl ?_
          exact SX12_shorter_L59     _ _ _ _ _ _ _ _ E
        · rw [if_pos c17] at E
          exact SX12_shorter_L54     _ _ _ _ _ _ _ E
theorem OX12_shorter {F : Nat} {l0 : Nat} {l1 : Int} {l2 : Int} {l3 : Int} {l4 : Int} {h hf : HP} {r : Unit} (e : X12_shorter F l0 l1 l2 l3 l4 h = some (r, hf)) : Ok MX12_shorter [vr (some l0), vi l1, vi l2, vi l3, vi l4] none h hf := fun K _ _ _ => SX12_shorter l0 l1 l2 l3 l4 h e
abbrev MX12_its : MI := (RX12, cX12_its, 3, (some .int), 3, none, "its")
noncomputable def X12_its (F : Nat)   (l0 : Nat) (l1 : Int) (l2 : Int)  (h : HP) : Option (Int × HP) :=
  (xgP h (some l0) 12 31 1).bind fun v1 =>
  xb (X12_jobAt F l1 l2 h) fun v2 h3 =>
  (xaI h3 v1 100 v2).bind fun v4 =>
  some (v4, h3)
set_option maxRecDepth 100000 in
theorem SX12_its {K : Ctx} {F : Nat} {r : Int} {hf : HP}     (l0 : Nat) (l1 : Int) (l2 : Int)  (h : HP) (E : X12_its F   l0 l1 l2 h = some (r, hf)) : Go K MX12_its (QM K (some (vi r)) hf) hf 0 [(0, vr (some l0)), (1, vi l1), (2, vi l2)] [] h := by
  unfold X12_its at E
  refine go_aload_n (j := 0) (n := 1) rfl rfl dX12_its_0 rfl ?_
  replace E := Option.bind_eq_some_iff.mp E; obtain ⟨v1, ev1, E⟩ := E
  refine go_getP (n := 4) ev1 fl_RX12_14 rfl dX12_its_1 rfl ?_
  refine go_iload_n (j := 1) (n := 5) rfl rfl dX12_its_4 rfl ?_
  refine go_iload_n (j := 2) (n := 6) rfl rfl dX12_its_5 rfl ?_
  replace E := xb_some E; obtain ⟨v2, h3, ev2, E⟩ := E
  refine go_callS (y := yX12_jobAt) (n := 9) (st := [vr v1]) (as := [vi l1, vi l2]) (stk9 := [vi v2, vr v1]) (OX12_jobAt ev2) yw_X12_jobAt wml_RX12_141 wst_X12_jobAt (Nat.le_of_ble_eq_true rfl) rfl ⟨Nat.le_of_ble_eq_true rfl, Nat.le_of_ble_eq_true rfl⟩ (Nat.le_of_ble_eq_true rfl) dX12_its_6 rfl rfl rfl ?_
  replace E := Option.bind_eq_some_iff.mp E; obtain ⟨v4, ev4, E⟩ := E
  refine go_iaload (n := 10) ev4 dX12_its_9 rfl ?_
  cases E
  exact go_ireturn rfl dX12_its_10
theorem OX12_its {F : Nat} {l0 : Nat} {l1 : Int} {l2 : Int} {h hf : HP} {r : Int} (e : X12_its F l0 l1 l2 h = some (r, hf)) : Ok MX12_its [vr (some l0), vi l1, vi l2] (some (vi r)) h hf := fun K _ _ _ => SX12_its l0 l1 l2 h e
theorem yw_X12_its : YW yX12_its cX12_its 3 (some .int) 2 := ⟨bw_of 2073 (by decide +kernel) rfl, bw_of 129 (by decide +kernel) rfl, ⟨by decide +kernel, by decide +kernel, by decide +kernel⟩, by decide +kernel⟩
theorem wml_RX12_250 : Cond.methodLink RX12 250 yX12_its ∈ BW := bw_of 2070 (by decide +kernel) rfl
theorem wim_X12_its : Cond.instanceMethod yX12_its ∈ BW := bw_of 2072 (by decide +kernel) rfl
theorem wse_X12_its : Cond.selects RX12 yX12_its yX12_its ∈ BW := bw_of 88 (by decide +kernel) rfl
theorem wl_RX12_253 : Cond.constantLong RX12 253 (Int64.ofInt 4294967295) ∈ BW := bw_of 2074 (by decide +kernel) rfl
abbrev MX12_bitsOf : MI := (RX12, cX12_bitsOf, 3, (some .long), 4, none, "bitsOf")
noncomputable def X12_bitsOf (F : Nat)   (l0 : Nat) (l1 : Int) (l2 : Int)  (h : HP) : Option (Int × HP) :=
  (xrc h (some l0) 12 31).bind fun a3 =>
  xb (X12_its F a3 l1 l2 h) fun v1 h2 =>
  (xrc h2 (some l0) 12 31).bind fun a6 =>
  xb (X12_its F a6 l1 (w32 (l2 + 1)) h2) fun v4 h5 =>
  some (yor (yand v1 4294967295) (yshl v4 32), h5)
set_option maxRecDepth 100000 in
theorem SX12_bitsOf {K : Ctx} {F : Nat} {r : Int} {hf : HP}     (l0 : Nat) (l1 : Int) (l2 : Int)  (h : HP) (E : X12_bitsOf F   l0 l1 l2 h = some (r, hf)) : Go K MX12_bitsOf (QM K (some (vl r)) hf) hf 0 [(0, vr (some l0)), (1, vi l1), (2, vi l2)] [] h := by
  unfold X12_bitsOf at E
  refine go_aload_n (j := 0) (n := 1) rfl rfl dX12_bitsOf_0 rfl ?_
  refine go_iload_n (j := 1) (n := 2) rfl rfl dX12_bitsOf_1 rfl ?_
  refine go_iload_n (j := 2) (n := 3) rfl rfl dX12_bitsOf_2 rfl ?_
  replace E := Option.bind_eq_some_iff.mp E; obtain ⟨a3, ea3, E⟩ := E
  obtain ⟨fa3, ga3⟩ := xrc_some ea3
  replace E := xb_some E; obtain ⟨v1, h2, ev1, E⟩ := E
  refine go_callV (y := yX12_its) (n := 6) (st := []) (as := [vi l1, vi l2]) (stk9 := [vi v1]) (OX12_its ev1) yw_X12_its ci_12 ga3 wml_RX12_250 wim_X12_its wse_X12_its (Nat.le_of_ble_eq_true rfl) rfl ⟨Nat.le_of_ble_eq_true rfl, Nat.le_of_ble_eq_true rfl⟩ (Nat.le_of_ble_eq_true rfl) dX12_bitsOf_3 rfl (by cases fa3; rfl) rfl ?_
  refine go_i2l (n := 7) dX12_bitsOf_6 rfl ?_
  refine go_ldc2 (z := 4294967295) (n := 10) ⟨by decide, by decide⟩ wl_RX12_253 dX12_bitsOf_7 rfl ?_
  refine go_land (n := 11) dX12_bitsOf_10 rfl ?_
  refine go_aload_n (j := 0) (n := 12) rfl rfl dX12_bitsOf_11 rfl ?_
  refine go_iload_n (j := 1) (n := 13) rfl rfl dX12_bitsOf_12 rfl ?_
  refine go_iload_n (j := 2) (n := 14) rfl rfl dX12_bitsOf_13 rfl ?_
  refine go_iconst (z := 1) (n := 15) ⟨by decide, by decide⟩ dX12_bitsOf_14 rfl ?_
  refine go_iadd (n := 16) dX12_bitsOf_15 rfl ?_
  replace E := Option.bind_eq_some_iff.mp E; obtain ⟨a6, ea6, E⟩ := E
  obtain ⟨fa6, ga6⟩ := xrc_some ea6
  replace E := xb_some E; obtain ⟨v4, h5, ev4, E⟩ := E
  refine go_callV (y := yX12_its) (n := 19) (st := [vl (yand v1 4294967295)]) (as := [vi l1, vi (w32 (l2 + 1))]) (stk9 := [vi v4, vl (yand v1 4294967295)]) (OX12_its ev4) yw_X12_its ci_12 ga6 wml_RX12_250 wim_X12_its wse_X12_its (Nat.le_of_ble_eq_true rfl) rfl ⟨Nat.le_of_ble_eq_true rfl, Nat.le_of_ble_eq_true rfl⟩ (Nat.le_of_ble_eq_true rfl) dX12_bitsOf_16 rfl (by cases fa6; rfl) rfl ?_
  refine go_i2l (n := 20) dX12_bitsOf_19 rfl ?_
  refine go_bipush (z := 32) (n := 22) ⟨by decide, by decide⟩ dX12_bitsOf_20 rfl ?_
  refine go_lshl (n := 23) dX12_bitsOf_22 rfl ?_
  refine go_lor (n := 24) dX12_bitsOf_23 rfl ?_
  cases E
  exact go_lreturn rfl dX12_bitsOf_24
theorem OX12_bitsOf {F : Nat} {l0 : Nat} {l1 : Int} {l2 : Int} {h hf : HP} {r : Int} (e : X12_bitsOf F l0 l1 l2 h = some (r, hf)) : Ok MX12_bitsOf [vr (some l0), vi l1, vi l2] (some (vl r)) h hf := fun K _ _ _ => SX12_bitsOf l0 l1 l2 h e
theorem yw_X12_bitsOf : YW yX12_bitsOf cX12_bitsOf 3 (some .long) 2 := ⟨bw_of 2069 (by decide +kernel) rfl, bw_of 129 (by decide +kernel) rfl, ⟨by decide +kernel, by decide +kernel, by decide +kernel⟩, by decide +kernel⟩
theorem wml_RX12_255 : Cond.methodLink RX12 255 yX12_bitsOf ∈ BW := bw_of 2066 (by decide +kernel) rfl
theorem wim_X12_bitsOf : Cond.instanceMethod yX12_bitsOf ∈ BW := bw_of 2068 (by decide +kernel) rfl
theorem wse_X12_bitsOf : Cond.selects RX12 yX12_bitsOf yX12_bitsOf ∈ BW := bw_of 87 (by decide +kernel) rfl
abbrev MX12_words : MI := (RX12, cX12_words, 3, (some .long), 5, none, "words")
noncomputable def X12_words_L35 (F : Nat)    (s0 : Int) (s1 : Int) (s2 : Option Nat) (h : HP) : Option (Int × HP) :=
  (xrc h s2 12 31).bind fun a3 =>
  xb (X12_bitsOf F a3 s1 s0 h) fun v1 h2 =>
  some (v1, h2)
set_option maxRecDepth 100000 in
theorem SX12_words_L35 {K : Ctx} {F : Nat} {r : Int} {hf : HP}      (s0 : Int) (s1 : Int) (s2 : Option Nat) (h : HP) (E : X12_words_L35 F   s0 s1 s2 h = some (r, hf)) : Go K MX12_words (QM K (some (vl r)) hf) hf 35 [] [vi s0, vi s1, vr s2] h := by
  unfold X12_words_L35 at E
  replace E := Option.bind_eq_some_iff.mp E; obtain ⟨a3, ea3, E⟩ := E
  obtain ⟨fa3, ga3⟩ := xrc_some ea3
  replace E := xb_some E; obtain ⟨v1, h2, ev1, E⟩ := E
  refine go_callV (y := yX12_bitsOf) (n := 38) (st := []) (as := [vi s1, vi s0]) (stk9 := [vl v1]) (OX12_bitsOf ev1) yw_X12_bitsOf ci_12 ga3 wml_RX12_255 wim_X12_bitsOf wse_X12_bitsOf (Nat.le_of_ble_eq_true rfl) rfl ⟨Nat.le_of_ble_eq_true rfl, Nat.le_of_ble_eq_true rfl⟩ (Nat.le_of_ble_eq_true rfl) dX12_words_35 rfl (by cases fa3; rfl) rfl ?_
  cases E
  exact go_lreturn rfl dX12_words_38
noncomputable def X12_words (F : Nat)   (l0 : Nat) (l1 : Int) (l2 : Int)  (h : HP) : Option (Int × HP) :=
  (xpI h (some l0) 12 31 0 0).bind fun h1 =>
  (xrc h1 (some l0) 12 31).bind fun a4 =>
  xb (X12_noJob F a4 l1 h1) fun v2 h3 =>
  (xrc h3 (some l0) 12 31).bind fun a7 =>
  xb (X12_throwsIf F a7 v2 1 h3) fun v5 h6 =>
  if v5 = 0 then
    X12_words_L35 F (if l2 = 0 then 17 else 19) l1 (some l0) h6
  else
    some (0, h6)
set_option maxRecDepth 100000 in
theorem SX12_words {K : Ctx} {F : Nat} {r : Int} {hf : HP}     (l0 : Nat) (l1 : Int) (l2 : Int)  (h : HP) (E : X12_words F   l0 l1 l2 h = some (r, hf)) : Go K MX12_words (QM K (some (vl r)) hf) hf 0 [(0, vr (some l0)), (1, vi l1), (2, vi l2)] [] h := by
  unfold X12_words at E
  refine go_aload_n (j := 0) (n := 1) rfl rfl dX12_words_0 rfl ?_
  refine go_iconst (z := 0) (n := 2) ⟨by decide, by decide⟩ dX12_words_1 rfl ?_
  replace E := Option.bind_eq_some_iff.mp E; obtain ⟨h1, eh1, E⟩ := E
  refine go_putI (n := 5) eh1 fl_RX12_3 rfl dX12_words_2 rfl ?_
  refine go_aload_n (j := 0) (n := 6) rfl rfl dX12_words_5 rfl ?_
  refine go_aload_n (j := 0) (n := 7) rfl rfl dX12_words_6 rfl ?_
  refine go_iload_n (j := 1) (n := 8) rfl rfl dX12_words_7 rfl ?_
  replace E := Option.bind_eq_some_iff.mp E; obtain ⟨a4, ea4, E⟩ := E
  obtain ⟨fa4, ga4⟩ := xrc_some ea4
  replace E := xb_some E; obtain ⟨v2, h3, ev2, E⟩ := E
  refine go_callV (y := yX12_noJob) (n := 11) (st := [vr (some l0)]) (as := [vi l1]) (stk9 := [vi v2, vr (some l0)]) (OX12_noJob ev2) yw_X12_noJob ci_12 ga4 wml_RX12_247 wim_X12_noJob wse_X12_noJob (Nat.le_of_ble_eq_true rfl) rfl ⟨Nat.le_of_ble_eq_true rfl, Nat.le_of_ble_eq_true rfl⟩ (Nat.le_of_ble_eq_true rfl) dX12_words_8 rfl (by cases fa4; rfl) rfl ?_
  refine go_iconst (z := 1) (n := 12) ⟨by decide, by decide⟩ dX12_words_11 rfl ?_
  replace E := Option.bind_eq_some_iff.mp E; obtain ⟨a7, ea7, E⟩ := E
  obtain ⟨fa7, ga7⟩ := xrc_some ea7
  replace E := xb_some E; obtain ⟨v5, h6, ev5, E⟩ := E
  refine go_callV (y := yX12_throwsIf) (n := 15) (st := []) (as := [vi v2, vi 1]) (stk9 := [vi v5]) (OX12_throwsIf ev5) yw_X12_throwsIf ci_12 ga7 wml_RX12_65 wim_X12_throwsIf wse_X12_throwsIf (Nat.le_of_ble_eq_true rfl) rfl ⟨Nat.le_of_ble_eq_true rfl, Nat.le_of_ble_eq_true rfl⟩ (Nat.le_of_ble_eq_true rfl) dX12_words_12 rfl (by cases fa7; rfl) rfl ?_
  refine go_if_eq (tgt := 22) (n := 18) dX12_words_15 rfl rfl (fun c8 => ?_) (fun c8 => ?_)
  · rw [if_pos c8] at E
    refine go_aload_n (j := 0) (n := 23) rfl rfl dX12_words_22 rfl ?_
    refine go_iload_n (j := 1) (n := 24) rfl rfl dX12_words_23 rfl ?_
    refine go_iload_n (j := 2) (n := 25) rfl rfl dX12_words_24 rfl ?_
    refine go_if_eq (tgt := 33) (n := 28) dX12_words_25 rfl rfl (fun c9 => ?_) (fun c9 => ?_)
    · simp only [if_pos c9] at E
      refine go_bipush (z := 17) (n := 35) ⟨by decide, by decide⟩ dX12_words_33 rfl ?_
      refine go_pick (lv' := []) [] rfl ?_
      exact SX12_words_L35      _ _ _ _ E
    · simp only [if_neg c9] at E
      refine go_bipush (z := 19) (n := 30) ⟨by decide, by decide⟩ dX12_words_28 rfl ?_
      refine go_goto (tgt := 35) dX12_words_30 rfl ?_
      refine go_pick (lv' := []) [] rfl ?_
      exact SX12_words_L35      _ _ _ _ E
  · rw [if_neg c8] at E
    refine go_lconst (w := 0) (n := 19) rfl dX12_words_18 rfl ?_
    refine go_goto (tgt := 38) dX12_words_19 rfl ?_
    cases E
    exact go_lreturn rfl dX12_words_38
theorem OX12_words {F : Nat} {l0 : Nat} {l1 : Int} {l2 : Int} {h hf : HP} {r : Int} (e : X12_words F l0 l1 l2 h = some (r, hf)) : Ok MX12_words [vr (some l0), vi l1, vi l2] (some (vl r)) h hf := fun K _ _ _ => SX12_words l0 l1 l2 h e
abbrev MX12_leansOf : MI := (RX12, cX12_leansOf, 4, (some .int), 5, none, "leansOf")
noncomputable def X12_leansOf_L48 (F : Nat)  (rc4 : Nat → Int → Int → Int → HP → Option (Int × HP)) (l0 : Nat) (l1 : Int) (l3 : Int) (s0 : Int) (s1 : Int) (h : HP) : Option (Int × HP) :=
  rc4 l0 l1 (xor_ s1 s0) (w32 (l3 + 1)) h
set_option maxRecDepth 100000 in
theorem SX12_leansOf_L48 {K : Ctx} {F : Nat} {r : Int} {hf : HP}   (rc4 : Nat → Int → Int → Int → HP → Option (Int × HP)) (hrc4 : ∀ l0 l1 l2 l3 h, rc4 l0 l1 l2 l3 h = some (r, hf) → Go K MX12_leansOf (QM K (some (vi r)) hf) hf 4 [(0, vr (some l0)), (1, vi l1), (2, vi l2), (3, vi l3)] [] h) (l0 : Nat) (l1 : Int) (l3 : Int) (s0 : Int) (s1 : Int) (h : HP) (E : X12_leansOf_L48 F  rc4 l0 l1 l3 s0 s1 h = some (r, hf)) : Go K MX12_leansOf (QM K (some (vi r)) hf) hf 48 [(0, vr (some l0)), (1, vi l1), (3, vi l3)] [vi s0, vi s1] h := by
  unfold X12_leansOf_L48 at E
  refine go_ior (n := 49) dX12_leansOf_48 rfl ?_
  refine go_istore_n (n := 50) (lv' := [(2, vi (xor_ s1 s0)), (0, vr (some l0)), (1, vi l1), (3, vi l3)]) rfl dX12_leansOf_49 rfl (Nat.le_of_ble_eq_true rfl) rfl ?_
  refine go_iinc (j := 3) (n := 53) (lv' := [(3, vi (w32 (l3 + 1))), (2, vi (xor_ s1 s0)), (0, vr (some l0)), (1, vi l1)]) rfl dX12_leansOf_50 rfl (Nat.le_of_ble_eq_true rfl) rfl ?_
  refine go_goto (tgt := 4) dX12_leansOf_53 rfl ?_
  refine go_pick (lv' := [(0, vr (some l0)), (1, vi l1), (2, vi (xor_ s1 s0)), (3, vi (w32 (l3 + 1)))]) [2, 3, 1, 0] rfl ?_
  exact hrc4 _ _ _ _ _ E
noncomputable def X12_leansOf_L47 (F : Nat)  (rc4 : Nat → Int → Int → Int → HP → Option (Int × HP)) (l0 : Nat) (l1 : Int) (l3 : Int) (s0 : Int) (h : HP) : Option (Int × HP) :=
  X12_leansOf_L48 F rc4 l0 l1 l3 0 s0 h
set_option maxRecDepth 100000 in
theorem SX12_leansOf_L47 {K : Ctx} {F : Nat} {r : Int} {hf : HP}   (rc4 : Nat → Int → Int → Int → HP → Option (Int × HP)) (hrc4 : ∀ l0 l1 l2 l3 h, rc4 l0 l1 l2 l3 h = some (r, hf) → Go K MX12_leansOf (QM K (some (vi r)) hf) hf 4 [(0, vr (some l0)), (1, vi l1), (2, vi l2), (3, vi l3)] [] h) (l0 : Nat) (l1 : Int) (l3 : Int) (s0 : Int) (h : HP) (E : X12_leansOf_L47 F  rc4 l0 l1 l3 s0 h = some (r, hf)) : Go K MX12_leansOf (QM K (some (vi r)) hf) hf 47 [(0, vr (some l0)), (1, vi l1), (3, vi l3)] [vi s0] h := by
  unfold X12_leansOf_L47 at E
  refine go_iconst (z := 0) (n := 48) ⟨by decide, by decide⟩ dX12_leansOf_47 rfl ?_
  exact SX12_leansOf_L48   _ hrc4 _ _ _ _ _ _ E
noncomputable def X12_leansOf_L4 (F : Nat)   (k : Nat) : Nat → Int → Int → Int → HP → Option (Int × HP) :=
  Nat.rec (motive := fun _ => Nat → Int → Int → Int → HP → Option (Int × HP)) (fun _ _ _ _ _ => none) (fun _ rc4 l0 l1 l2 l3 h =>
    (xgP h (some l0) 12 31 1).bind fun v1 =>
    (xaI h v1 100 8).bind fun v2 =>
    if v2 ≤ l3 then
      some (l2, h)
    else
      if l3 = l1 then
        X12_leansOf_L47 F rc4 l0 l1 l3 l2 h
      else
        (xrc h (some l0) 12 31).bind fun a7 =>
        xb (X12_bitsOf F a7 l1 17 h) fun v5 h6 =>
        (xrc h6 (some l0) 12 31).bind fun a10 =>
        xb (X12_bitsOf F a10 l3 19 h6) fun v8 h9 =>
        if (xcmp (yand v5 v8) 0) = 0 then
          X12_leansOf_L47 F rc4 l0 l1 l3 l2 h9
        else
          X12_leansOf_L48 F rc4 l0 l1 l3 (xshl 1 l3) l2 h9) k
theorem X12_leansOf_L4_s (F : Nat)   (k : Nat) (l0 : Nat) (l1 : Int) (l2 : Int) (l3 : Int)  (h : HP) : X12_leansOf_L4 F   (k + 1) l0 l1 l2 l3 h =
    (xgP h (some l0) 12 31 1).bind fun v1 =>
    (xaI h v1 100 8).bind fun v2 =>
    if v2 ≤ l3 then
      some (l2, h)
    else
      if l3 = l1 then
        X12_leansOf_L47 F (X12_leansOf_L4 F k) l0 l1 l3 l2 h
      else
        (xrc h (some l0) 12 31).bind fun a7 =>
        xb (X12_bitsOf F a7 l1 17 h) fun v5 h6 =>
        (xrc h6 (some l0) 12 31).bind fun a10 =>
        xb (X12_bitsOf F a10 l3 19 h6) fun v8 h9 =>
        if (xcmp (yand v5 v8) 0) = 0 then
          X12_leansOf_L47 F (X12_leansOf_L4 F k) l0 l1 l3 l2 h9
        else
          X12_leansOf_L48 F (X12_leansOf_L4 F k) l0 l1 l3 (xshl 1 l3) l2 h9 := rfl
set_option maxRecDepth 100000 in
theorem SX12_leansOf_L4 {K : Ctx} {F : Nat} {r : Int} {hf : HP}     : ∀ (k : Nat) (l0 : Nat) (l1 : Int) (l2 : Int) (l3 : Int)  (h : HP), X12_leansOf_L4 F   k l0 l1 l2 l3 h = some (r, hf) → Go K MX12_leansOf (QM K (some (vi r)) hf) hf 4 [(0, vr (some l0)), (1, vi l1), (2, vi l2), (3, vi l3)] [] h := by
  intro k
  induction k with
  | zero => intro l0 l1 l2 l3 h E; exact nomatch E
  | succ k hrc4 =>
    intro l0 l1 l2 l3 h E
    rw [X12_leansOf_L4_s] at E
    refine go_iload_n (j := 3) (n := 5) rfl rfl dX12_leansOf_4 rfl ?_
    refine go_aload_n (j := 0) (n := 6) rfl rfl dX12_leansOf_5 rfl ?_
    replace E := Option.bind_eq_some_iff.mp E; obtain ⟨v1, ev1, E⟩ := E
    refine go_getP (n := 9) ev1 fl_RX12_14 rfl dX12_leansOf_6 rfl ?_
    refine go_bipush (z := 8) (n := 11) ⟨by decide, by decide⟩ dX12_leansOf_9 rfl ?_
    replace E := Option.bind_eq_some_iff.mp E; obtain ⟨v2, ev2, E⟩ := E
    refine go_iaload (n := 12) ev2 dX12_leansOf_11 rfl ?_
    refine go_icmp_ge (tgt := 56) (n := 15) dX12_leansOf_12 rfl rfl (fun c3 => ?_) (fun c3 => ?_)
    · rw [if_pos c3] at E
      refine go_iload_n (j := 2) (n := 57) rfl rfl dX12_leansOf_56 rfl ?_
      cases E
      exact go_ireturn rfl dX12_leansOf_57
    · rw [if_neg c3] at E
      refine go_iload_n (j := 2) (n := 16) rfl rfl dX12_leansOf_15 rfl ?_
      refine go_iload_n (j := 3) (n := 17) rfl rfl dX12_leansOf_16 rfl ?_
      refine go_iload_n (j := 1) (n := 18) rfl rfl dX12_leansOf_17 rfl ?_
      refine go_icmp_eq (tgt := 47) (n := 21) dX12_leansOf_18 rfl rfl (fun c4 => ?_) (fun c4 => ?_)
      · rw [if_pos c4] at E
        refine go_pick (lv' := [(0, vr (some l0)), (1, vi l1), (3, vi l3)]) [0, 1, 3] rfl ?_
        exact SX12_leansOf_L47   _ hrc4 _ _ _ _ _ E
      · rw [if_neg c4] at E
        refine go_aload_n (j := 0) (n := 22) rfl rfl dX12_leansOf_21 rfl ?_
        refine go_iload_n (j := 1) (n := 23) rfl rfl dX12_leansOf_22 rfl ?_
        refine go_bipush (z := 17) (n := 25) ⟨by decide, by decide⟩ dX12_leansOf_23 rfl ?_
        replace E := Option.bind_eq_some_iff.mp E; obtain ⟨a7, ea7, E⟩ := E
        obtain ⟨fa7, ga7⟩ := xrc_some ea7
        replace E := xb_some E; obtain ⟨v5, h6, ev5, E⟩ := E
        refine go_callV (y := yX12_bitsOf) (n := 28) (st := [vi l2]) (as := [vi l1, vi 17]) (stk9 := [vl v5, vi l2]) (OX12_bitsOf ev5) yw_X12_bitsOf ci_12 ga7 wml_RX12_255 wim_X12_bitsOf wse_X12_bitsOf (Nat.le_of_ble_eq_true rfl) rfl ⟨Nat.le_of_ble_eq_true rfl, Nat.le_of_ble_eq_true rfl⟩ (Nat.le_of_ble_eq_true rfl) dX12_leansOf_25 rfl (by cases fa7; rfl) rfl ?_
        refine go_aload_n (j := 0) (n := 29) rfl rfl dX12_leansOf_28 rfl ?_
        refine go_iload_n (j := 3) (n := 30) rfl rfl dX12_leansOf_29 rfl ?_
        refine go_bipush (z := 19) (n := 32) ⟨by decide, by decide⟩ dX12_leansOf_30 rfl ?_
        replace E := Option.bind_eq_some_iff.mp E; obtain ⟨a10, ea10, E⟩ := E
        obtain ⟨fa10, ga10⟩ := xrc_some ea10
        replace E := xb_some E; obtain ⟨v8, h9, ev8, E⟩ := E
        refine go_callV (y := yX12_bitsOf) (n := 35) (st := [vl v5, vi l2]) (as := [vi l3, vi 19]) (stk9 := [vl v8, vl v5, vi l2]) (OX12_bitsOf ev8) yw_X12_bitsOf ci_12 ga10 wml_RX12_255 wim_X12_bitsOf wse_X12_bitsOf (Nat.le_of_ble_eq_true rfl) rfl ⟨Nat.le_of_ble_eq_true rfl, Nat.le_of_ble_eq_true rfl⟩ (Nat.le_of_ble_eq_true rfl) dX12_leansOf_32 rfl (by cases fa10; rfl) rfl ?_
        refine go_land (n := 36) dX12_leansOf_35 rfl ?_
        refine go_lconst (w := 0) (n := 37) rfl dX12_leansOf_36 rfl ?_
        refine go_lcmp (n := 38) dX12_leansOf_37 rfl ?_
        refine go_if_eq (tgt := 47) (n := 41) dX12_leansOf_38 rfl rfl (fun c11 => ?_) (fun c11 => ?_)
        · rw [if_pos c11] at E
          refine go_pick (lv' := [(0, vr (some l0)), (1, vi l1), (3, vi l3)]) [0, 1, 3] rfl ?_
          exact SX12_leansOf_L47   _ hrc4 _ _ _ _ _ E
        · rw [if_neg c11] at E
          refine go_iconst (z := 1) (n := 42) ⟨by decide, by decide⟩ dX12_leansOf_41 rfl ?_
          refine go_iload_n (j := 3) (n := 43) rfl rfl dX12_leansOf_42 rfl ?_
          refine go_ishl (n := 44) dX12_leansOf_43 rfl ?_
          refine go_goto (tgt := 48) dX12_leansOf_44 rfl ?_
          refine go_pick (lv' := [(0, vr (some l0)), (1, vi l1), (3, vi l3)]) [0, 1, 3] rfl ?_
          exact SX12_leansOf_L48   _ hrc4 _ _ _ _ _ _ E
noncomputable def X12_leansOf (F : Nat)   (l0 : Nat) (l1 : Int)  (h : HP) : Option (Int × HP) :=
  X12_leansOf_L4 F F l0 l1 0 0 h
set_option maxRecDepth 100000 in
theorem SX12_leansOf {K : Ctx} {F : Nat} {r : Int} {hf : HP}     (l0 : Nat) (l1 : Int)  (h : HP) (E : X12_leansOf F   l0 l1 h = some (r, hf)) : Go K MX12_leansOf (QM K (some (vi r)) hf) hf 0 [(0, vr (some l0)), (1, vi l1)] [] h := by
  unfold X12_leansOf at E
  refine go_iconst (z := 0) (n := 1) ⟨by decide, by decide⟩ dX12_leansOf_0 rfl ?_
  refine go_istore_n (n := 2) (lv' := [(2, vi 0), (0, vr (some l0)), (1, vi l1)]) rfl dX12_leansOf_1 rfl (Nat.le_of_ble_eq_true rfl) rfl ?_
  refine go_iconst (z := 0) (n := 3) ⟨by decide, by decide⟩ dX12_leansOf_2 rfl ?_
  refine go_istore_n (n := 4) (lv' := [(3, vi 0), (2, vi 0), (0, vr (some l0)), (1, vi l1)]) rfl dX12_leansOf_3 rfl (Nat.le_of_ble_eq_true rfl) rfl ?_
  refine go_pick (lv' := [(0, vr (some l0)), (1, vi l1), (2, vi 0), (3, vi 0)]) [2, 3, 1, 0] rfl ?_
  exact SX12_leansOf_L4     F _ _ _ _ _ E
theorem OX12_leansOf {F : Nat} {l0 : Nat} {l1 : Int} {h hf : HP} {r : Int} (e : X12_leansOf F l0 l1 h = some (r, hf)) : Ok MX12_leansOf [vr (some l0), vi l1] (some (vi r)) h hf := fun K _ _ _ => SX12_leansOf l0 l1 h e
theorem yw_X12_leansOf : YW yX12_leansOf cX12_leansOf 4 (some .int) 1 := ⟨bw_of 2082 (by decide +kernel) rfl, bw_of 129 (by decide +kernel) rfl, ⟨by decide +kernel, by decide +kernel, by decide +kernel⟩, by decide +kernel⟩
theorem wml_RX12_259 : Cond.methodLink RX12 259 yX12_leansOf ∈ BW := bw_of 2079 (by decide +kernel) rfl
theorem wim_X12_leansOf : Cond.instanceMethod yX12_leansOf ∈ BW := bw_of 2081 (by decide +kernel) rfl
theorem wse_X12_leansOf : Cond.selects RX12 yX12_leansOf yX12_leansOf ∈ BW := bw_of 89 (by decide +kernel) rfl
abbrev MX12_leans : MI := (RX12, cX12_leans, 2, (some .int), 6, none, "leans")
noncomputable def X12_leans (F : Nat)   (l0 : Nat) (l1 : Int)  (h : HP) : Option (Int × HP) :=
  (xpI h (some l0) 12 31 0 0).bind fun h1 =>
  (xrc h1 (some l0) 12 31).bind fun a4 =>
  xb (X12_noJob F a4 l1 h1) fun v2 h3 =>
  (xrc h3 (some l0) 12 31).bind fun a7 =>
  xb (X12_throwsIf F a7 v2 1 h3) fun v5 h6 =>
  if v5 = 0 then
    (xrc h6 (some l0) 12 31).bind fun a11 =>
    xb (X12_leansOf F a11 l1 h6) fun v9 h10 =>
    some (v9, h10)
  else
    some (0, h6)
set_option maxRecDepth 100000 in
theorem SX12_leans {K : Ctx} {F : Nat} {r : Int} {hf : HP}     (l0 : Nat) (l1 : Int)  (h : HP) (E : X12_leans F   l0 l1 h = some (r, hf)) : Go K MX12_leans (QM K (some (vi r)) hf) hf 0 [(0, vr (some l0)), (1, vi l1)] [] h := by
  unfold X12_leans at E
  refine go_aload_n (j := 0) (n := 1) rfl rfl dX12_leans_0 rfl ?_
  refine go_iconst (z := 0) (n := 2) ⟨by decide, by decide⟩ dX12_leans_1 rfl ?_
  replace E := Option.bind_eq_some_iff.mp E; obtain ⟨h1, eh1, E⟩ := E
  refine go_putI (n := 5) eh1 fl_RX12_3 rfl dX12_leans_2 rfl ?_
  refine go_aload_n (j := 0) (n := 6) rfl rfl dX12_leans_5 rfl ?_
  refine go_aload_n (j := 0) (n := 7) rfl rfl dX12_leans_6 rfl ?_
  refine go_iload_n (j := 1) (n := 8) rfl rfl dX12_leans_7 rfl ?_
  replace E := Option.bind_eq_some_iff.mp E; obtain ⟨a4, ea4, E⟩ := E
  obtain ⟨fa4, ga4⟩ := xrc_some ea4
  replace E := xb_some E; obtain ⟨v2, h3, ev2, E⟩ := E
  refine go_callV (y := yX12_noJob) (n := 11) (st := [vr (some l0)]) (as := [vi l1]) (stk9 := [vi v2, vr (some l0)]) (OX12_noJob ev2) yw_X12_noJob ci_12 ga4 wml_RX12_247 wim_X12_noJob wse_X12_noJob (Nat.le_of_ble_eq_true rfl) rfl ⟨Nat.le_of_ble_eq_true rfl, Nat.le_of_ble_eq_true rfl⟩ (Nat.le_of_ble_eq_true rfl) dX12_leans_8 rfl (by cases fa4; rfl) rfl ?_
  refine go_iconst (z := 1) (n := 12) ⟨by decide, by decide⟩ dX12_leans_11 rfl ?_
  replace E := Option.bind_eq_some_iff.mp E; obtain ⟨a7, ea7, E⟩ := E
  obtain ⟨fa7, ga7⟩ := xrc_some ea7
  replace E := xb_some E; obtain ⟨v5, h6, ev5, E⟩ := E
  refine go_callV (y := yX12_throwsIf) (n := 15) (st := []) (as := [vi v2, vi 1]) (stk9 := [vi v5]) (OX12_throwsIf ev5) yw_X12_throwsIf ci_12 ga7 wml_RX12_65 wim_X12_throwsIf wse_X12_throwsIf (Nat.le_of_ble_eq_true rfl) rfl ⟨Nat.le_of_ble_eq_true rfl, Nat.le_of_ble_eq_true rfl⟩ (Nat.le_of_ble_eq_true rfl) dX12_leans_12 rfl (by cases fa7; rfl) rfl ?_
  refine go_if_eq (tgt := 22) (n := 18) dX12_leans_15 rfl rfl (fun c8 => ?_) (fun c8 => ?_)
  · rw [if_pos c8] at E
    refine go_aload_n (j := 0) (n := 23) rfl rfl dX12_leans_22 rfl ?_
    refine go_iload_n (j := 1) (n := 24) rfl rfl dX12_leans_23 rfl ?_
    replace E := Option.bind_eq_some_iff.mp E; obtain ⟨a11, ea11, E⟩ := E
    obtain ⟨fa11, ga11⟩ := xrc_some ea11
    replace E := xb_some E; obtain ⟨v9, h10, ev9, E⟩ := E
    refine go_callV (y := yX12_leansOf) (n := 27) (st := []) (as := [vi l1]) (stk9 := [vi v9]) (OX12_leansOf ev9) yw_X12_leansOf ci_12 ga11 wml_RX12_259 wim_X12_leansOf wse_X12_leansOf (Nat.le_of_ble_eq_true rfl) rfl ⟨Nat.le_of_ble_eq_true rfl, Nat.le_of_ble_eq_true rfl⟩ (Nat.le_of_ble_eq_true rfl) dX12_leans_24 rfl (by cases fa11; rfl) rfl ?_
    cases E
    exact go_ireturn rfl dX12_leans_27
  · rw [if_neg c8] at E
    refine go_iconst (z := 0) (n := 19) ⟨by decide, by decide⟩ dX12_leans_18 rfl ?_
    refine go_goto (tgt := 27) dX12_leans_19 rfl ?_
    cases E
    exact go_ireturn rfl dX12_leans_27
theorem OX12_leans {F : Nat} {l0 : Nat} {l1 : Int} {h hf : HP} {r : Int} (e : X12_leans F l0 l1 h = some (r, hf)) : Ok MX12_leans [vr (some l0), vi l1] (some (vi r)) h hf := fun K _ _ _ => SX12_leans l0 l1 h e
abbrev MX12_quarrel : MI := (RX12, cX12_quarrel, 5, (some .int), 5, none, "quarrel")
noncomputable def X12_quarrel_L77 (F : Nat)  (rc9 : Nat → Int → Int → Int → HP → Option (Int × HP)) (rc25 : Nat → Int → Int → Int → Int → HP → Option (Int × HP)) (l0 : Nat) (l1 : Int) (l2 : Int) (l3 : Int) (l4 : Int)  (h : HP) : Option (Int × HP) :=
  rc25 l0 l1 l2 l3 (w32 (l4 + 1)) h
set_option maxRecDepth 100000 in
theorem SX12_quarrel_L77 {K : Ctx} {F : Nat} {r : Int} {hf : HP}   (rc9 : Nat → Int → Int → Int → HP → Option (Int × HP)) (rc25 : Nat → Int → Int → Int → Int → HP → Option (Int × HP)) (hrc9 : ∀ l0 l1 l2 l3 h, rc9 l0 l1 l2 l3 h = some (r, hf) → Go K MX12_quarrel (QM K (some (vi r)) hf) hf 9 [(0, vr (some l0)), (1, vi l1), (2, vi l2), (3, vi l3)] [] h) (hrc25 : ∀ l0 l1 l2 l3 l4 h, rc25 l0 l1 l2 l3 l4 h = some (r, hf) → Go K MX12_quarrel (QM K (some (vi r)) hf) hf 25 [(0, vr (some l0)), (1, vi l1), (2, vi l2), (3, vi l3), (4, vi l4)] [] h) (l0 : Nat) (l1 : Int) (l2 : Int) (l3 : Int) (l4 : Int)  (h : HP) (E : X12_quarrel_L77 F  rc9 rc25 l0 l1 l2 l3 l4 h = some (r, hf)) : Go K MX12_quarrel (QM K (some (vi r)) hf) hf 77 [(0, vr (some l0)), (1, vi l1), (2, vi l2), (3, vi l3), (4, vi l4)] [] h := by
  unfold X12_quarrel_L77 at E
  refine go_iinc (j := 4) (n := 80) (lv' := [(4, vi (w32 (l4 + 1))), (0, vr (some l0)), (1, vi l1), (2, vi l2), (3, vi l3)]) rfl dX12_quarrel_77 rfl (Nat.le_of_ble_eq_true rfl) rfl ?_
  refine go_goto (tgt := 25) dX12_quarrel_80 rfl ?_
  refine go_pick (lv' := [(0, vr (some l0)), (1, vi l1), (2, vi l2), (3, vi l3), (4, vi (w32 (l4 + 1)))]) [1, 2, 3, 4, 0] rfl ?_
  exact hrc25 _ _ _ _ _ _ E
noncomputable def X12_quarrel_L25 (F : Nat)  (rc9 : Nat → Int → Int → Int → HP → Option (Int × HP)) (k : Nat) : Nat → Int → Int → Int → Int → HP → Option (Int × HP) :=
  Nat.rec (motive := fun _ => Nat → Int → Int → Int → Int → HP → Option (Int × HP)) (fun _ _ _ _ _ _ => none) (fun _ rc25 l0 l1 l2 l3 l4 h =>
    (xgP h (some l0) 12 31 1).bind fun v1 =>
    (xaI h v1 100 8).bind fun v2 =>
    if v2 ≤ l4 then
      rc9 l0 l1 l2 (w32 (l3 + 1)) h
    else
      (xrc h (some l0) 12 31).bind fun a6 =>
      xb (X12_bitsOf F a6 l3 19 h) fun v4 h5 =>
      (xrc h5 (some l0) 12 31).bind fun a9 =>
      xb (X12_bitsOf F a9 l4 19 h5) fun v7 h8 =>
      if (xcmp (yand v4 v7) 0) = 0 then
        X12_quarrel_L77 F rc9 rc25 l0 l1 l2 l3 l4 h8
      else
        if l2 = l1 then
          some (w32 ((w32 (12 * l3)) + l4), h8)
        else
          X12_quarrel_L77 F rc9 rc25 l0 l1 (w32 (l2 + 1)) l3 l4 h8) k
theorem X12_quarrel_L25_s (F : Nat)  (rc9 : Nat → Int → Int → Int → HP → Option (Int × HP)) (k : Nat) (l0 : Nat) (l1 : Int) (l2 : Int) (l3 : Int) (l4 : Int)  (h : HP) : X12_quarrel_L25 F  rc9 (k + 1) l0 l1 l2 l3 l4 h =
    (xgP h (some l0) 12 31 1).bind fun v1 =>
    (xaI h v1 100 8).bind fun v2 =>
    if v2 ≤ l4 then
      rc9 l0 l1 l2 (w32 (l3 + 1)) h
    else
      (xrc h (some l0) 12 31).bind fun a6 =>
      xb (X12_bitsOf F a6 l3 19 h) fun v4 h5 =>
      (xrc h5 (some l0) 12 31).bind fun a9 =>
      xb (X12_bitsOf F a9 l4 19 h5) fun v7 h8 =>
      if (xcmp (yand v4 v7) 0) = 0 then
        X12_quarrel_L77 F rc9 (X12_quarrel_L25 F rc9 k) l0 l1 l2 l3 l4 h8
      else
        if l2 = l1 then
          some (w32 ((w32 (12 * l3)) + l4), h8)
        else
          X12_quarrel_L77 F rc9 (X12_quarrel_L25 F rc9 k) l0 l1 (w32 (l2 + 1)) l3 l4 h8 := rfl
set_option maxRecDepth 100000 in
theorem SX12_quarrel_L25 {K : Ctx} {F : Nat} {r : Int} {hf : HP}   (rc9 : Nat → Int → Int → Int → HP → Option (Int × HP)) (hrc9 : ∀ l0 l1 l2 l3 h, rc9 l0 l1 l2 l3 h = some (r, hf) → Go K MX12_quarrel (QM K (some (vi r)) hf) hf 9 [(0, vr (some l0)), (1, vi l1), (2, vi l2), (3, vi l3)] [] h) : ∀ (k : Nat) (l0 : Nat) (l1 : Int) (l2 : Int) (l3 : Int) (l4 : Int)  (h : HP), X12_quarrel_L25 F  rc9 k l0 l1 l2 l3 l4 h = some (r, hf) → Go K MX12_quarrel (QM K (some (vi r)) hf) hf 25 [(0, vr (some l0)), (1, vi l1), (2, vi l2), (3, vi l3), (4, vi l4)] [] h := by
  intro k
  induction k with
  | zero => intro l0 l1 l2 l3 l4 h E; exact nomatch E
  | succ k hrc25 =>
    intro l0 l1 l2 l3 l4 h E
    rw [X12_quarrel_L25_s] at E
    refine go_iload (j := 4) (n := 27) rfl dX12_quarrel_25 rfl ?_
    refine go_aload_n (j := 0) (n := 28) rfl rfl dX12_quarrel_27 rfl ?_
    replace E := Option.bind_eq_some_iff.mp E; obtain ⟨v1, ev1, E⟩ := E
    refine go_getP (n := 31) ev1 fl_RX12_14 rfl dX12_quarrel_28 rfl ?_
    refine go_bipush (z := 8) (n := 33) ⟨by decide, by decide⟩ dX12_quarrel_31 rfl ?_
    replace E := Option.bind_eq_some_iff.mp E; obtain ⟨v2, ev2, E⟩ := E
    refine go_iaload (n := 34) ev2 dX12_quarrel_33 rfl ?_
    refine go_icmp_ge (tgt := 83) (n := 37) dX12_quarrel_34 rfl rfl (fun c3 => ?_) (fun c3 => ?_)
    · rw [if_pos c3] at E
      refine go_iinc (j := 3) (n := 86) (lv' := [(3, vi (w32 (l3 + 1))), (0, vr (some l0)), (1, vi l1), (2, vi l2), (4, vi l4)]) rfl dX12_quarrel_83 rfl (Nat.le_of_ble_eq_true rfl) rfl ?_
      refine go_goto (tgt := 9) dX12_quarrel_86 rfl ?_
      refine go_pick (lv' := [(0, vr (some l0)), (1, vi l1), (2, vi l2), (3, vi (w32 (l3 + 1)))]) [1, 2, 3, 0] rfl ?_
      exact hrc9 _ _ _ _ _ E
    · rw [if_neg c3] at E
      refine go_aload_n (j := 0) (n := 38) rfl rfl dX12_quarrel_37 rfl ?_
      refine go_iload_n (j := 3) (n := 39) rfl rfl dX12_quarrel_38 rfl ?_
      refine go_bipush (z := 19) (n := 41) ⟨by decide, by decide⟩ dX12_quarrel_39 rfl ?_
      replace E := Option.bind_eq_some_iff.mp E; obtain ⟨a6, ea6, E⟩ := E
      obtain ⟨fa6, ga6⟩ := xrc_some ea6
      replace E := xb_some E; obtain ⟨v4, h5, ev4, E⟩ := E
      refine go_callV (y := yX12_bitsOf) (n := 44) (st := []) (as := [vi l3, vi 19]) (stk9 := [vl v4]) (OX12_bitsOf ev4) yw_X12_bitsOf ci_12 ga6 wml_RX12_255 wim_X12_bitsOf wse_X12_bitsOf (Nat.le_of_ble_eq_true rfl) rfl ⟨Nat.le_of_ble_eq_true rfl, Nat.le_of_ble_eq_true rfl⟩ (Nat.le_of_ble_eq_true rfl) dX12_quarrel_41 rfl (by cases fa6; rfl) rfl ?_
      refine go_aload_n (j := 0) (n := 45) rfl rfl dX12_quarrel_44 rfl ?_
      refine go_iload (j := 4) (n := 47) rfl dX12_quarrel_45 rfl ?_
      refine go_bipush (z := 19) (n := 49) ⟨by decide, by decide⟩ dX12_quarrel_47 rfl ?_
      replace E := Option.bind_eq_some_iff.mp E; obtain ⟨a9, ea9, E⟩ := E
      obtain ⟨fa9, ga9⟩ := xrc_some ea9
      replace E := xb_some E; obtain ⟨v7, h8, ev7, E⟩ := E
      refine go_callV (y := yX12_bitsOf) (n := 52) (st := [vl v4]) (as := [vi l4, vi 19]) (stk9 := [vl v7, vl v4]) (OX12_bitsOf ev7) yw_X12_bitsOf ci_12 ga9 wml_RX12_255 wim_X12_bitsOf wse_X12_bitsOf (Nat.le_of_ble_eq_true rfl) rfl ⟨Nat.le_of_ble_eq_true rfl, Nat.le_of_ble_eq_true rfl⟩ (Nat.le_of_ble_eq_true rfl) dX12_quarrel_49 rfl (by cases fa9; rfl) rfl ?_
      refine go_land (n := 53) dX12_quarrel_52 rfl ?_
      refine go_lconst (w := 0) (n := 54) rfl dX12_quarrel_53 rfl ?_
      refine go_lcmp (n := 55) dX12_quarrel_54 rfl ?_
      refine go_if_ne (tgt := 61) (n := 58) dX12_quarrel_55 rfl rfl (fun c10 => ?_) (fun c10 => ?_)
      · rw [if_neg c10] at E
        refine go_iload_n (j := 2) (n := 62) rfl rfl dX12_quarrel_61 rfl ?_
        refine go_iload_n (j := 1) (n := 63) rfl rfl dX12_quarrel_62 rfl ?_
        refine go_icmp_ne (tgt := 74) (n := 66) dX12_quarrel_63 rfl rfl (fun c11 => ?_) (fun c11 => ?_)
        · rw [if_neg c11] at E
          refine go_iinc (j := 2) (n := 77) (lv' := [(2, vi (w32 (l2 + 1))), (0, vr (some l0)), (1, vi l1), (3, vi l3), (4, vi l4)]) rfl dX12_quarrel_74 rfl (Nat.le_of_ble_eq_true rfl) rfl ?_
          refine go_pick (lv' := [(0, vr (some l0)), (1, vi l1), (2, vi (w32 (l2 + 1))), (3, vi l3), (4, vi l4)]) [1, 2, 0, 3, 4] rfl ?_
          exact SX12_quarrel_L77   _ _ hrc9 hrc25 _ _ _ _ _  _ E
        · rw [if_pos c11] at E
          refine go_bipush (z := 12) (n := 68) ⟨by decide, by decide⟩ dX12_quarrel_66 rfl ?_
          refine go_iload_n (j := 3) (n := 69) rfl rfl dX12_quarrel_68 rfl ?_
          refine go_imul (n := 70) dX12_quarrel_69 rfl ?_
          refine go_iload (j := 4) (n := 72) rfl dX12_quarrel_70 rfl ?_
          refine go_iadd (n := 73) dX12_quarrel_72 rfl ?_
          cases E
          exact go_ireturn rfl dX12_quarrel_73
      · rw [if_pos c10] at E
        refine go_goto (tgt := 77) dX12_quarrel_58 rfl ?_
        exact SX12_quarrel_L77   _ _ hrc9 hrc25 _ _ _ _ _  _ E
noncomputable def X12_quarrel_L9 (F : Nat)   (k : Nat) : Nat → Int → Int → Int → HP → Option (Int × HP) :=
  Nat.rec (motive := fun _ => Nat → Int → Int → Int → HP → Option (Int × HP)) (fun _ _ _ _ _ => none) (fun _ rc9 l0 l1 l2 l3 h =>
    (xgP h (some l0) 12 31 1).bind fun v1 =>
    (xaI h v1 100 8).bind fun v2 =>
    if v2 ≤ l3 then
      some ((-1), h)
    else
      X12_quarrel_L25 F rc9 F l0 l1 l2 l3 (w32 (l3 + 1)) h) k
theorem X12_quarrel_L9_s (F : Nat)   (k : Nat) (l0 : Nat) (l1 : Int) (l2 : Int) (l3 : Int)  (h : HP) : X12_quarrel_L9 F   (k + 1) l0 l1 l2 l3 h =
    (xgP h (some l0) 12 31 1).bind fun v1 =>
    (xaI h v1 100 8).bind fun v2 =>
    if v2 ≤ l3 then
      some ((-1), h)
    else
      X12_quarrel_L25 F (X12_quarrel_L9 F k) F l0 l1 l2 l3 (w32 (l3 + 1)) h := rfl
set_option maxRecDepth 100000 in
theorem SX12_quarrel_L9 {K : Ctx} {F : Nat} {r : Int} {hf : HP}     : ∀ (k : Nat) (l0 : Nat) (l1 : Int) (l2 : Int) (l3 : Int)  (h : HP), X12_quarrel_L9 F   k l0 l1 l2 l3 h = some (r, hf) → Go K MX12_quarrel (QM K (some (vi r)) hf) hf 9 [(0, vr (some l0)), (1, vi l1), (2, vi l2), (3, vi l3)] [] h := by
  intro k
  induction k with
  | zero => intro l0 l1 l2 l3 h E; exact nomatch E
  | succ k hrc9 =>
    intro l0 l1 l2 l3 h E
    rw [X12_quarrel_L9_s] at E
    refine go_iload_n (j := 3) (n := 10) rfl rfl dX12_quarrel_9 rfl ?_
    refine go_aload_n (j := 0) (n := 11) rfl rfl dX12_quarrel_10 rfl ?_
    replace E := Option.bind_eq_some_iff.mp E; obtain ⟨v1, ev1, E⟩ := E
    refine go_getP (n := 14) ev1 fl_RX12_14 rfl dX12_quarrel_11 rfl ?_
    refine go_bipush (z := 8) (n := 16) ⟨by decide, by decide⟩ dX12_quarrel_14 rfl ?_
    replace E := Option.bind_eq_some_iff.mp E; obtain ⟨v2, ev2, E⟩ := E
    refine go_iaload (n := 17) ev2 dX12_quarrel_16 rfl ?_
    refine go_icmp_ge (tgt := 89) (n := 20) dX12_quarrel_17 rfl rfl (fun c3 => ?_) (fun c3 => ?_)
    · rw [if_pos c3] at E
      refine go_iconst (z := (-1)) (n := 90) ⟨by decide, by decide⟩ dX12_quarrel_89 rfl ?_
      cases E
      exact go_ireturn rfl dX12_quarrel_90
    · rw [if_neg c3] at E
      refine go_iload_n (j := 3) (n := 21) rfl rfl dX12_quarrel_20 rfl ?_
      refine go_iconst (z := 1) (n := 22) ⟨by decide, by decide⟩ dX12_quarrel_21 rfl ?_
      refine go_iadd (n := 23) dX12_quarrel_22 rfl ?_
      refine go_istore (n := 25) (lv' := [(4, vi (w32 (l3 + 1))), (0, vr (some l0)), (1, vi l1), (2, vi l2), (3, vi l3)]) dX12_quarrel_23 rfl (Nat.le_of_ble_eq_true rfl) rfl ?_
      refine go_pick (lv' := [(0, vr (some l0)), (1, vi l1), (2, vi l2), (3, vi l3), (4, vi (w32 (l3 + 1)))]) [1, 2, 3, 4, 0] rfl ?_
      exact SX12_quarrel_L25   _ hrc9 F _ _ _ _ _ _ E
noncomputable def X12_quarrel (F : Nat)   (l0 : Nat) (l1 : Int)  (h : HP) : Option (Int × HP) :=
  (xpI h (some l0) 12 31 0 0).bind fun h1 =>
  X12_quarrel_L9 F F l0 l1 0 0 h1
set_option maxRecDepth 100000 in
theorem SX12_quarrel {K : Ctx} {F : Nat} {r : Int} {hf : HP}     (l0 : Nat) (l1 : Int)  (h : HP) (E : X12_quarrel F   l0 l1 h = some (r, hf)) : Go K MX12_quarrel (QM K (some (vi r)) hf) hf 0 [(0, vr (some l0)), (1, vi l1)] [] h := by
  unfold X12_quarrel at E
  refine go_aload_n (j := 0) (n := 1) rfl rfl dX12_quarrel_0 rfl ?_
  refine go_iconst (z := 0) (n := 2) ⟨by decide, by decide⟩ dX12_quarrel_1 rfl ?_
  replace E := Option.bind_eq_some_iff.mp E; obtain ⟨h1, eh1, E⟩ := E
  refine go_putI (n := 5) eh1 fl_RX12_3 rfl dX12_quarrel_2 rfl ?_
  refine go_iconst (z := 0) (n := 6) ⟨by decide, by decide⟩ dX12_quarrel_5 rfl ?_
  refine go_istore_n (n := 7) (lv' := [(2, vi 0), (0, vr (some l0)), (1, vi l1)]) rfl dX12_quarrel_6 rfl (Nat.le_of_ble_eq_true rfl) rfl ?_
  refine go_iconst (z := 0) (n := 8) ⟨by decide, by decide⟩ dX12_quarrel_7 rfl ?_
  refine go_istore_n (n := 9) (lv' := [(3, vi 0), (2, vi 0), (0, vr (some l0)), (1, vi l1)]) rfl dX12_quarrel_8 rfl (Nat.le_of_ble_eq_true rfl) rfl ?_
  refine go_pick (lv' := [(0, vr (some l0)), (1, vi l1), (2, vi 0), (3, vi 0)]) [2, 3, 1, 0] rfl ?_
  exact SX12_quarrel_L9     F _ _ _ _ _ E
theorem OX12_quarrel {F : Nat} {l0 : Nat} {l1 : Int} {h hf : HP} {r : Int} (e : X12_quarrel F l0 l1 h = some (r, hf)) : Ok MX12_quarrel [vr (some l0), vi l1] (some (vi r)) h hf := fun K _ _ _ => SX12_quarrel l0 l1 h e
theorem fl_RX12_34 : FL RX12 34 12 31 16 true := ⟨RX12, TX12, ci_12, by decide, bw_of 1769 (by decide +kernel) rfl, rfl, rfl⟩
abbrev MX12_orders : MI := (RX12, cX12_orders, 4, (some .boolean), 6, none, "orders")
noncomputable def X12_orders_L55 (F : Nat)  (rc4 : Nat → Int → Int → HP → Option (Int × HP)) (l0 : Nat) (l1 : Int) (l2 : Int) (l3 : Int)  (h : HP) : Option (Int × HP) :=
  (xgP h (some l0) 12 31 1).bind fun v1 =>
  (xaI h v1 100 8).bind fun v2 =>
  if l3 = v2 then
    some (0, h)
  else
    (xgP h (some l0) 12 31 16).bind fun v4 =>
    (xsI h v4 l2 l3).bind fun h5 =>
    rc4 l0 (xor_ l1 (xshl 1 l3)) (w32 (l2 + 1)) h5
set_option maxRecDepth 100000 in
theorem SX12_orders_L55 {K : Ctx} {F : Nat} {r : Int} {hf : HP}   (rc4 : Nat → Int → Int → HP → Option (Int × HP)) (hrc4 : ∀ l0 l1 l2 h, rc4 l0 l1 l2 h = some (r, hf) → Go K MX12_orders (QM K (some (vi r)) hf) hf 4 [(0, vr (some l0)), (1, vi l1), (2, vi l2)] [] h) (l0 : Nat) (l1 : Int) (l2 : Int) (l3 : Int)  (h : HP) (E : X12_orders_L55 F  rc4 l0 l1 l2 l3 h = some (r, hf)) : Go K MX12_orders (QM K (some (vi r)) hf) hf 55 [(0, vr (some l0)), (1, vi l1), (2, vi l2), (3, vi l3)] [] h := by
  unfold X12_orders_L55 at E
  refine go_iload_n (j := 3) (n := 56) rfl rfl dX12_orders_55 rfl ?_
  refine go_aload_n (j := 0) (n := 57) rfl rfl dX12_orders_56 rfl ?_
  replace E := Option.bind_eq_some_iff.mp E; obtain ⟨v1, ev1, E⟩ := E
  refine go_getP (n := 60) ev1 fl_RX12_14 rfl dX12_orders_57 rfl ?_
  refine go_bipush (z := 8) (n := 62) ⟨by decide, by decide⟩ dX12_orders_60 rfl ?_
  replace E := Option.bind_eq_some_iff.mp E; obtain ⟨v2, ev2, E⟩ := E
  refine go_iaload (n := 63) ev2 dX12_orders_62 rfl ?_
  refine go_icmp_ne (tgt := 68) (n := 66) dX12_orders_63 rfl rfl (fun c3 => ?_) (fun c3 => ?_)
  · rw [if_neg c3] at E
    refine go_aload_n (j := 0) (n := 69) rfl rfl dX12_orders_68 rfl ?_
    replace E := Option.bind_eq_some_iff.mp E; obtain ⟨v4, ev4, E⟩ := E
    refine go_getP (n := 72) ev4 fl_RX12_34 rfl dX12_orders_69 rfl ?_
    refine go_iload_n (j := 2) (n := 73) rfl rfl dX12_orders_72 rfl ?_
    refine go_iload_n (j := 3) (n := 74) rfl rfl dX12_orders_73 rfl ?_
    replace E := Option.bind_eq_some_iff.mp E; obtain ⟨h5, eh5, E⟩ := E
    refine go_iastore (n := 75) eh5 dX12_orders_74 rfl ?_
    refine go_iload_n (j := 1) (n := 76) rfl rfl dX12_orders_75 rfl ?_
    refine go_iconst (z := 1) (n := 77) ⟨by decide, by decide⟩ dX12_orders_76 rfl ?_
    refine go_iload_n (j := 3) (n := 78) rfl rfl dX12_orders_77 rfl ?_
    refine go_ishl (n := 79) dX12_orders_78 rfl ?_
    refine go_ior (n := 80) dX12_orders_79 rfl ?_
    refine go_istore_n (n := 81) (lv' := [(1, vi (xor_ l1 (xshl 1 l3))), (0, vr (some l0)), (2, vi l2), (3, vi l3)]) rfl dX12_orders_80 rfl (Nat.le_of_ble_eq_true rfl) rfl ?_
    refine go_iinc (j := 2) (n := 84) (lv' := [(2, vi (w32 (l2 + 1))), (1, vi (xor_ l1 (xshl 1 l3))), (0, vr (some l0)), (3, vi l3)]) rfl dX12_orders_81 rfl (Nat.le_of_ble_eq_true rfl) rfl ?_
    refine go_goto (tgt := 4) dX12_orders_84 rfl ?_
    refine go_pick (lv' := [(0, vr (some l0)), (1, vi (xor_ l1 (xshl 1 l3))), (2, vi (w32 (l2 + 1)))]) [2, 1, 0] rfl ?_
    exact hrc4 _ _ _ _ E
  · rw [if_pos c3] at E
    refine go_iconst (z := 0) (n := 67) ⟨by decide, by decide⟩ dX12_orders_66 rfl ?_
    cases E
    exact go_zreturn rfl (Or.inl rfl) dX12_orders_67
noncomputable def X12_orders_L49 (F : Nat)  (rc4 : Nat → Int → Int → HP → Option (Int × HP)) (rc17 : Nat → Int → Int → Int → HP → Option (Int × HP)) (l0 : Nat) (l1 : Int) (l2 : Int) (l3 : Int)  (h : HP) : Option (Int × HP) :=
  rc17 l0 l1 l2 (w32 (l3 + 1)) h
set_option maxRecDepth 100000 in
theorem SX12_orders_L49 {K : Ctx} {F : Nat} {r : Int} {hf : HP}   (rc4 : Nat → Int → Int → HP → Option (Int × HP)) (rc17 : Nat → Int → Int → Int → HP → Option (Int × HP)) (hrc4 : ∀ l0 l1 l2 h, rc4 l0 l1 l2 h = some (r, hf) → Go K MX12_orders (QM K (some (vi r)) hf) hf 4 [(0, vr (some l0)), (1, vi l1), (2, vi l2)] [] h) (hrc17 : ∀ l0 l1 l2 l3 h, rc17 l0 l1 l2 l3 h = some (r, hf) → Go K MX12_orders (QM K (some (vi r)) hf) hf 17 [(0, vr (some l0)), (1, vi l1), (2, vi l2), (3, vi l3)] [] h) (l0 : Nat) (l1 : Int) (l2 : Int) (l3 : Int)  (h : HP) (E : X12_orders_L49 F  rc4 rc17 l0 l1 l2 l3 h = some (r, hf)) : Go K MX12_orders (QM K (some (vi r)) hf) hf 49 [(0, vr (some l0)), (1, vi l1), (2, vi l2), (3, vi l3)] [] h := by
  unfold X12_orders_L49 at E
  refine go_iinc (j := 3) (n := 52) (lv' := [(3, vi (w32 (l3 + 1))), (0, vr (some l0)), (1, vi l1), (2, vi l2)]) rfl dX12_orders_49 rfl (Nat.le_of_ble_eq_true rfl) rfl ?_
  refine go_goto (tgt := 17) dX12_orders_52 rfl ?_
  refine go_pick (lv' := [(0, vr (some l0)), (1, vi l1), (2, vi l2), (3, vi (w32 (l3 + 1)))]) [1, 2, 3, 0] rfl ?_
  exact hrc17 _ _ _ _ _ E
noncomputable def X12_orders_L17 (F : Nat)  (rc4 : Nat → Int → Int → HP → Option (Int × HP)) (k : Nat) : Nat → Int → Int → Int → HP → Option (Int × HP) :=
  Nat.rec (motive := fun _ => Nat → Int → Int → Int → HP → Option (Int × HP)) (fun _ _ _ _ _ => none) (fun _ rc17 l0 l1 l2 l3 h =>
    (xgP h (some l0) 12 31 1).bind fun v1 =>
    (xaI h v1 100 8).bind fun v2 =>
    if v2 ≤ l3 then
      X12_orders_L55 F rc4 l0 l1 l2 l3 h
    else
      if (xand (xshr l1 l3) 1) = 1 then
        X12_orders_L49 F rc4 rc17 l0 l1 l2 l3 h
      else
        (xrc h (some l0) 12 31).bind fun a7 =>
        xb (X12_leansOf F a7 l3 h) fun v5 h6 =>
        if (xand v5 (xxor l1 (-1))) = 0 then
          X12_orders_L55 F rc4 l0 l1 l2 l3 h6
        else
          X12_orders_L49 F rc4 rc17 l0 l1 l2 l3 h6) k
theorem X12_orders_L17_s (F : Nat)  (rc4 : Nat → Int → Int → HP → Option (Int × HP)) (k : Nat) (l0 : Nat) (l1 : Int) (l2 : Int) (l3 : Int)  (h : HP) : X12_orders_L17 F  rc4 (k + 1) l0 l1 l2 l3 h =
    (xgP h (some l0) 12 31 1).bind fun v1 =>
    (xaI h v1 100 8).bind fun v2 =>
    if v2 ≤ l3 then
      X12_orders_L55 F rc4 l0 l1 l2 l3 h
    else
      if (xand (xshr l1 l3) 1) = 1 then
        X12_orders_L49 F rc4 (X12_orders_L17 F rc4 k) l0 l1 l2 l3 h
      else
        (xrc h (some l0) 12 31).bind fun a7 =>
        xb (X12_leansOf F a7 l3 h) fun v5 h6 =>
        if (xand v5 (xxor l1 (-1))) = 0 then
          X12_orders_L55 F rc4 l0 l1 l2 l3 h6
        else
          X12_orders_L49 F rc4 (X12_orders_L17 F rc4 k) l0 l1 l2 l3 h6 := rfl
set_option maxRecDepth 100000 in
theorem SX12_orders_L17 {K : Ctx} {F : Nat} {r : Int} {hf : HP}   (rc4 : Nat → Int → Int → HP → Option (Int × HP)) (hrc4 : ∀ l0 l1 l2 h, rc4 l0 l1 l2 h = some (r, hf) → Go K MX12_orders (QM K (some (vi r)) hf) hf 4 [(0, vr (some l0)), (1, vi l1), (2, vi l2)] [] h) : ∀ (k : Nat) (l0 : Nat) (l1 : Int) (l2 : Int) (l3 : Int)  (h : HP), X12_orders_L17 F  rc4 k l0 l1 l2 l3 h = some (r, hf) → Go K MX12_orders (QM K (some (vi r)) hf) hf 17 [(0, vr (some l0)), (1, vi l1), (2, vi l2), (3, vi l3)] [] h := by
  intro k
  induction k with
  | zero => intro l0 l1 l2 l3 h E; exact nomatch E
  | succ k hrc17 =>
    intro l0 l1 l2 l3 h E
    rw [X12_orders_L17_s] at E
    refine go_iload_n (j := 3) (n := 18) rfl rfl dX12_orders_17 rfl ?_
    refine go_aload_n (j := 0) (n := 19) rfl rfl dX12_orders_18 rfl ?_
    replace E := Option.bind_eq_some_iff.mp E; obtain ⟨v1, ev1, E⟩ := E
    refine go_getP (n := 22) ev1 fl_RX12_14 rfl dX12_orders_19 rfl ?_
    refine go_bipush (z := 8) (n := 24) ⟨by decide, by decide⟩ dX12_orders_22 rfl ?_
    replace E := Option.bind_eq_some_iff.mp E; obtain ⟨v2, ev2, E⟩ := E
    refine go_iaload (n := 25) ev2 dX12_orders_24 rfl ?_
    refine go_icmp_ge (tgt := 55) (n := 28) dX12_orders_25 rfl rfl (fun c3 => ?_) (fun c3 => ?_)
    · rw [if_pos c3] at E
      exact SX12_orders_L55   _ hrc4 _ _ _ _  _ E
    · rw [if_neg c3] at E
      refine go_iload_n (j := 1) (n := 29) rfl rfl dX12_orders_28 rfl ?_
      refine go_iload_n (j := 3) (n := 30) rfl rfl dX12_orders_29 rfl ?_
      refine go_ishr (n := 31) dX12_orders_30 rfl ?_
      refine go_iconst (z := 1) (n := 32) ⟨by decide, by decide⟩ dX12_orders_31 rfl ?_
      refine go_iand (n := 33) dX12_orders_32 rfl ?_
      refine go_iconst (z := 1) (n := 34) ⟨by decide, by decide⟩ dX12_orders_33 rfl ?_
      refine go_icmp_eq (tgt := 49) (n := 37) dX12_orders_34 rfl rfl (fun c4 => ?_) (fun c4 => ?_)
      · rw [if_pos c4] at E
        exact SX12_orders_L49   _ _ hrc4 hrc17 _ _ _ _  _ E
      · rw [if_neg c4] at E
        refine go_aload_n (j := 0) (n := 38) rfl rfl dX12_orders_37 rfl ?_
        refine go_iload_n (j := 3) (n := 39) rfl rfl dX12_orders_38 rfl ?_
        replace E := Option.bind_eq_some_iff.mp E; obtain ⟨a7, ea7, E⟩ := E
        obtain ⟨fa7, ga7⟩ := xrc_some ea7
        replace E := xb_some E; obtain ⟨v5, h6, ev5, E⟩ := E
        refine go_callV (y := yX12_leansOf) (n := 42) (st := []) (as := [vi l3]) (stk9 := [vi v5]) (OX12_leansOf ev5) yw_X12_leansOf ci_12 ga7 wml_RX12_259 wim_X12_leansOf wse_X12_leansOf (Nat.le_of_ble_eq_true rfl) rfl ⟨Nat.le_of_ble_eq_true rfl, Nat.le_of_ble_eq_true rfl⟩ (Nat.le_of_ble_eq_true rfl) dX12_orders_39 rfl (by cases fa7; rfl) rfl ?_
        refine go_iload_n (j := 1) (n := 43) rfl rfl dX12_orders_42 rfl ?_
        refine go_iconst (z := (-1)) (n := 44) ⟨by decide, by decide⟩ dX12_orders_43 rfl ?_
        refine go_ixor (n := 45) dX12_orders_44 rfl ?_
        refine go_iand (n := 46) dX12_orders_45 rfl ?_
        refine go_if_eq (tgt := 55) (n := 49) dX12_orders_46 rfl rfl (fun c8 => ?_) (fun c8 => ?_)
        · rw [if_pos c8] at E
          exact SX12_orders_L55   _ hrc4 _ _ _ _  _ E
        · rw [if_neg c8] at E
          exact SX12_orders_L49   _ _ hrc4 hrc17 _ _ _ _  _ E
noncomputable def X12_orders_L4 (F : Nat)   (k : Nat) : Nat → Int → Int → HP → Option (Int × HP) :=
  Nat.rec (motive := fun _ => Nat → Int → Int → HP → Option (Int × HP)) (fun _ _ _ _ => none) (fun _ rc4 l0 l1 l2 h =>
    (xgP h (some l0) 12 31 1).bind fun v1 =>
    (xaI h v1 100 8).bind fun v2 =>
    if v2 ≤ l2 then
      some (1, h)
    else
      X12_orders_L17 F rc4 F l0 l1 l2 0 h) k
theorem X12_orders_L4_s (F : Nat)   (k : Nat) (l0 : Nat) (l1 : Int) (l2 : Int)  (h : HP) : X12_orders_L4 F   (k + 1) l0 l1 l2 h =
    (xgP h (some l0) 12 31 1).bind fun v1 =>
    (xaI h v1 100 8).bind fun v2 =>
    if v2 ≤ l2 then
      some (1, h)
    else
      X12_orders_L17 F (X12_orders_L4 F k) F l0 l1 l2 0 h := rfl
set_option maxRecDepth 100000 in
theorem SX12_orders_L4 {K : Ctx} {F : Nat} {r : Int} {hf : HP}     : ∀ (k : Nat) (l0 : Nat) (l1 : Int) (l2 : Int)  (h : HP), X12_orders_L4 F   k l0 l1 l2 h = some (r, hf) → Go K MX12_orders (QM K (some (vi r)) hf) hf 4 [(0, vr (some l0)), (1, vi l1), (2, vi l2)] [] h := by
  intro k
  induction k with
  | zero => intro l0 l1 l2 h E; exact nomatch E
  | succ k hrc4 =>
    intro l0 l1 l2 h E
    rw [X12_orders_L4_s] at E
    refine go_iload_n (j := 2) (n := 5) rfl rfl dX12_orders_4 rfl ?_
    refine go_aload_n (j := 0) (n := 6) rfl rfl dX12_orders_5 rfl ?_
    replace E := Option.bind_eq_some_iff.mp E; obtain ⟨v1, ev1, E⟩ := E
    refine go_getP (n := 9) ev1 fl_RX12_14 rfl dX12_orders_6 rfl ?_
    refine go_bipush (z := 8) (n := 11) ⟨by decide, by decide⟩ dX12_orders_9 rfl ?_
    replace E := Option.bind_eq_some_iff.mp E; obtain ⟨v2, ev2, E⟩ := E
    refine go_iaload (n := 12) ev2 dX12_orders_11 rfl ?_
    refine go_icmp_ge (tgt := 87) (n := 15) dX12_orders_12 rfl rfl (fun c3 => ?_) (fun c3 => ?_)
    · rw [if_pos c3] at E
      refine go_iconst (z := 1) (n := 88) ⟨by decide, by decide⟩ dX12_orders_87 rfl ?_
      cases E
      exact go_zreturn rfl (Or.inr rfl) dX12_orders_88
    · rw [if_neg c3] at E
      refine go_iconst (z := 0) (n := 16) ⟨by decide, by decide⟩ dX12_orders_15 rfl ?_
      refine go_istore_n (n := 17) (lv' := [(3, vi 0), (0, vr (some l0)), (1, vi l1), (2, vi l2)]) rfl dX12_orders_16 rfl (Nat.le_of_ble_eq_true rfl) rfl ?_
      refine go_pick (lv' := [(0, vr (some l0)), (1, vi l1), (2, vi l2), (3, vi 0)]) [1, 2, 3, 0] rfl ?_
      exact SX12_orders_L17   _ hrc4 F _ _ _ _ _ E
noncomputable def X12_orders (F : Nat)   (l0 : Nat)  (h : HP) : Option (Int × HP) :=
  X12_orders_L4 F F l0 0 0 h
set_option maxRecDepth 100000 in
theorem SX12_orders {K : Ctx} {F : Nat} {r : Int} {hf : HP}     (l0 : Nat)  (h : HP) (E : X12_orders F   l0 h = some (r, hf)) : Go K MX12_orders (QM K (some (vi r)) hf) hf 0 [(0, vr (some l0))] [] h := by
  unfold X12_orders at E
  refine go_iconst (z := 0) (n := 1) ⟨by decide, by decide⟩ dX12_orders_0 rfl ?_
  refine go_istore_n (n := 2) (lv' := [(1, vi 0), (0, vr (some l0))]) rfl dX12_orders_1 rfl (Nat.le_of_ble_eq_true rfl) rfl ?_
  refine go_iconst (z := 0) (n := 3) ⟨by decide, by decide⟩ dX12_orders_2 rfl ?_
  refine go_istore_n (n := 4) (lv' := [(2, vi 0), (1, vi 0), (0, vr (some l0))]) rfl dX12_orders_3 rfl (Nat.le_of_ble_eq_true rfl) rfl ?_
  refine go_pick (lv' := [(0, vr (some l0)), (1, vi 0), (2, vi 0)]) [2, 1, 0] rfl ?_
  exact SX12_orders_L4     F _ _ _ _ E
theorem OX12_orders {F : Nat} {l0 : Nat} {h hf : HP} {r : Int} (e : X12_orders F l0 h = some (r, hf)) : Ok MX12_orders [vr (some l0)] (some (vi r)) h hf := fun K _ _ _ => SX12_orders l0 h e
theorem yw_X12_orders : YW yX12_orders cX12_orders 4 (some .boolean) 0 := ⟨bw_of 2094 (by decide +kernel) rfl, bw_of 129 (by decide +kernel) rfl, ⟨by decide +kernel, by decide +kernel, by decide +kernel⟩, by decide +kernel⟩
theorem wml_RX12_263 : Cond.methodLink RX12 263 yX12_orders ∈ BW := bw_of 2091 (by decide +kernel) rfl
theorem wim_X12_orders : Cond.instanceMethod yX12_orders ∈ BW := bw_of 2093 (by decide +kernel) rfl
theorem wse_X12_orders : Cond.selects RX12 yX12_orders yX12_orders ∈ BW := bw_of 90 (by decide +kernel) rfl
abbrev MX12_order : MI := (RX12, cX12_order, 2, (some .int), 7, none, "order")
noncomputable def X12_order (F : Nat)   (l0 : Nat) (l1 : Int)  (h : HP) : Option (Int × HP) :=
  (xpI h (some l0) 12 31 0 0).bind fun h1 =>
  (xgP h1 (some l0) 12 31 1).bind fun v2 =>
  (xaI h1 v2 100 8).bind fun v3 =>
  xb (X12_in F l1 0 (w32 (v3 - 1)) h1) fun v4 h5 =>
  if v4 = 0 then
    some ((-1), h5)
  else
    (xrc h5 (some l0) 12 31).bind fun a9 =>
    xb (X12_orders F a9 h5) fun v7 h8 =>
    if v7 = 0 then
      some ((-1), h8)
    else
      (xgP h8 (some l0) 12 31 16).bind fun v11 =>
      (xaI h8 v11 100 l1).bind fun v12 =>
      some (v12, h8)
set_option maxRecDepth 100000 in
theorem SX12_order {K : Ctx} {F : Nat} {r : Int} {hf : HP}     (l0 : Nat) (l1 : Int)  (h : HP) (E : X12_order F   l0 l1 h = some (r, hf)) : Go K MX12_order (QM K (some (vi r)) hf) hf 0 [(0, vr (some l0)), (1, vi l1)] [] h := by
  unfold X12_order at E
  refine go_aload_n (j := 0) (n := 1) rfl rfl dX12_order_0 rfl ?_
  refine go_iconst (z := 0) (n := 2) ⟨by decide, by decide⟩ dX12_order_1 rfl ?_
  replace E := Option.bind_eq_some_iff.mp E; obtain ⟨h1, eh1, E⟩ := E
  refine go_putI (n := 5) eh1 fl_RX12_3 rfl dX12_order_2 rfl ?_
  refine go_iload_n (j := 1) (n := 6) rfl rfl dX12_order_5 rfl ?_
  refine go_iconst (z := 0) (n := 7) ⟨by decide, by decide⟩ dX12_order_6 rfl ?_
  refine go_aload_n (j := 0) (n := 8) rfl rfl dX12_order_7 rfl ?_
  replace E := Option.bind_eq_some_iff.mp E; obtain ⟨v2, ev2, E⟩ := E
  refine go_getP (n := 11) ev2 fl_RX12_14 rfl dX12_order_8 rfl ?_
  refine go_bipush (z := 8) (n := 13) ⟨by decide, by decide⟩ dX12_order_11 rfl ?_
  replace E := Option.bind_eq_some_iff.mp E; obtain ⟨v3, ev3, E⟩ := E
  refine go_iaload (n := 14) ev3 dX12_order_13 rfl ?_
  refine go_iconst (z := 1) (n := 15) ⟨by decide, by decide⟩ dX12_order_14 rfl ?_
  refine go_isub (n := 16) dX12_order_15 rfl ?_
  replace E := xb_some E; obtain ⟨v4, h5, ev4, E⟩ := E
  refine go_callS (y := yX12_in) (n := 19) (st := []) (as := [vi l1, vi 0, vi (w32 (v3 - 1))]) (stk9 := [vi v4]) (OX12_in ev4) yw_X12_in wml_RX12_61 wst_X12_in (Nat.le_of_ble_eq_true rfl) rfl ⟨Nat.le_of_ble_eq_true rfl, Nat.le_of_ble_eq_true rfl⟩ (Nat.le_of_ble_eq_true rfl) dX12_order_16 rfl rfl rfl ?_
  refine go_if_eq (tgt := 38) (n := 22) dX12_order_19 rfl rfl (fun c6 => ?_) (fun c6 => ?_)
  · rw [if_pos c6] at E
    refine go_iconst (z := (-1)) (n := 39) ⟨by decide, by decide⟩ dX12_order_38 rfl ?_
    cases E
    exact go_ireturn rfl dX12_order_39
  · rw [if_neg c6] at E
    refine go_aload_n (j := 0) (n := 23) rfl rfl dX12_order_22 rfl ?_
    replace E := Option.bind_eq_some_iff.mp E; obtain ⟨a9, ea9, E⟩ := E
    obtain ⟨fa9, ga9⟩ := xrc_some ea9
    replace E := xb_some E; obtain ⟨v7, h8, ev7, E⟩ := E
    refine go_callV (y := yX12_orders) (n := 26) (st := []) (as := []) (stk9 := [vi v7]) (OX12_orders ev7) yw_X12_orders ci_12 ga9 wml_RX12_263 wim_X12_orders wse_X12_orders (Nat.le_of_ble_eq_true rfl) rfl ⟨Nat.le_of_ble_eq_true rfl, Nat.le_of_ble_eq_true rfl⟩ (Nat.le_of_ble_eq_true rfl) dX12_order_23 rfl (by cases fa9; rfl) rfl ?_
    refine go_if_eq (tgt := 38) (n := 29) dX12_order_26 rfl rfl (fun c10 => ?_) (fun c10 => ?_)
    · rw [if_pos c10] at E
      refine go_iconst (z := (-1)) (n := 39) ⟨by decide, by decide⟩ dX12_order_38 rfl ?_
      cases E
      exact go_ireturn rfl dX12_order_39
    · rw [if_neg c10] at E
      refine go_aload_n (j := 0) (n := 30) rfl rfl dX12_order_29 rfl ?_
      replace E := Option.bind_eq_some_iff.mp E; obtain ⟨v11, ev11, E⟩ := E
      refine go_getP (n := 33) ev11 fl_RX12_34 rfl dX12_order_30 rfl ?_
      refine go_iload_n (j := 1) (n := 34) rfl rfl dX12_order_33 rfl ?_
      replace E := Option.bind_eq_some_iff.mp E; obtain ⟨v12, ev12, E⟩ := E
      refine go_iaload (n := 35) ev12 dX12_order_34 rfl ?_
      refine go_goto (tgt := 39) dX12_order_35 rfl ?_
      cases E
      exact go_ireturn rfl dX12_order_39
theorem OX12_order {F : Nat} {l0 : Nat} {l1 : Int} {h hf : HP} {r : Int} (e : X12_order F l0 l1 h = some (r, hf)) : Ok MX12_order [vr (some l0), vi l1] (some (vi r)) h hf := fun K _ _ _ => SX12_order l0 l1 h e
abbrev MX12_way : MI := (RX12, cX12_way, 3, (some .boolean), 4, none, "way")
noncomputable def X12_way_L90 (F : Nat)   (l0 : Nat) (l1 : Int) (l2 : Int)  (h : HP) : Option (Int × HP) :=
  (xrc h (some l0) 12 31).bind fun a3 =>
  xb (X12_sets F a3 l1 11 l2 h) fun v1 h2 =>
  some (1, h2)
set_option maxRecDepth 100000 in
theorem SX12_way_L90 {K : Ctx} {F : Nat} {r : Int} {hf : HP}     (l0 : Nat) (l1 : Int) (l2 : Int)  (h : HP) (E : X12_way_L90 F   l0 l1 l2 h = some (r, hf)) : Go K MX12_way (QM K (some (vi r)) hf) hf 90 [(0, vr (some l0)), (1, vi l1), (2, vi l2)] [] h := by
  unfold X12_way_L90 at E
  refine go_aload_n (j := 0) (n := 91) rfl rfl dX12_way_90 rfl ?_
  refine go_iload_n (j := 1) (n := 92) rfl rfl dX12_way_91 rfl ?_
  refine go_bipush (z := 11) (n := 94) ⟨by decide, by decide⟩ dX12_way_92 rfl ?_
  refine go_iload_n (j := 2) (n := 95) rfl rfl dX12_way_94 rfl ?_
  replace E := Option.bind_eq_some_iff.mp E; obtain ⟨a3, ea3, E⟩ := E
  obtain ⟨fa3, ga3⟩ := xrc_some ea3
  replace E := xb_some E; obtain ⟨v1, h2, ev1, E⟩ := E
  refine go_callV (y := yX12_sets) (n := 98) (st := []) (as := [vi l1, vi 11, vi l2]) (stk9 := []) (OX12_sets ev1) yw_X12_sets ci_12 ga3 wml_RX12_243 wim_X12_sets wse_X12_sets (Nat.le_of_ble_eq_true rfl) rfl ⟨Nat.le_of_ble_eq_true rfl, Nat.le_of_ble_eq_true rfl⟩ (Nat.le_of_ble_eq_true rfl) dX12_way_95 rfl (by cases fa3; rfl) rfl ?_
  refine go_iconst (z := 1) (n := 99) ⟨by decide, by decide⟩ dX12_way_98 rfl ?_
  cases E
  exact go_zreturn rfl (Or.inr rfl) dX12_way_99
noncomputable def X12_way_L74 (F : Nat)   (l0 : Nat) (l1 : Int) (l2 : Int)  (h : HP) : Option (Int × HP) :=
  if l2 = 2 then
    (xrc h (some l0) 12 31).bind fun a4 =>
    xb (X12_its F a4 l1 2 h) fun v2 h3 =>
    if v2 = 0 then
      some (0, h3)
    else
      X12_way_L90 F l0 l1 l2 h3
  else
    X12_way_L90 F l0 l1 l2 h
set_option maxRecDepth 100000 in
theorem SX12_way_L74 {K : Ctx} {F : Nat} {r : Int} {hf : HP}     (l0 : Nat) (l1 : Int) (l2 : Int)  (h : HP) (E : X12_way_L74 F   l0 l1 l2 h = some (r, hf)) : Go K MX12_way (QM K (some (vi r)) hf) hf 74 [(0, vr (some l0)), (1, vi l1), (2, vi l2)] [] h := by
  unfold X12_way_L74 at E
  refine go_iload_n (j := 2) (n := 75) rfl rfl dX12_way_74 rfl ?_
  refine go_iconst (z := 2) (n := 76) ⟨by decide, by decide⟩ dX12_way_75 rfl ?_
  refine go_icmp_ne (tgt := 90) (n := 79) dX12_way_76 rfl rfl (fun c1 => ?_) (fun c1 => ?_)
  · rw [if_neg c1] at E
    exact SX12_way_L90     _ _ _  _ E
  · rw [if_pos c1] at E
    refine go_aload_n (j := 0) (n := 80) rfl rfl dX12_way_79 rfl ?_
    refine go_iload_n (j := 1) (n := 81) rfl rfl dX12_way_80 rfl ?_
    refine go_iconst (z := 2) (n := 82) ⟨by decide, by decide⟩ dX12_way_81 rfl ?_
    replace E := Option.bind_eq_some_iff.mp E; obtain ⟨a4, ea4, E⟩ := E
    obtain ⟨fa4, ga4⟩ := xrc_some ea4
    replace E := xb_some E; obtain ⟨v2, h3, ev2, E⟩ := E
    refine go_callV (y := yX12_its) (n := 85) (st := []) (as := [vi l1, vi 2]) (stk9 := [vi v2]) (OX12_its ev2) yw_X12_its ci_12 ga4 wml_RX12_250 wim_X12_its wse_X12_its (Nat.le_of_ble_eq_true rfl) rfl ⟨Nat.le_of_ble_eq_true rfl, Nat.le_of_ble_eq_true rfl⟩ (Nat.le_of_ble_eq_true rfl) dX12_way_82 rfl (by cases fa4; rfl) rfl ?_
    refine go_if_ne (tgt := 90) (n := 88) dX12_way_85 rfl rfl (fun c5 => ?_) (fun c5 => ?_)
    · rw [if_neg c5] at E
      exact SX12_way_L90     _ _ _  _ E
    · rw [if_pos c5] at E
      refine go_iconst (z := 0) (n := 89) ⟨by decide, by decide⟩ dX12_way_88 rfl ?_
      cases E
      exact go_zreturn rfl (Or.inl rfl) dX12_way_89
noncomputable def X12_way_L33 (F : Nat)   (l0 : Nat) (l1 : Int) (l2 : Int) (s0 : Int) (s1 : Option Nat) (h : HP) : Option (Int × HP) :=
  (xrc h s1 12 31).bind fun a3 =>
  xb (X12_throwsIf F a3 s0 2 h) fun v1 h2 =>
  if v1 = 0 then
    (xrc h2 (some l0) 12 31).bind fun a7 =>
    xb (X12_its F a7 l1 8 h2) fun v5 h6 =>
    if v5 = 0 then
      (xrc h6 (some l0) 12 31).bind fun a11 =>
      xb (X12_its F a11 l1 10 h6) fun v9 h10 =>
      if 0 < v9 then
        some (0, h10)
      else
        if l2 = 1 then
          (xrc h10 (some l0) 12 31).bind fun a16 =>
          xb (X12_its F a16 l1 5 h10) fun v14 h15 =>
          if v14 = 0 then
            some (0, h15)
          else
            X12_way_L74 F l0 l1 l2 h15
        else
          X12_way_L74 F l0 l1 l2 h10
    else
      some (0, h6)
  else
    some (0, h2)
set_option maxRecDepth 100000 in
theorem SX12_way_L33 {K : Ctx} {F : Nat} {r : Int} {hf : HP}     (l0 : Nat) (l1 : Int) (l2 : Int) (s0 : Int) (s1 : Option Nat) (h : HP) (E : X12_way_L33 F   l0 l1 l2 s0 s1 h = some (r, hf)) : Go K MX12_way (QM K (some (vi r)) hf) hf 33 [(0, vr (some l0)), (1, vi l1), (2, vi l2)] [vi s0, vr s1] h := by
  unfold X12_way_L33 at E
  refine go_iconst (z := 2) (n := 34) ⟨by decide, by decide⟩ dX12_way_33 rfl ?_
  replace E := Option.bind_eq_some_iff.mp E; obtain ⟨a3, ea3, E⟩ := E
  obtain ⟨fa3, ga3⟩ := xrc_some ea3
  replace E := xb_some E; obtain ⟨v1, h2, ev1, E⟩ := E
  refine go_callV (y := yX12_throwsIf) (n := 37) (st := []) (as := [vi s0, vi 2]) (stk9 := [vi v1]) (OX12_throwsIf ev1) yw_X12_throwsIf ci_12 ga3 wml_RX12_65 wim_X12_throwsIf wse_X12_throwsIf (Nat.le_of_ble_eq_true rfl) rfl ⟨Nat.le_of_ble_eq_true rfl, Nat.le_of_ble_eq_true rfl⟩ (Nat.le_of_ble_eq_true rfl) dX12_way_34 rfl (by cases fa3; rfl) rfl ?_
  refine go_if_ne (tgt := 88) (n := 40) dX12_way_37 rfl rfl (fun c4 => ?_) (fun c4 => ?_)
  · rw [if_neg c4] at E
    refine go_iconst (z := 0) (n := 89) ⟨by decide, by decide⟩ dX12_way_88 rfl ?_
    cases E
    exact go_zreturn rfl (Or.inl rfl) dX12_way_89
  · rw [if_pos c4] at E
    refine go_aload_n (j := 0) (n := 41) rfl rfl dX12_way_40 rfl ?_
    refine go_iload_n (j := 1) (n := 42) rfl rfl dX12_way_41 rfl ?_
    refine go_bipush (z := 8) (n := 44) ⟨by decide, by decide⟩ dX12_way_42 rfl ?_
    replace E := Option.bind_eq_some_iff.mp E; obtain ⟨a7, ea7, E⟩ := E
    obtain ⟨fa7, ga7⟩ := xrc_some ea7
    replace E := xb_some E; obtain ⟨v5, h6, ev5, E⟩ := E
    refine go_callV (y := yX12_its) (n := 47) (st := []) (as := [vi l1, vi 8]) (stk9 := [vi v5]) (OX12_its ev5) yw_X12_its ci_12 ga7 wml_RX12_250 wim_X12_its wse_X12_its (Nat.le_of_ble_eq_true rfl) rfl ⟨Nat.le_of_ble_eq_true rfl, Nat.le_of_ble_eq_true rfl⟩ (Nat.le_of_ble_eq_true rfl) dX12_way_44 rfl (by cases fa7; rfl) rfl ?_
    refine go_if_ne (tgt := 88) (n := 50) dX12_way_47 rfl rfl (fun c8 => ?_) (fun c8 => ?_)
    · rw [if_neg c8] at E
      refine go_iconst (z := 0) (n := 89) ⟨by decide, by decide⟩ dX12_way_88 rfl ?_
      cases E
      exact go_zreturn rfl (Or.inl rfl) dX12_way_89
    · rw [if_pos c8] at E
      refine go_aload_n (j := 0) (n := 51) rfl rfl dX12_way_50 rfl ?_
      refine go_iload_n (j := 1) (n := 52) rfl rfl dX12_way_51 rfl ?_
      refine go_bipush (z := 10) (n := 54) ⟨by decide, by decide⟩ dX12_way_52 rfl ?_
      replace E := Option.bind_eq_some_iff.mp E; obtain ⟨a11, ea11, E⟩ := E
      obtain ⟨fa11, ga11⟩ := xrc_some ea11
      replace E := xb_some E; obtain ⟨v9, h10, ev9, E⟩ := E
      refine go_callV (y := yX12_its) (n := 57) (st := []) (as := [vi l1, vi 10]) (stk9 := [vi v9]) (OX12_its ev9) yw_X12_its ci_12 ga11 wml_RX12_250 wim_X12_its wse_X12_its (Nat.le_of_ble_eq_true rfl) rfl ⟨Nat.le_of_ble_eq_true rfl, Nat.le_of_ble_eq_true rfl⟩ (Nat.le_of_ble_eq_true rfl) dX12_way_54 rfl (by cases fa11; rfl) rfl ?_
      refine go_if_gt (tgt := 88) (n := 60) dX12_way_57 rfl rfl (fun c12 => ?_) (fun c12 => ?_)
      · rw [if_pos c12] at E
        refine go_iconst (z := 0) (n := 89) ⟨by decide, by decide⟩ dX12_way_88 rfl ?_
        cases E
        exact go_zreturn rfl (Or.inl rfl) dX12_way_89
      · rw [if_neg c12] at E
        refine go_iload_n (j := 2) (n := 61) rfl rfl dX12_way_60 rfl ?_
        refine go_iconst (z := 1) (n := 62) ⟨by decide, by decide⟩ dX12_way_61 rfl ?_
        refine go_icmp_ne (tgt := 74) (n := 65) dX12_way_62 rfl rfl (fun c13 => ?_) (fun c13 => ?_)
        · rw [if_neg c13] at E
          exact SX12_way_L74     _ _ _  _ E
        · rw [if_pos c13] at E
          refine go_aload_n (j := 0) (n := 66) rfl rfl dX12_way_65 rfl ?_
          refine go_iload_n (j := 1) (n := 67) rfl rfl dX12_way_66 rfl ?_
          refine go_iconst (z := 5) (n := 68) ⟨by decide, by decide⟩ dX12_way_67 rfl ?_
          replace E := Option.bind_eq_some_iff.mp E; obtain ⟨a16, ea16, E⟩ := E
          obtain ⟨fa16, ga16⟩ := xrc_some ea16
          replace E := xb_some E; obtain ⟨v14, h15, ev14, E⟩ := E
          refine go_callV (y := yX12_its) (n := 71) (st := []) (as := [vi l1, vi 5]) (stk9 := [vi v14]) (OX12_its ev14) yw_X12_its ci_12 ga16 wml_RX12_250 wim_X12_its wse_X12_its (Nat.le_of_ble_eq_true rfl) rfl ⟨Nat.le_of_ble_eq_true rfl, Nat.le_of_ble_eq_true rfl⟩ (Nat.le_of_ble_eq_true rfl) dX12_way_68 rfl (by cases fa16; rfl) rfl ?_
          refine go_if_eq (tgt := 88) (n := 74) dX12_way_71 rfl rfl (fun c17 => ?_) (fun c17 => ?_)
          · rw [if_pos c17] at E
            refine go_iconst (z := 0) (n := 89) ⟨by decide, by decide⟩ dX12_way_88 rfl ?_
            cases E
            exact go_zreturn rfl (Or.inl rfl) dX12_way_89
          · rw [if_neg c17] at E
            exact SX12_way_L74     _ _ _  _ E
noncomputable def X12_way (F : Nat)   (l0 : Nat) (l1 : Int) (l2 : Int)  (h : HP) : Option (Int × HP) :=
  (xpI h (some l0) 12 31 0 0).bind fun h1 =>
  (xrc h1 (some l0) 12 31).bind fun a4 =>
  xb (X12_noJob F a4 l1 h1) fun v2 h3 =>
  (xrc h3 (some l0) 12 31).bind fun a7 =>
  xb (X12_throwsIf F a7 v2 1 h3) fun v5 h6 =>
  if v5 = 0 then
    xb (X12_in F l2 0 2 h6) fun v9 h10 =>
    X12_way_L33 F l0 l1 l2 (if v9 = 0 then 1 else 0) (some l0) h10
  else
    some (0, h6)
set_option maxRecDepth 100000 in
theorem SX12_way {K : Ctx} {F : Nat} {r : Int} {hf : HP}     (l0 : Nat) (l1 : Int) (l2 : Int)  (h : HP) (E : X12_way F   l0 l1 l2 h = some (r, hf)) : Go K MX12_way (QM K (some (vi r)) hf) hf 0 [(0, vr (some l0)), (1, vi l1), (2, vi l2)] [] h := by
  unfold X12_way at E
  refine go_aload_n (j := 0) (n := 1) rfl rfl dX12_way_0 rfl ?_
  refine go_iconst (z := 0) (n := 2) ⟨by decide, by decide⟩ dX12_way_1 rfl ?_
  replace E := Option.bind_eq_some_iff.mp E; obtain ⟨h1, eh1, E⟩ := E
  refine go_putI (n := 5) eh1 fl_RX12_3 rfl dX12_way_2 rfl ?_
  refine go_aload_n (j := 0) (n := 6) rfl rfl dX12_way_5 rfl ?_
  refine go_aload_n (j := 0) (n := 7) rfl rfl dX12_way_6 rfl ?_
  refine go_iload_n (j := 1) (n := 8) rfl rfl dX12_way_7 rfl ?_
  replace E := Option.bind_eq_some_iff.mp E; obtain ⟨a4, ea4, E⟩ := E
  obtain ⟨fa4, ga4⟩ := xrc_some ea4
  replace E := xb_some E; obtain ⟨v2, h3, ev2, E⟩ := E
  refine go_callV (y := yX12_noJob) (n := 11) (st := [vr (some l0)]) (as := [vi l1]) (stk9 := [vi v2, vr (some l0)]) (OX12_noJob ev2) yw_X12_noJob ci_12 ga4 wml_RX12_247 wim_X12_noJob wse_X12_noJob (Nat.le_of_ble_eq_true rfl) rfl ⟨Nat.le_of_ble_eq_true rfl, Nat.le_of_ble_eq_true rfl⟩ (Nat.le_of_ble_eq_true rfl) dX12_way_8 rfl (by cases fa4; rfl) rfl ?_
  refine go_iconst (z := 1) (n := 12) ⟨by decide, by decide⟩ dX12_way_11 rfl ?_
  replace E := Option.bind_eq_some_iff.mp E; obtain ⟨a7, ea7, E⟩ := E
  obtain ⟨fa7, ga7⟩ := xrc_some ea7
  replace E := xb_some E; obtain ⟨v5, h6, ev5, E⟩ := E
  refine go_callV (y := yX12_throwsIf) (n := 15) (st := []) (as := [vi v2, vi 1]) (stk9 := [vi v5]) (OX12_throwsIf ev5) yw_X12_throwsIf ci_12 ga7 wml_RX12_65 wim_X12_throwsIf wse_X12_throwsIf (Nat.le_of_ble_eq_true rfl) rfl ⟨Nat.le_of_ble_eq_true rfl, Nat.le_of_ble_eq_true rfl⟩ (Nat.le_of_ble_eq_true rfl) dX12_way_12 rfl (by cases fa7; rfl) rfl ?_
  refine go_if_ne (tgt := 88) (n := 18) dX12_way_15 rfl rfl (fun c8 => ?_) (fun c8 => ?_)
  · rw [if_neg c8] at E
    refine go_iconst (z := 0) (n := 89) ⟨by decide, by decide⟩ dX12_way_88 rfl ?_
    cases E
    exact go_zreturn rfl (Or.inl rfl) dX12_way_89
  · rw [if_pos c8] at E
    refine go_aload_n (j := 0) (n := 19) rfl rfl dX12_way_18 rfl ?_
    refine go_iload_n (j := 2) (n := 20) rfl rfl dX12_way_19 rfl ?_
    refine go_iconst (z := 0) (n := 21) ⟨by decide, by decide⟩ dX12_way_20 rfl ?_
    refine go_iconst (z := 2) (n := 22) ⟨by decide, by decide⟩ dX12_way_21 rfl ?_
    replace E := xb_some E; obtain ⟨v9, h10, ev9, E⟩ := E
    refine go_callS (y := yX12_in) (n := 25) (st := [vr (some l0)]) (as := [vi l2, vi 0, vi 2]) (stk9 := [vi v9, vr (some l0)]) (OX12_in ev9) yw_X12_in wml_RX12_61 wst_X12_in (Nat.le_of_ble_eq_true rfl) rfl ⟨Nat.le_of_ble_eq_true rfl, Nat.le_of_ble_eq_true rfl⟩ (Nat.le_of_ble_eq_true rfl) dX12_way_22 rfl rfl rfl ?_
    refine go_if_ne (tgt := 32) (n := 28) dX12_way_25 rfl rfl (fun c11 => ?_) (fun c11 => ?_)
    · simp only [if_neg c11] at E
      refine go_iconst (z := 0) (n := 33) ⟨by decide, by decide⟩ dX12_way_32 rfl ?_
      exact SX12_way_L33     _ _ _ _ _ _ E
    · simp only [if_pos c11] at E
      refine go_iconst (z := 1) (n := 29) ⟨by decide, by decide⟩ dX12_way_28 rfl ?_
      refine go_goto (tgt := 33) dX12_way_29 rfl ?_
      exact SX12_way_L33     _ _ _ _ _ _ E
theorem OX12_way {F : Nat} {l0 : Nat} {l1 : Int} {l2 : Int} {h hf : HP} {r : Int} (e : X12_way F l0 l1 l2 h = some (r, hf)) : Ok MX12_way [vr (some l0), vi l1, vi l2] (some (vi r)) h hf := fun K _ _ _ => SX12_way l0 l1 l2 h e
abbrev MX12_drop : MI := (RX12, cX12_drop, 2, (some .boolean), 4, none, "drop")
noncomputable def X12_drop (F : Nat)   (l0 : Nat) (l1 : Int)  (h : HP) : Option (Int × HP) :=
  (xpI h (some l0) 12 31 0 0).bind fun h1 =>
  (xrc h1 (some l0) 12 31).bind fun a4 =>
  xb (X12_noJob F a4 l1 h1) fun v2 h3 =>
  (xrc h3 (some l0) 12 31).bind fun a7 =>
  xb (X12_throwsIf F a7 v2 1 h3) fun v5 h6 =>
  if v5 = 0 then
    (xrc h6 (some l0) 12 31).bind fun a11 =>
    xb (X12_its F a11 l1 8 h6) fun v9 h10 =>
    if v9 = 0 then
      (xrc h10 (some l0) 12 31).bind fun a15 =>
      xb (X12_sets F a15 l1 8 5 h10) fun v13 h14 =>
      some (1, h14)
    else
      some (0, h10)
  else
    some (0, h6)
set_option maxRecDepth 100000 in
theorem SX12_drop {K : Ctx} {F : Nat} {r : Int} {hf : HP}     (l0 : Nat) (l1 : Int)  (h : HP) (E : X12_drop F   l0 l1 h = some (r, hf)) : Go K MX12_drop (QM K (some (vi r)) hf) hf 0 [(0, vr (some l0)), (1, vi l1)] [] h := by
  unfold X12_drop at E
  refine go_aload_n (j := 0) (n := 1) rfl rfl dX12_drop_0 rfl ?_
  refine go_iconst (z := 0) (n := 2) ⟨by decide, by decide⟩ dX12_drop_1 rfl ?_
  replace E := Option.bind_eq_some_iff.mp E; obtain ⟨h1, eh1, E⟩ := E
  refine go_putI (n := 5) eh1 fl_RX12_3 rfl dX12_drop_2 rfl ?_
  refine go_aload_n (j := 0) (n := 6) rfl rfl dX12_drop_5 rfl ?_
  refine go_aload_n (j := 0) (n := 7) rfl rfl dX12_drop_6 rfl ?_
  refine go_iload_n (j := 1) (n := 8) rfl rfl dX12_drop_7 rfl ?_
  replace E := Option.bind_eq_some_iff.mp E; obtain ⟨a4, ea4, E⟩ := E
  obtain ⟨fa4, ga4⟩ := xrc_some ea4
  replace E := xb_some E; obtain ⟨v2, h3, ev2, E⟩ := E
  refine go_callV (y := yX12_noJob) (n := 11) (st := [vr (some l0)]) (as := [vi l1]) (stk9 := [vi v2, vr (some l0)]) (OX12_noJob ev2) yw_X12_noJob ci_12 ga4 wml_RX12_247 wim_X12_noJob wse_X12_noJob (Nat.le_of_ble_eq_true rfl) rfl ⟨Nat.le_of_ble_eq_true rfl, Nat.le_of_ble_eq_true rfl⟩ (Nat.le_of_ble_eq_true rfl) dX12_drop_8 rfl (by cases fa4; rfl) rfl ?_
  refine go_iconst (z := 1) (n := 12) ⟨by decide, by decide⟩ dX12_drop_11 rfl ?_
  replace E := Option.bind_eq_some_iff.mp E; obtain ⟨a7, ea7, E⟩ := E
  obtain ⟨fa7, ga7⟩ := xrc_some ea7
  replace E := xb_some E; obtain ⟨v5, h6, ev5, E⟩ := E
  refine go_callV (y := yX12_throwsIf) (n := 15) (st := []) (as := [vi v2, vi 1]) (stk9 := [vi v5]) (OX12_throwsIf ev5) yw_X12_throwsIf ci_12 ga7 wml_RX12_65 wim_X12_throwsIf wse_X12_throwsIf (Nat.le_of_ble_eq_true rfl) rfl ⟨Nat.le_of_ble_eq_true rfl, Nat.le_of_ble_eq_true rfl⟩ (Nat.le_of_ble_eq_true rfl) dX12_drop_12 rfl (by cases fa7; rfl) rfl ?_
  refine go_if_ne (tgt := 28) (n := 18) dX12_drop_15 rfl rfl (fun c8 => ?_) (fun c8 => ?_)
  · rw [if_neg c8] at E
    refine go_iconst (z := 0) (n := 29) ⟨by decide, by decide⟩ dX12_drop_28 rfl ?_
    cases E
    exact go_zreturn rfl (Or.inl rfl) dX12_drop_29
  · rw [if_pos c8] at E
    refine go_aload_n (j := 0) (n := 19) rfl rfl dX12_drop_18 rfl ?_
    refine go_iload_n (j := 1) (n := 20) rfl rfl dX12_drop_19 rfl ?_
    refine go_bipush (z := 8) (n := 22) ⟨by decide, by decide⟩ dX12_drop_20 rfl ?_
    replace E := Option.bind_eq_some_iff.mp E; obtain ⟨a11, ea11, E⟩ := E
    obtain ⟨fa11, ga11⟩ := xrc_some ea11
    replace E := xb_some E; obtain ⟨v9, h10, ev9, E⟩ := E
    refine go_callV (y := yX12_its) (n := 25) (st := []) (as := [vi l1, vi 8]) (stk9 := [vi v9]) (OX12_its ev9) yw_X12_its ci_12 ga11 wml_RX12_250 wim_X12_its wse_X12_its (Nat.le_of_ble_eq_true rfl) rfl ⟨Nat.le_of_ble_eq_true rfl, Nat.le_of_ble_eq_true rfl⟩ (Nat.le_of_ble_eq_true rfl) dX12_drop_22 rfl (by cases fa11; rfl) rfl ?_
    refine go_if_eq (tgt := 30) (n := 28) dX12_drop_25 rfl rfl (fun c12 => ?_) (fun c12 => ?_)
    · rw [if_pos c12] at E
      refine go_aload_n (j := 0) (n := 31) rfl rfl dX12_drop_30 rfl ?_
      refine go_iload_n (j := 1) (n := 32) rfl rfl dX12_drop_31 rfl ?_
      refine go_bipush (z := 8) (n := 34) ⟨by decide, by decide⟩ dX12_drop_32 rfl ?_
      refine go_iconst (z := 5) (n := 35) ⟨by decide, by decide⟩ dX12_drop_34 rfl ?_
      replace E := Option.bind_eq_some_iff.mp E; obtain ⟨a15, ea15, E⟩ := E
      obtain ⟨fa15, ga15⟩ := xrc_some ea15
      replace E := xb_some E; obtain ⟨v13, h14, ev13, E⟩ := E
      refine go_callV (y := yX12_sets) (n := 38) (st := []) (as := [vi l1, vi 8, vi 5]) (stk9 := []) (OX12_sets ev13) yw_X12_sets ci_12 ga15 wml_RX12_243 wim_X12_sets wse_X12_sets (Nat.le_of_ble_eq_true rfl) rfl ⟨Nat.le_of_ble_eq_true rfl, Nat.le_of_ble_eq_true rfl⟩ (Nat.le_of_ble_eq_true rfl) dX12_drop_35 rfl (by cases fa15; rfl) rfl ?_
      refine go_iconst (z := 1) (n := 39) ⟨by decide, by decide⟩ dX12_drop_38 rfl ?_
      cases E
      exact go_zreturn rfl (Or.inr rfl) dX12_drop_39
    · rw [if_neg c12] at E
      refine go_iconst (z := 0) (n := 29) ⟨by decide, by decide⟩ dX12_drop_28 rfl ?_
      cases E
      exact go_zreturn rfl (Or.inl rfl) dX12_drop_29
theorem OX12_drop {F : Nat} {l0 : Nat} {l1 : Int} {h hf : HP} {r : Int} (e : X12_drop F l0 l1 h = some (r, hf)) : Ok MX12_drop [vr (some l0), vi l1] (some (vi r)) h hf := fun K _ _ _ => SX12_drop l0 l1 h e
abbrev MX12_again : MI := (RX12, cX12_again, 2, (some .boolean), 4, none, "again")
noncomputable def X12_again (F : Nat)   (l0 : Nat) (l1 : Int)  (h : HP) : Option (Int × HP) :=
  (xpI h (some l0) 12 31 0 0).bind fun h1 =>
  (xrc h1 (some l0) 12 31).bind fun a4 =>
  xb (X12_noJob F a4 l1 h1) fun v2 h3 =>
  (xrc h3 (some l0) 12 31).bind fun a7 =>
  xb (X12_throwsIf F a7 v2 1 h3) fun v5 h6 =>
  if v5 = 0 then
    (xrc h6 (some l0) 12 31).bind fun a11 =>
    xb (X12_its F a11 l1 8 h6) fun v9 h10 =>
    if 2 ≤ v9 then
      (xrc h10 (some l0) 12 31).bind fun a15 =>
      xb (X12_sets F a15 l1 8 0 h10) fun v13 h14 =>
      (xrc h14 (some l0) 12 31).bind fun a18 =>
      xb (X12_sets F a18 l1 10 0 h14) fun v16 h17 =>
      some (1, h17)
    else
      some (0, h10)
  else
    some (0, h6)
set_option maxRecDepth 100000 in
theorem SX12_again {K : Ctx} {F : Nat} {r : Int} {hf : HP}     (l0 : Nat) (l1 : Int)  (h : HP) (E : X12_again F   l0 l1 h = some (r, hf)) : Go K MX12_again (QM K (some (vi r)) hf) hf 0 [(0, vr (some l0)), (1, vi l1)] [] h := by
  unfold X12_again at E
  refine go_aload_n (j := 0) (n := 1) rfl rfl dX12_again_0 rfl ?_
  refine go_iconst (z := 0) (n := 2) ⟨by decide, by decide⟩ dX12_again_1 rfl ?_
  replace E := Option.bind_eq_some_iff.mp E; obtain ⟨h1, eh1, E⟩ := E
  refine go_putI (n := 5) eh1 fl_RX12_3 rfl dX12_again_2 rfl ?_
  refine go_aload_n (j := 0) (n := 6) rfl rfl dX12_again_5 rfl ?_
  refine go_aload_n (j := 0) (n := 7) rfl rfl dX12_again_6 rfl ?_
  refine go_iload_n (j := 1) (n := 8) rfl rfl dX12_again_7 rfl ?_
  replace E := Option.bind_eq_some_iff.mp E; obtain ⟨a4, ea4, E⟩ := E
  obtain ⟨fa4, ga4⟩ := xrc_some ea4
  replace E := xb_some E; obtain ⟨v2, h3, ev2, E⟩ := E
  refine go_callV (y := yX12_noJob) (n := 11) (st := [vr (some l0)]) (as := [vi l1]) (stk9 := [vi v2, vr (some l0)]) (OX12_noJob ev2) yw_X12_noJob ci_12 ga4 wml_RX12_247 wim_X12_noJob wse_X12_noJob (Nat.le_of_ble_eq_true rfl) rfl ⟨Nat.le_of_ble_eq_true rfl, Nat.le_of_ble_eq_true rfl⟩ (Nat.le_of_ble_eq_true rfl) dX12_again_8 rfl (by cases fa4; rfl) rfl ?_
  refine go_iconst (z := 1) (n := 12) ⟨by decide, by decide⟩ dX12_again_11 rfl ?_
  replace E := Option.bind_eq_some_iff.mp E; obtain ⟨a7, ea7, E⟩ := E
  obtain ⟨fa7, ga7⟩ := xrc_some ea7
  replace E := xb_some E; obtain ⟨v5, h6, ev5, E⟩ := E
  refine go_callV (y := yX12_throwsIf) (n := 15) (st := []) (as := [vi v2, vi 1]) (stk9 := [vi v5]) (OX12_throwsIf ev5) yw_X12_throwsIf ci_12 ga7 wml_RX12_65 wim_X12_throwsIf wse_X12_throwsIf (Nat.le_of_ble_eq_true rfl) rfl ⟨Nat.le_of_ble_eq_true rfl, Nat.le_of_ble_eq_true rfl⟩ (Nat.le_of_ble_eq_true rfl) dX12_again_12 rfl (by cases fa7; rfl) rfl ?_
  refine go_if_ne (tgt := 29) (n := 18) dX12_again_15 rfl rfl (fun c8 => ?_) (fun c8 => ?_)
  · rw [if_neg c8] at E
    refine go_iconst (z := 0) (n := 30) ⟨by decide, by decide⟩ dX12_again_29 rfl ?_
    cases E
    exact go_zreturn rfl (Or.inl rfl) dX12_again_30
  · rw [if_pos c8] at E
    refine go_aload_n (j := 0) (n := 19) rfl rfl dX12_again_18 rfl ?_
    refine go_iload_n (j := 1) (n := 20) rfl rfl dX12_again_19 rfl ?_
    refine go_bipush (z := 8) (n := 22) ⟨by decide, by decide⟩ dX12_again_20 rfl ?_
    replace E := Option.bind_eq_some_iff.mp E; obtain ⟨a11, ea11, E⟩ := E
    obtain ⟨fa11, ga11⟩ := xrc_some ea11
    replace E := xb_some E; obtain ⟨v9, h10, ev9, E⟩ := E
    refine go_callV (y := yX12_its) (n := 25) (st := []) (as := [vi l1, vi 8]) (stk9 := [vi v9]) (OX12_its ev9) yw_X12_its ci_12 ga11 wml_RX12_250 wim_X12_its wse_X12_its (Nat.le_of_ble_eq_true rfl) rfl ⟨Nat.le_of_ble_eq_true rfl, Nat.le_of_ble_eq_true rfl⟩ (Nat.le_of_ble_eq_true rfl) dX12_again_22 rfl (by cases fa11; rfl) rfl ?_
    refine go_iconst (z := 2) (n := 26) ⟨by decide, by decide⟩ dX12_again_25 rfl ?_
    refine go_icmp_ge (tgt := 31) (n := 29) dX12_again_26 rfl rfl (fun c12 => ?_) (fun c12 => ?_)
    · rw [if_pos c12] at E
      refine go_aload_n (j := 0) (n := 32) rfl rfl dX12_again_31 rfl ?_
      refine go_iload_n (j := 1) (n := 33) rfl rfl dX12_again_32 rfl ?_
      refine go_bipush (z := 8) (n := 35) ⟨by decide, by decide⟩ dX12_again_33 rfl ?_
      refine go_iconst (z := 0) (n := 36) ⟨by decide, by decide⟩ dX12_again_35 rfl ?_
      replace E := Option.bind_eq_some_iff.mp E; obtain ⟨a15, ea15, E⟩ := E
      obtain ⟨fa15, ga15⟩ := xrc_some ea15
      replace E := xb_some E; obtain ⟨v13, h14, ev13, E⟩ := E
      refine go_callV (y := yX12_sets) (n := 39) (st := []) (as := [vi l1, vi 8, vi 0]) (stk9 := []) (OX12_sets ev13) yw_X12_sets ci_12 ga15 wml_RX12_243 wim_X12_sets wse_X12_sets (Nat.le_of_ble_eq_true rfl) rfl ⟨Nat.le_of_ble_eq_true rfl, Nat.le_of_ble_eq_true rfl⟩ (Nat.le_of_ble_eq_true rfl) dX12_again_36 rfl (by cases fa15; rfl) rfl ?_
      refine go_aload_n (j := 0) (n := 40) rfl rfl dX12_again_39 rfl ?_
      refine go_iload_n (j := 1) (n := 41) rfl rfl dX12_again_40 rfl ?_
      refine go_bipush (z := 10) (n := 43) ⟨by decide, by decide⟩ dX12_again_41 rfl ?_
      refine go_iconst (z := 0) (n := 44) ⟨by decide, by decide⟩ dX12_again_43 rfl ?_
      replace E := Option.bind_eq_some_iff.mp E; obtain ⟨a18, ea18, E⟩ := E
      obtain ⟨fa18, ga18⟩ := xrc_some ea18
      replace E := xb_some E; obtain ⟨v16, h17, ev16, E⟩ := E
      refine go_callV (y := yX12_sets) (n := 47) (st := []) (as := [vi l1, vi 10, vi 0]) (stk9 := []) (OX12_sets ev16) yw_X12_sets ci_12 ga18 wml_RX12_243 wim_X12_sets wse_X12_sets (Nat.le_of_ble_eq_true rfl) rfl ⟨Nat.le_of_ble_eq_true rfl, Nat.le_of_ble_eq_true rfl⟩ (Nat.le_of_ble_eq_true rfl) dX12_again_44 rfl (by cases fa18; rfl) rfl ?_
      refine go_iconst (z := 1) (n := 48) ⟨by decide, by decide⟩ dX12_again_47 rfl ?_
      cases E
      exact go_zreturn rfl (Or.inr rfl) dX12_again_48
    · rw [if_neg c12] at E
      refine go_iconst (z := 0) (n := 30) ⟨by decide, by decide⟩ dX12_again_29 rfl ?_
      cases E
      exact go_zreturn rfl (Or.inl rfl) dX12_again_30
theorem OX12_again {F : Nat} {l0 : Nat} {l1 : Int} {h hf : HP} {r : Int} (e : X12_again F l0 l1 h = some (r, hf)) : Ok MX12_again [vr (some l0), vi l1] (some (vi r)) h hf := fun K _ _ _ => SX12_again l0 l1 h e
