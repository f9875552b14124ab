/-! the methods, decompiled: written by dec.py -/
theorem yw_X11_again : YW yX11_again cX11_again 3 (some .boolean) 1 := ⟨bw_of 1355 (by decide +kernel) rfl, bw_of 117 (by decide +kernel) rfl, ⟨by decide +kernel, by decide +kernel, by decide +kernel⟩, by decide +kernel⟩
theorem wml_RL_63 : Cond.methodLink RL 63 yX11_again ∈ BW := bw_of 1352 (by decide +kernel) rfl
theorem wim_X11_again : Cond.instanceMethod yX11_again ∈ BW := bw_of 1353 (by decide +kernel) rfl
theorem wse_X11_again : Cond.selects RX11 yX11_again yX11_again ∈ BW := bw_of 1354 (by decide +kernel) rfl
theorem wcx_RL_18 : Cond.classLink RL 18 "java/lang/IndexOutOfBoundsException" ∈ BW := bw_of 958 (by decide +kernel) rfl
abbrev ML_again : MI := (RL, cL_again, 4, (some .int), 14, some (tableOf [(0, 16, 19, 18)]), "again")
noncomputable def XL_again_L15 (F : Nat)    (s0 : Int) (s1 : Int) (s2 : Option Nat) (h : HP) : Option (Int × HP) :=
  (xsJ h s2 s1 s0).bind fun h1 =>
  some (0, h1)
set_option maxRecDepth 100000 in
theorem SXL_again_L15 {K : Ctx} {F : Nat} {r : Int} {hf : HP}      (s0 : Int) (s1 : Int) (s2 : Option Nat) (h : HP) (E : XL_again_L15 F   s0 s1 s2 h = some (r, hf)) : Go K ML_again (QM K (some (vi r)) hf) hf 15 [] [vl s0, vi s1, vr s2] h := by
  unfold XL_again_L15 at E
  replace E := Option.bind_eq_some_iff.mp E; obtain ⟨h1, eh1, E⟩ := E
  refine go_lastore (n := 16) eh1 dL_again_15 rfl ?_
  refine go_goto (tgt := 22) dL_again_16 rfl ?_
  refine go_iconst (z := 0) (n := 23) ⟨by decide, by decide⟩ dL_again_22 rfl ?_
  cases E
  exact go_ireturn rfl dL_again_23
noncomputable def XL_again (F : Nat)   (l0 : Option Nat) (l1 : Int) (l2 : Option Nat)  (h : HP) : Option (Int × HP) :=
  (xrc h l0 11 6).bind fun a3 =>
  xct (X11_again F a3 l1 h) (fun x4 h5 =>
    if x4 = "java/lang/IndexOutOfBoundsException" then
      some (1, h5)
    else
      none) fun v1 h2 =>
  XL_again_L15 F (if v1 = 0 then 0 else 1) 0 l2 h2
set_option maxRecDepth 100000 in
theorem SXL_again {K : Ctx} {F : Nat} {r : Int} {hf : HP}     (l0 : Option Nat) (l1 : Int) (l2 : Option Nat)  (h : HP) (E : XL_again F   l0 l1 l2 h = some (r, hf)) : Go K ML_again (QM K (some (vi r)) hf) hf 0 [(0, vr l0), (1, vi l1), (2, vr l2)] [] h := by
  unfold XL_again at E
  refine go_aload_n (j := 2) (n := 1) rfl rfl dL_again_0 rfl ?_
  refine go_iconst (z := 0) (n := 2) ⟨by decide, by decide⟩ dL_again_1 rfl ?_
  refine go_aload_n (j := 0) (n := 3) rfl rfl dL_again_2 rfl ?_
  refine go_iload_n (j := 1) (n := 4) rfl rfl dL_again_3 rfl ?_
  replace E := Option.bind_eq_some_iff.mp E; obtain ⟨a3, ea3, E⟩ := E
  obtain ⟨fa3, ga3⟩ := xrc_some ea3
  replace E := xct_some E; rcases E with ⟨x4, h5, ev1, E⟩ | ⟨v1, h2, ev1, E⟩
  · by_cases c7 : x4 = "java/lang/IndexOutOfBoundsException"
    · subst c7
      rw [if_pos rfl] at E
      refine go_callXVc (y := yX11_again) (n := 20) (as := [vi l1]) (st := [vi 0, vr l2]) (pre := []) (x := ⟨0, 16, 19, 18⟩) (suf := []) (j := 3) (lv' := [(0, vr l0), (1, vi l1), (2, vr l2)]) (OXX11_again ev1) yw_X11_again ci_11 ga3 wml_RL_63 wim_X11_again wse_X11_again (Nat.le_of_ble_eq_true rfl) rfl ⟨Nat.le_of_ble_eq_true rfl, Nat.le_of_ble_eq_true rfl⟩ (Nat.le_of_ble_eq_true rfl) dL_again_4 (by cases fa3; rfl) rfl (fun z hz => by cases hz) rfl (by decide) wcx_RL_18 (by decide +kernel) (Or.inr ⟨3, rfl, dL_again_19, rfl⟩) (Nat.le_of_ble_eq_true rfl) rfl ?_
      refine go_iconst (z := 1) (n := 21) ⟨by decide, by decide⟩ dL_again_20 rfl ?_
      cases E
      exact go_ireturn rfl dL_again_21
    rw [if_neg c7] at E
    cases E
  refine go_callXVr (y := yX11_again) (n := 7) (st := [vi 0, vr l2]) (as := [vi l1]) (stk9 := [vi v1, vi 0, vr l2]) (OXX11_again ev1) yw_X11_again ci_11 ga3 wml_RL_63 wim_X11_again wse_X11_again (Nat.le_of_ble_eq_true rfl) rfl ⟨Nat.le_of_ble_eq_true rfl, Nat.le_of_ble_eq_true rfl⟩ (Nat.le_of_ble_eq_true rfl) dL_again_4 (by cases fa3; rfl) rfl rfl ?_
  refine go_if_eq (tgt := 14) (n := 10) dL_again_7 rfl rfl (fun c6 => ?_) (fun c6 => ?_)
  · simp only [if_pos c6] at E
    refine go_lconst (w := 0) (n := 15) rfl dL_again_14 rfl ?_
    refine go_pick (lv' := []) [] rfl ?_
    exact SXL_again_L15      _ _ _ _ E
  · simp only [if_neg c6] at E
    refine go_lconst (w := 1) (n := 11) rfl dL_again_10 rfl ?_
    refine go_goto (tgt := 15) dL_again_11 rfl ?_
    refine go_pick (lv' := []) [] rfl ?_
    exact SXL_again_L15      _ _ _ _ E
theorem OXL_again {F : Nat} {l0 : Option Nat} {l1 : Int} {l2 : Option Nat} {h hf : HP} {r : Int} (e : XL_again F l0 l1 l2 h = some (r, hf)) : Ok ML_again [vr l0, vi l1, vr l2] (some (vi r)) h hf := fun K _ _ _ => SXL_again l0 l1 l2 h e
theorem yw_X11_alter : YW yX11_alter cX11_alter 4 (some .boolean) 3 := ⟨bw_of 1661 (by decide +kernel) rfl, bw_of 117 (by decide +kernel) rfl, ⟨by decide +kernel, by decide +kernel, by decide +kernel⟩, by decide +kernel⟩
theorem wml_RL_113 : Cond.methodLink RL 113 yX11_alter ∈ BW := bw_of 1658 (by decide +kernel) rfl
theorem wim_X11_alter : Cond.instanceMethod yX11_alter ∈ BW := bw_of 1659 (by decide +kernel) rfl
theorem wse_X11_alter : Cond.selects RX11 yX11_alter yX11_alter ∈ BW := bw_of 1660 (by decide +kernel) rfl
theorem wcx_RL_13 : Cond.classLink RL 13 "java/lang/IllegalArgumentException" ∈ BW := bw_of 877 (by decide +kernel) rfl
theorem wcx_RL_69 : Cond.classLink RL 69 "java/lang/IllegalStateException" ∈ BW := bw_of 1359 (by decide +kernel) rfl
abbrev ML_alter : MI := (RL, cL_alter, 6, (some .int), 14, some (tableOf [(0, 19, 22, 18), (0, 19, 26, 13), (0, 19, 30, 69)]), "alter")
noncomputable def XL_alter_L18 (F : Nat)    (s0 : Int) (s1 : Int) (s2 : Option Nat) (h : HP) : Option (Int × HP) :=
  (xsJ h s2 s1 s0).bind fun h1 =>
  some (0, h1)
set_option maxRecDepth 100000 in
theorem SXL_alter_L18 {K : Ctx} {F : Nat} {r : Int} {hf : HP}      (s0 : Int) (s1 : Int) (s2 : Option Nat) (h : HP) (E : XL_alter_L18 F   s0 s1 s2 h = some (r, hf)) : Go K ML_alter (QM K (some (vi r)) hf) hf 18 [] [vl s0, vi s1, vr s2] h := by
  unfold XL_alter_L18 at E
  replace E := Option.bind_eq_some_iff.mp E; obtain ⟨h1, eh1, E⟩ := E
  refine go_lastore (n := 19) eh1 dL_alter_18 rfl ?_
  refine go_goto (tgt := 34) dL_alter_19 rfl ?_
  refine go_iconst (z := 0) (n := 35) ⟨by decide, by decide⟩ dL_alter_34 rfl ?_
  cases E
  exact go_ireturn rfl dL_alter_35
noncomputable def XL_alter (F : Nat)   (l0 : Option Nat) (l1 : Int) (l2 : Int) (l3 : Int) (l4 : Option Nat)  (h : HP) : Option (Int × HP) :=
  (xrc h l0 11 6).bind fun a3 =>
  xct (X11_alter F a3 l1 l2 l3 h) (fun x4 h5 =>
    if x4 = "java/lang/IndexOutOfBoundsException" then
      some (1, h5)
    else
      if x4 = "java/lang/IllegalArgumentException" then
        some (2, h5)
      else
        if x4 = "java/lang/IllegalStateException" then
          some (3, h5)
        else
          none) fun v1 h2 =>
  XL_alter_L18 F (if v1 = 0 then 0 else 1) 0 l4 h2
set_option maxRecDepth 100000 in
theorem SXL_alter {K : Ctx} {F : Nat} {r : Int} {hf : HP}     (l0 : Option Nat) (l1 : Int) (l2 : Int) (l3 : Int) (l4 : Option Nat)  (h : HP) (E : XL_alter F   l0 l1 l2 l3 l4 h = some (r, hf)) : Go K ML_alter (QM K (some (vi r)) hf) hf 0 [(0, vr l0), (1, vi l1), (2, vi l2), (3, vi l3), (4, vr l4)] [] h := by
  unfold XL_alter at E
  refine go_aload (j := 4) (n := 2) rfl dL_alter_0 rfl ?_
  refine go_iconst (z := 0) (n := 3) ⟨by decide, by decide⟩ dL_alter_2 rfl ?_
  refine go_aload_n (j := 0) (n := 4) rfl rfl dL_alter_3 rfl ?_
  refine go_iload_n (j := 1) (n := 5) rfl rfl dL_alter_4 rfl ?_
  refine go_iload_n (j := 2) (n := 6) rfl rfl dL_alter_5 rfl ?_
  refine go_iload_n (j := 3) (n := 7) rfl rfl dL_alter_6 rfl ?_
  replace E := Option.bind_eq_some_iff.mp E; obtain ⟨a3, ea3, E⟩ := E
  obtain ⟨fa3, ga3⟩ := xrc_some ea3
  replace E := xct_some E; rcases E with ⟨x4, h5, ev1, E⟩ | ⟨v1, h2, ev1, E⟩
  · by_cases c7 : x4 = "java/lang/IndexOutOfBoundsException"
    · subst c7
      rw [if_pos rfl] at E
      refine go_callXVc (y := yX11_alter) (n := 24) (as := [vi l1, vi l2, vi l3]) (st := [vi 0, vr l4]) (pre := []) (x := ⟨0, 19, 22, 18⟩) (suf := [⟨0, 19, 26, 13⟩, ⟨0, 19, 30, 69⟩]) (j := 5) (lv' := [(0, vr l0), (1, vi l1), (2, vi l2), (3, vi l3), (4, vr l4)]) (OXX11_alter ev1) yw_X11_alter ci_11 ga3 wml_RL_113 wim_X11_alter wse_X11_alter (Nat.le_of_ble_eq_true rfl) rfl ⟨Nat.le_of_ble_eq_true rfl, Nat.le_of_ble_eq_true rfl⟩ (Nat.le_of_ble_eq_true rfl) dL_alter_7 (by cases fa3; rfl) rfl (fun z hz => by cases hz) rfl (by decide) wcx_RL_18 (by decide +kernel) (Or.inl ⟨dL_alter_22, rfl⟩) (Nat.le_of_ble_eq_true rfl) rfl ?_
      refine go_iconst (z := 1) (n := 25) ⟨by decide, by decide⟩ dL_alter_24 rfl ?_
      cases E
      exact go_ireturn rfl dL_alter_25
    rw [if_neg c7] at E
    by_cases c8 : x4 = "java/lang/IllegalArgumentException"
    · subst c8
      rw [if_pos rfl] at E
      refine go_callXVc (y := yX11_alter) (n := 28) (as := [vi l1, vi l2, vi l3]) (st := [vi 0, vr l4]) (pre := [⟨0, 19, 22, 18⟩]) (x := ⟨0, 19, 26, 13⟩) (suf := [⟨0, 19, 30, 69⟩]) (j := 5) (lv' := [(0, vr l0), (1, vi l1), (2, vi l2), (3, vi l3), (4, vr l4)]) (OXX11_alter ev1) yw_X11_alter ci_11 ga3 wml_RL_113 wim_X11_alter wse_X11_alter (Nat.le_of_ble_eq_true rfl) rfl ⟨Nat.le_of_ble_eq_true rfl, Nat.le_of_ble_eq_true rfl⟩ (Nat.le_of_ble_eq_true rfl) dL_alter_7 (by cases fa3; rfl) rfl (by intro z hz; simp only [List.mem_cons, List.not_mem_nil, or_false] at hz; rcases hz with rfl <;> first | exact ⟨by decide, "java/lang/IndexOutOfBoundsException", wcx_RL_18, by decide +kernel⟩) rfl (by decide) wcx_RL_13 (by decide +kernel) (Or.inl ⟨dL_alter_26, rfl⟩) (Nat.le_of_ble_eq_true rfl) rfl ?_
      refine go_iconst (z := 2) (n := 29) ⟨by decide, by decide⟩ dL_alter_28 rfl ?_
      cases E
      exact go_ireturn rfl dL_alter_29
    rw [if_neg c8] at E
    by_cases c9 : x4 = "java/lang/IllegalStateException"
    · subst c9
      rw [if_pos rfl] at E
      refine go_callXVc (y := yX11_alter) (n := 32) (as := [vi l1, vi l2, vi l3]) (st := [vi 0, vr l4]) (pre := [⟨0, 19, 22, 18⟩, ⟨0, 19, 26, 13⟩]) (x := ⟨0, 19, 30, 69⟩) (suf := []) (j := 5) (lv' := [(0, vr l0), (1, vi l1), (2, vi l2), (3, vi l3), (4, vr l4)]) (OXX11_alter ev1) yw_X11_alter ci_11 ga3 wml_RL_113 wim_X11_alter wse_X11_alter (Nat.le_of_ble_eq_true rfl) rfl ⟨Nat.le_of_ble_eq_true rfl, Nat.le_of_ble_eq_true rfl⟩ (Nat.le_of_ble_eq_true rfl) dL_alter_7 (by cases fa3; rfl) rfl (by intro z hz; simp only [List.mem_cons, List.not_mem_nil, or_false] at hz; rcases hz with rfl | rfl <;> first | exact ⟨by decide, "java/lang/IndexOutOfBoundsException", wcx_RL_18, by decide +kernel⟩ | exact ⟨by decide, "java/lang/IllegalArgumentException", wcx_RL_13, by decide +kernel⟩) rfl (by decide) wcx_RL_69 (by decide +kernel) (Or.inl ⟨dL_alter_30, rfl⟩) (Nat.le_of_ble_eq_true rfl) rfl ?_
      refine go_iconst (z := 3) (n := 33) ⟨by decide, by decide⟩ dL_alter_32 rfl ?_
      cases E
      exact go_ireturn rfl dL_alter_33
    rw [if_neg c9] at E
    cases E
  refine go_callXVr (y := yX11_alter) (n := 10) (st := [vi 0, vr l4]) (as := [vi l1, vi l2, vi l3]) (stk9 := [vi v1, vi 0, vr l4]) (OXX11_alter ev1) yw_X11_alter ci_11 ga3 wml_RL_113 wim_X11_alter wse_X11_alter (Nat.le_of_ble_eq_true rfl) rfl ⟨Nat.le_of_ble_eq_true rfl, Nat.le_of_ble_eq_true rfl⟩ (Nat.le_of_ble_eq_true rfl) dL_alter_7 (by cases fa3; rfl) rfl rfl ?_
  refine go_if_eq (tgt := 17) (n := 13) dL_alter_10 rfl rfl (fun c6 => ?_) (fun c6 => ?_)
  · simp only [if_pos c6] at E
    refine go_lconst (w := 0) (n := 18) rfl dL_alter_17 rfl ?_
    refine go_pick (lv' := []) [] rfl ?_
    exact SXL_alter_L18      _ _ _ _ E
  · simp only [if_neg c6] at E
    refine go_lconst (w := 1) (n := 14) rfl dL_alter_13 rfl ?_
    refine go_goto (tgt := 18) dL_alter_14 rfl ?_
    refine go_pick (lv' := []) [] rfl ?_
    exact SXL_alter_L18      _ _ _ _ E
theorem OXL_alter {F : Nat} {l0 : Option Nat} {l1 : Int} {l2 : Int} {l3 : Int} {l4 : Option Nat} {h hf : HP} {r : Int} (e : XL_alter F l0 l1 l2 l3 l4 h = some (r, hf)) : Ok ML_alter [vr l0, vi l1, vi l2, vi l3, vr l4] (some (vi r)) h hf := fun K _ _ _ => SXL_alter l0 l1 l2 l3 l4 h e
theorem yw_X11_as : YW yX11_as cX11_as 4 (some .int) 2 := ⟨bw_of 1038 (by decide +kernel) rfl, bw_of 117 (by decide +kernel) rfl, ⟨by decide +kernel, by decide +kernel, by decide +kernel⟩, by decide +kernel⟩
theorem wml_RL_32 : Cond.methodLink RL 32 yX11_as ∈ BW := bw_of 1035 (by decide +kernel) rfl
theorem wim_X11_as : Cond.instanceMethod yX11_as ∈ BW := bw_of 1036 (by decide +kernel) rfl
theorem wse_X11_as : Cond.selects RX11 yX11_as yX11_as ∈ BW := bw_of 1037 (by decide +kernel) rfl
abbrev ML_as : MI := (RL, cL_as, 5, (some .int), 14, some (tableOf [(0, 10, 13, 18)]), "as")
noncomputable def XL_as (F : Nat)   (l0 : Option Nat) (l1 : Int) (l2 : Int) (l3 : Option Nat)  (h : HP) : Option (Int × HP) :=
  (xrc h l0 11 6).bind fun a3 =>
  xct (X11_as F a3 l1 l2 h) (fun x4 h5 =>
    if x4 = "java/lang/IndexOutOfBoundsException" then
      some (1, h5)
    else
      none) fun v1 h2 =>
  (xsJ h2 l3 0 v1).bind fun h6 =>
  some (0, h6)
set_option maxRecDepth 100000 in
theorem SXL_as {K : Ctx} {F : Nat} {r : Int} {hf : HP}     (l0 : Option Nat) (l1 : Int) (l2 : Int) (l3 : Option Nat)  (h : HP) (E : XL_as F   l0 l1 l2 l3 h = some (r, hf)) : Go K ML_as (QM K (some (vi r)) hf) hf 0 [(0, vr l0), (1, vi l1), (2, vi l2), (3, vr l3)] [] h := by
  unfold XL_as at E
  refine go_aload_n (j := 3) (n := 1) rfl rfl dL_as_0 rfl ?_
  refine go_iconst (z := 0) (n := 2) ⟨by decide, by decide⟩ dL_as_1 rfl ?_
  refine go_aload_n (j := 0) (n := 3) rfl rfl dL_as_2 rfl ?_
  refine go_iload_n (j := 1) (n := 4) rfl rfl dL_as_3 rfl ?_
  refine go_iload_n (j := 2) (n := 5) rfl rfl dL_as_4 rfl ?_
  replace E := Option.bind_eq_some_iff.mp E; obtain ⟨a3, ea3, E⟩ := E
  obtain ⟨fa3, ga3⟩ := xrc_some ea3
  replace E := xct_some E; rcases E with ⟨x4, h5, ev1, E⟩ | ⟨v1, h2, ev1, E⟩
  · by_cases c7 : x4 = "java/lang/IndexOutOfBoundsException"
    · subst c7
      rw [if_pos rfl] at E
      refine go_callXVc (y := yX11_as) (n := 15) (as := [vi l1, vi l2]) (st := [vi 0, vr l3]) (pre := []) (x := ⟨0, 10, 13, 18⟩) (suf := []) (j := 4) (lv' := [(0, vr l0), (1, vi l1), (2, vi l2), (3, vr l3)]) (OXX11_as ev1) yw_X11_as ci_11 ga3 wml_RL_32 wim_X11_as wse_X11_as (Nat.le_of_ble_eq_true rfl) rfl ⟨Nat.le_of_ble_eq_true rfl, Nat.le_of_ble_eq_true rfl⟩ (Nat.le_of_ble_eq_true rfl) dL_as_5 (by cases fa3; rfl) rfl (fun z hz => by cases hz) rfl (by decide) wcx_RL_18 (by decide +kernel) (Or.inl ⟨dL_as_13, rfl⟩) (Nat.le_of_ble_eq_true rfl) rfl ?_
      refine go_iconst (z := 1) (n := 16) ⟨by decide, by decide⟩ dL_as_15 rfl ?_
      cases E
      exact go_ireturn rfl dL_as_16
    rw [if_neg c7] at E
    cases E
  refine go_callXVr (y := yX11_as) (n := 8) (st := [vi 0, vr l3]) (as := [vi l1, vi l2]) (stk9 := [vi v1, vi 0, vr l3]) (OXX11_as ev1) yw_X11_as ci_11 ga3 wml_RL_32 wim_X11_as wse_X11_as (Nat.le_of_ble_eq_true rfl) rfl ⟨Nat.le_of_ble_eq_true rfl, Nat.le_of_ble_eq_true rfl⟩ (Nat.le_of_ble_eq_true rfl) dL_as_5 (by cases fa3; rfl) rfl rfl ?_
  refine go_i2l (n := 9) dL_as_8 rfl ?_
  replace E := Option.bind_eq_some_iff.mp E; obtain ⟨h6, eh6, E⟩ := E
  refine go_lastore (n := 10) eh6 dL_as_9 rfl ?_
  refine go_goto (tgt := 17) dL_as_10 rfl ?_
  refine go_iconst (z := 0) (n := 18) ⟨by decide, by decide⟩ dL_as_17 rfl ?_
  cases E
  exact go_ireturn rfl dL_as_18
theorem OXL_as {F : Nat} {l0 : Option Nat} {l1 : Int} {l2 : Int} {l3 : Option Nat} {h hf : HP} {r : Int} (e : XL_as F l0 l1 l2 l3 h = some (r, hf)) : Ok ML_as [vr l0, vi l1, vi l2, vr l3] (some (vi r)) h hf := fun K _ _ _ => SXL_as l0 l1 l2 l3 h e
theorem yw_X11_cost : YW yX11_cost cX11_cost 2 (some .long) 1 := ⟨bw_of 1630 (by decide +kernel) rfl, bw_of 117 (by decide +kernel) rfl, ⟨by decide +kernel, by decide +kernel, by decide +kernel⟩, by decide +kernel⟩
theorem wml_RL_106 : Cond.methodLink RL 106 yX11_cost ∈ BW := bw_of 1627 (by decide +kernel) rfl
theorem wim_X11_cost : Cond.instanceMethod yX11_cost ∈ BW := bw_of 1628 (by decide +kernel) rfl
theorem wse_X11_cost : Cond.selects RX11 yX11_cost yX11_cost ∈ BW := bw_of 1629 (by decide +kernel) rfl
abbrev ML_cost : MI := (RL, cL_cost, 4, (some .int), 14, some (tableOf [(0, 8, 11, 18)]), "cost")
noncomputable def XL_cost (F : Nat)   (l0 : Option Nat) (l1 : Int) (l2 : Option Nat)  (h : HP) : Option (Int × HP) :=
  (xrc h l0 11 6).bind fun a3 =>
  xct (X11_cost F a3 l1 h) (fun x4 h5 =>
    if x4 = "java/lang/IndexOutOfBoundsException" then
      some (1, h5)
    else
      none) fun v1 h2 =>
  (xsJ h2 l2 0 v1).bind fun h6 =>
  some (0, h6)
set_option maxRecDepth 100000 in
theorem SXL_cost {K : Ctx} {F : Nat} {r : Int} {hf : HP}     (l0 : Option Nat) (l1 : Int) (l2 : Option Nat)  (h : HP) (E : XL_cost F   l0 l1 l2 h = some (r, hf)) : Go K ML_cost (QM K (some (vi r)) hf) hf 0 [(0, vr l0), (1, vi l1), (2, vr l2)] [] h := by
  unfold XL_cost at E
  refine go_aload_n (j := 2) (n := 1) rfl rfl dL_cost_0 rfl ?_
  refine go_iconst (z := 0) (n := 2) ⟨by decide, by decide⟩ dL_cost_1 rfl ?_
  refine go_aload_n (j := 0) (n := 3) rfl rfl dL_cost_2 rfl ?_
  refine go_iload_n (j := 1) (n := 4) rfl rfl dL_cost_3 rfl ?_
  replace E := Option.bind_eq_some_iff.mp E; obtain ⟨a3, ea3, E⟩ := E
  obtain ⟨fa3, ga3⟩ := xrc_some ea3
  replace E := xct_some E; rcases E with ⟨x4, h5, ev1, E⟩ | ⟨v1, h2, ev1, E⟩
  · by_cases c7 : x4 = "java/lang/IndexOutOfBoundsException"
    · subst c7
      rw [if_pos rfl] at E
      refine go_callXVc (y := yX11_cost) (n := 12) (as := [vi l1]) (st := [vi 0, vr l2]) (pre := []) (x := ⟨0, 8, 11, 18⟩) (suf := []) (j := 3) (lv' := [(0, vr l0), (1, vi l1), (2, vr l2)]) (OXX11_cost ev1) yw_X11_cost ci_11 ga3 wml_RL_106 wim_X11_cost wse_X11_cost (Nat.le_of_ble_eq_true rfl) rfl ⟨Nat.le_of_ble_eq_true rfl, Nat.le_of_ble_eq_true rfl⟩ (Nat.le_of_ble_eq_true rfl) dL_cost_4 (by cases fa3; rfl) rfl (fun z hz => by cases hz) rfl (by decide) wcx_RL_18 (by decide +kernel) (Or.inr ⟨3, rfl, dL_cost_11, rfl⟩) (Nat.le_of_ble_eq_true rfl) rfl ?_
      refine go_iconst (z := 1) (n := 13) ⟨by decide, by decide⟩ dL_cost_12 rfl ?_
      cases E
      exact go_ireturn rfl dL_cost_13
    rw [if_neg c7] at E
    cases E
  refine go_callXVr (y := yX11_cost) (n := 7) (st := [vi 0, vr l2]) (as := [vi l1]) (stk9 := [vl v1, vi 0, vr l2]) (OXX11_cost ev1) yw_X11_cost ci_11 ga3 wml_RL_106 wim_X11_cost wse_X11_cost (Nat.le_of_ble_eq_true rfl) rfl ⟨Nat.le_of_ble_eq_true rfl, Nat.le_of_ble_eq_true rfl⟩ (Nat.le_of_ble_eq_true rfl) dL_cost_4 (by cases fa3; rfl) rfl rfl ?_
  replace E := Option.bind_eq_some_iff.mp E; obtain ⟨h6, eh6, E⟩ := E
  refine go_lastore (n := 8) eh6 dL_cost_7 rfl ?_
  refine go_goto (tgt := 14) dL_cost_8 rfl ?_
  refine go_iconst (z := 0) (n := 15) ⟨by decide, by decide⟩ dL_cost_14 rfl ?_
  cases E
  exact go_ireturn rfl dL_cost_15
theorem OXL_cost {F : Nat} {l0 : Option Nat} {l1 : Int} {l2 : Option Nat} {h hf : HP} {r : Int} (e : XL_cost F l0 l1 l2 h = some (r, hf)) : Ok ML_cost [vr l0, vi l1, vr l2] (some (vi r)) h hf := fun K _ _ _ => SXL_cost l0 l1 l2 h e
theorem yw_X11_day : YW yX11_day cX11_day 3 none 2 := ⟨bw_of 881 (by decide +kernel) rfl, bw_of 117 (by decide +kernel) rfl, ⟨by decide +kernel, by decide +kernel, by decide +kernel⟩, by decide +kernel⟩
theorem wml_RL_7 : Cond.methodLink RL 7 yX11_day ∈ BW := bw_of 878 (by decide +kernel) rfl
theorem wim_X11_day : Cond.instanceMethod yX11_day ∈ BW := bw_of 879 (by decide +kernel) rfl
theorem wse_X11_day : Cond.selects RX11 yX11_day yX11_day ∈ BW := bw_of 880 (by decide +kernel) rfl
abbrev ML_day : MI := (RL, cL_day, 4, (some .int), 14, some (tableOf [(0, 6, 9, 13)]), "day")
noncomputable def XL_day (F : Nat)   (l0 : Option Nat) (l1 : Int) (l2 : Int)  (h : HP) : Option (Int × HP) :=
  (xrc h l0 11 6).bind fun a3 =>
  xct (X11_day F a3 l1 l2 h) (fun x4 h5 =>
    if x4 = "java/lang/IllegalArgumentException" then
      some (1, h5)
    else
      none) fun v1 h2 =>
  some (0, h2)
set_option maxRecDepth 100000 in
theorem SXL_day {K : Ctx} {F : Nat} {r : Int} {hf : HP}     (l0 : Option Nat) (l1 : Int) (l2 : Int)  (h : HP) (E : XL_day F   l0 l1 l2 h = some (r, hf)) : Go K ML_day (QM K (some (vi r)) hf) hf 0 [(0, vr l0), (1, vi l1), (2, vi l2)] [] h := by
  unfold XL_day at E
  refine go_aload_n (j := 0) (n := 1) rfl rfl dL_day_0 rfl ?_
  refine go_iload_n (j := 1) (n := 2) rfl rfl dL_day_1 rfl ?_
  refine go_iload_n (j := 2) (n := 3) rfl rfl dL_day_2 rfl ?_
  replace E := Option.bind_eq_some_iff.mp E; obtain ⟨a3, ea3, E⟩ := E
  obtain ⟨fa3, ga3⟩ := xrc_some ea3
  replace E := xct_some E; rcases E with ⟨x4, h5, ev1, E⟩ | ⟨v1, h2, ev1, E⟩
  · by_cases c6 : x4 = "java/lang/IllegalArgumentException"
    · subst c6
      rw [if_pos rfl] at E
      refine go_callXVc (y := yX11_day) (n := 10) (as := [vi l1, vi l2]) (st := []) (pre := []) (x := ⟨0, 6, 9, 13⟩) (suf := []) (j := 3) (lv' := [(0, vr l0), (1, vi l1), (2, vi l2)]) (OXX11_day ev1) yw_X11_day ci_11 ga3 wml_RL_7 wim_X11_day wse_X11_day (Nat.le_of_ble_eq_true rfl) rfl ⟨Nat.le_of_ble_eq_true rfl, Nat.le_of_ble_eq_true rfl⟩ (Nat.le_of_ble_eq_true rfl) dL_day_3 (by cases fa3; rfl) rfl (fun z hz => by cases hz) rfl (by decide) wcx_RL_13 (by decide +kernel) (Or.inr ⟨3, rfl, dL_day_9, rfl⟩) (Nat.le_of_ble_eq_true rfl) rfl ?_
      refine go_iconst (z := 1) (n := 11) ⟨by decide, by decide⟩ dL_day_10 rfl ?_
      cases E
      exact go_ireturn rfl dL_day_11
    rw [if_neg c6] at E
    cases E
  refine go_callXVr (y := yX11_day) (n := 6) (st := []) (as := [vi l1, vi l2]) (stk9 := []) (OXX11_day ev1) yw_X11_day ci_11 ga3 wml_RL_7 wim_X11_day wse_X11_day (Nat.le_of_ble_eq_true rfl) rfl ⟨Nat.le_of_ble_eq_true rfl, Nat.le_of_ble_eq_true rfl⟩ (Nat.le_of_ble_eq_true rfl) dL_day_3 (by cases fa3; rfl) rfl rfl ?_
  refine go_goto (tgt := 12) dL_day_6 rfl ?_
  refine go_iconst (z := 0) (n := 13) ⟨by decide, by decide⟩ dL_day_12 rfl ?_
  cases E
  exact go_ireturn rfl dL_day_13
theorem OXL_day {F : Nat} {l0 : Option Nat} {l1 : Int} {l2 : Int} {h hf : HP} {r : Int} (e : XL_day F l0 l1 l2 h = some (r, hf)) : Ok ML_day [vr l0, vi l1, vi l2] (some (vi r)) h hf := fun K _ _ _ => SXL_day l0 l1 l2 h e
theorem yw_X11_doubt : YW yX11_doubt cX11_doubt 5 (some .boolean) 2 := ⟨bw_of 1559 (by decide +kernel) rfl, bw_of 117 (by decide +kernel) rfl, ⟨by decide +kernel, by decide +kernel, by decide +kernel⟩, by decide +kernel⟩
theorem wml_RL_86 : Cond.methodLink RL 86 yX11_doubt ∈ BW := bw_of 1556 (by decide +kernel) rfl
theorem wim_X11_doubt : Cond.instanceMethod yX11_doubt ∈ BW := bw_of 1557 (by decide +kernel) rfl
theorem wse_X11_doubt : Cond.selects RX11 yX11_doubt yX11_doubt ∈ BW := bw_of 1558 (by decide +kernel) rfl
theorem wcx_RL_77 : Cond.classLink RL 77 "java/util/NoSuchElementException" ∈ BW := bw_of 1496 (by decide +kernel) rfl
abbrev ML_doubt : MI := (RL, cL_doubt, 5, (some .int), 14, some (tableOf [(0, 17, 20, 18), (0, 17, 24, 77)]), "doubt")
noncomputable def XL_doubt_L16 (F : Nat)    (s0 : Int) (s1 : Int) (s2 : Option Nat) (h : HP) : Option (Int × HP) :=
  (xsJ h s2 s1 s0).bind fun h1 =>
  some (0, h1)
set_option maxRecDepth 100000 in
theorem SXL_doubt_L16 {K : Ctx} {F : Nat} {r : Int} {hf : HP}      (s0 : Int) (s1 : Int) (s2 : Option Nat) (h : HP) (E : XL_doubt_L16 F   s0 s1 s2 h = some (r, hf)) : Go K ML_doubt (QM K (some (vi r)) hf) hf 16 [] [vl s0, vi s1, vr s2] h := by
  unfold XL_doubt_L16 at E
  replace E := Option.bind_eq_some_iff.mp E; obtain ⟨h1, eh1, E⟩ := E
  refine go_lastore (n := 17) eh1 dL_doubt_16 rfl ?_
  refine go_goto (tgt := 28) dL_doubt_17 rfl ?_
  refine go_iconst (z := 0) (n := 29) ⟨by decide, by decide⟩ dL_doubt_28 rfl ?_
  cases E
  exact go_ireturn rfl dL_doubt_29
noncomputable def XL_doubt (F : Nat)   (l0 : Option Nat) (l1 : Int) (l2 : Int) (l3 : Option Nat)  (h : HP) : Option (Int × HP) :=
  (xrc h l0 11 6).bind fun a3 =>
  xct (X11_doubt F a3 l1 l2 h) (fun x4 h5 =>
    if x4 = "java/lang/IndexOutOfBoundsException" then
      some (1, h5)
    else
      if x4 = "java/util/NoSuchElementException" then
        some (2, h5)
      else
        none) fun v1 h2 =>
  XL_doubt_L16 F (if v1 = 0 then 0 else 1) 0 l3 h2
set_option maxRecDepth 100000 in
theorem SXL_doubt {K : Ctx} {F : Nat} {r : Int} {hf : HP}     (l0 : Option Nat) (l1 : Int) (l2 : Int) (l3 : Option Nat)  (h : HP) (E : XL_doubt F   l0 l1 l2 l3 h = some (r, hf)) : Go K ML_doubt (QM K (some (vi r)) hf) hf 0 [(0, vr l0), (1, vi l1), (2, vi l2), (3, vr l3)] [] h := by
  unfold XL_doubt at E
  refine go_aload_n (j := 3) (n := 1) rfl rfl dL_doubt_0 rfl ?_
  refine go_iconst (z := 0) (n := 2) ⟨by decide, by decide⟩ dL_doubt_1 rfl ?_
  refine go_aload_n (j := 0) (n := 3) rfl rfl dL_doubt_2 rfl ?_
  refine go_iload_n (j := 1) (n := 4) rfl rfl dL_doubt_3 rfl ?_
  refine go_iload_n (j := 2) (n := 5) rfl rfl dL_doubt_4 rfl ?_
  replace E := Option.bind_eq_some_iff.mp E; obtain ⟨a3, ea3, E⟩ := E
  obtain ⟨fa3, ga3⟩ := xrc_some ea3
  replace E := xct_some E; rcases E with ⟨x4, h5, ev1, E⟩ | ⟨v1, h2, ev1, E⟩
  · by_cases c7 : x4 = "java/lang/IndexOutOfBoundsException"
    · subst c7
      rw [if_pos rfl] at E
      refine go_callXVc (y := yX11_doubt) (n := 22) (as := [vi l1, vi l2]) (st := [vi 0, vr l3]) (pre := []) (x := ⟨0, 17, 20, 18⟩) (suf := [⟨0, 17, 24, 77⟩]) (j := 4) (lv' := [(0, vr l0), (1, vi l1), (2, vi l2), (3, vr l3)]) (OXX11_doubt ev1) yw_X11_doubt ci_11 ga3 wml_RL_86 wim_X11_doubt wse_X11_doubt (Nat.le_of_ble_eq_true rfl) rfl ⟨Nat.le_of_ble_eq_true rfl, Nat.le_of_ble_eq_true rfl⟩ (Nat.le_of_ble_eq_true rfl) dL_doubt_5 (by cases fa3; rfl) rfl (fun z hz => by cases hz) rfl (by decide) wcx_RL_18 (by decide +kernel) (Or.inl ⟨dL_doubt_20, rfl⟩) (Nat.le_of_ble_eq_true rfl) rfl ?_
      refine go_iconst (z := 1) (n := 23) ⟨by decide, by decide⟩ dL_doubt_22 rfl ?_
      cases E
      exact go_ireturn rfl dL_doubt_23
    rw [if_neg c7] at E
    by_cases c8 : x4 = "java/util/NoSuchElementException"
    · subst c8
      rw [if_pos rfl] at E
      refine go_callXVc (y := yX11_doubt) (n := 26) (as := [vi l1, vi l2]) (st := [vi 0, vr l3]) (pre := [⟨0, 17, 20, 18⟩]) (x := ⟨0, 17, 24, 77⟩) (suf := []) (j := 4) (lv' := [(0, vr l0), (1, vi l1), (2, vi l2), (3, vr l3)]) (OXX11_doubt ev1) yw_X11_doubt ci_11 ga3 wml_RL_86 wim_X11_doubt wse_X11_doubt (Nat.le_of_ble_eq_true rfl) rfl ⟨Nat.le_of_ble_eq_true rfl, Nat.le_of_ble_eq_true rfl⟩ (Nat.le_of_ble_eq_true rfl) dL_doubt_5 (by cases fa3; rfl) rfl (by intro z hz; simp only [List.mem_cons, List.not_mem_nil, or_false] at hz; rcases hz with rfl <;> first | exact ⟨by decide, "java/lang/IndexOutOfBoundsException", wcx_RL_18, by decide +kernel⟩) rfl (by decide) wcx_RL_77 (by decide +kernel) (Or.inl ⟨dL_doubt_24, rfl⟩) (Nat.le_of_ble_eq_true rfl) rfl ?_
      refine go_iconst (z := 2) (n := 27) ⟨by decide, by decide⟩ dL_doubt_26 rfl ?_
      cases E
      exact go_ireturn rfl dL_doubt_27
    rw [if_neg c8] at E
    cases E
  refine go_callXVr (y := yX11_doubt) (n := 8) (st := [vi 0, vr l3]) (as := [vi l1, vi l2]) (stk9 := [vi v1, vi 0, vr l3]) (OXX11_doubt ev1) yw_X11_doubt ci_11 ga3 wml_RL_86 wim_X11_doubt wse_X11_doubt (Nat.le_of_ble_eq_true rfl) rfl ⟨Nat.le_of_ble_eq_true rfl, Nat.le_of_ble_eq_true rfl⟩ (Nat.le_of_ble_eq_true rfl) dL_doubt_5 (by cases fa3; rfl) rfl rfl ?_
  refine go_if_eq (tgt := 15) (n := 11) dL_doubt_8 rfl rfl (fun c6 => ?_) (fun c6 => ?_)
  · simp only [if_pos c6] at E
    refine go_lconst (w := 0) (n := 16) rfl dL_doubt_15 rfl ?_
    refine go_pick (lv' := []) [] rfl ?_
    exact SXL_doubt_L16      _ _ _ _ E
  · simp only [if_neg c6] at E
    refine go_lconst (w := 1) (n := 12) rfl dL_doubt_11 rfl ?_
    refine go_goto (tgt := 16) dL_doubt_12 rfl ?_
    refine go_pick (lv' := []) [] rfl ?_
    exact SXL_doubt_L16      _ _ _ _ E
theorem OXL_doubt {F : Nat} {l0 : Option Nat} {l1 : Int} {l2 : Int} {l3 : Option Nat} {h hf : HP} {r : Int} (e : XL_doubt F l0 l1 l2 l3 h = some (r, hf)) : Ok ML_doubt [vr l0, vi l1, vi l2, vr l3] (some (vi r)) h hf := fun K _ _ _ => SXL_doubt l0 l1 l2 l3 h e
theorem yw_X11_drop : YW yX11_drop cX11_drop 3 (some .boolean) 1 := ⟨bw_of 1348 (by decide +kernel) rfl, bw_of 117 (by decide +kernel) rfl, ⟨by decide +kernel, by decide +kernel, by decide +kernel⟩, by decide +kernel⟩
theorem wml_RL_59 : Cond.methodLink RL 59 yX11_drop ∈ BW := bw_of 1345 (by decide +kernel) rfl
theorem wim_X11_drop : Cond.instanceMethod yX11_drop ∈ BW := bw_of 1346 (by decide +kernel) rfl
theorem wse_X11_drop : Cond.selects RX11 yX11_drop yX11_drop ∈ BW := bw_of 1347 (by decide +kernel) rfl
abbrev ML_drop : MI := (RL, cL_drop, 4, (some .int), 14, some (tableOf [(0, 16, 19, 18)]), "drop")
noncomputable def XL_drop_L15 (F : Nat)    (s0 : Int) (s1 : Int) (s2 : Option Nat) (h : HP) : Option (Int × HP) :=
  (xsJ h s2 s1 s0).bind fun h1 =>
  some (0, h1)
set_option maxRecDepth 100000 in
theorem SXL_drop_L15 {K : Ctx} {F : Nat} {r : Int} {hf : HP}      (s0 : Int) (s1 : Int) (s2 : Option Nat) (h : HP) (E : XL_drop_L15 F   s0 s1 s2 h = some (r, hf)) : Go K ML_drop (QM K (some (vi r)) hf) hf 15 [] [vl s0, vi s1, vr s2] h := by
  unfold XL_drop_L15 at E
  replace E := Option.bind_eq_some_iff.mp E; obtain ⟨h1, eh1, E⟩ := E
  refine go_lastore (n := 16) eh1 dL_drop_15 rfl ?_
  refine go_goto (tgt := 22) dL_drop_16 rfl ?_
  refine go_iconst (z := 0) (n := 23) ⟨by decide, by decide⟩ dL_drop_22 rfl ?_
  cases E
  exact go_ireturn rfl dL_drop_23
noncomputable def XL_drop (F : Nat)   (l0 : Option Nat) (l1 : Int) (l2 : Option Nat)  (h : HP) : Option (Int × HP) :=
  (xrc h l0 11 6).bind fun a3 =>
  xct (X11_drop F a3 l1 h) (fun x4 h5 =>
    if x4 = "java/lang/IndexOutOfBoundsException" then
      some (1, h5)
    else
      none) fun v1 h2 =>
  XL_drop_L15 F (if v1 = 0 then 0 else 1) 0 l2 h2
set_option maxRecDepth 100000 in
theorem SXL_drop {K : Ctx} {F : Nat} {r : Int} {hf : HP}     (l0 : Option Nat) (l1 : Int) (l2 : Option Nat)  (h : HP) (E : XL_drop F   l0 l1 l2 h = some (r, hf)) : Go K ML_drop (QM K (some (vi r)) hf) hf 0 [(0, vr l0), (1, vi l1), (2, vr l2)] [] h := by
  unfold XL_drop at E
  refine go_aload_n (j := 2) (n := 1) rfl rfl dL_drop_0 rfl ?_
  refine go_iconst (z := 0) (n := 2) ⟨by decide, by decide⟩ dL_drop_1 rfl ?_
  refine go_aload_n (j := 0) (n := 3) rfl rfl dL_drop_2 rfl ?_
  refine go_iload_n (j := 1) (n := 4) rfl rfl dL_drop_3 rfl ?_
  replace E := Option.bind_eq_some_iff.mp E; obtain ⟨a3, ea3, E⟩ := E
  obtain ⟨fa3, ga3⟩ := xrc_some ea3
  replace E := xct_some E; rcases E with ⟨x4, h5, ev1, E⟩ | ⟨v1, h2, ev1, E⟩
  · by_cases c7 : x4 = "java/lang/IndexOutOfBoundsException"
    · subst c7
      rw [if_pos rfl] at E
      refine go_callXVc (y := yX11_drop) (n := 20) (as := [vi l1]) (st := [vi 0, vr l2]) (pre := []) (x := ⟨0, 16, 19, 18⟩) (suf := []) (j := 3) (lv' := [(0, vr l0), (1, vi l1), (2, vr l2)]) (OXX11_drop ev1) yw_X11_drop ci_11 ga3 wml_RL_59 wim_X11_drop wse_X11_drop (Nat.le_of_ble_eq_true rfl) rfl ⟨Nat.le_of_ble_eq_true rfl, Nat.le_of_ble_eq_true rfl⟩ (Nat.le_of_ble_eq_true rfl) dL_drop_4 (by cases fa3; rfl) rfl (fun z hz => by cases hz) rfl (by decide) wcx_RL_18 (by decide +kernel) (Or.inr ⟨3, rfl, dL_drop_19, rfl⟩) (Nat.le_of_ble_eq_true rfl) rfl ?_
      refine go_iconst (z := 1) (n := 21) ⟨by decide, by decide⟩ dL_drop_20 rfl ?_
      cases E
      exact go_ireturn rfl dL_drop_21
    rw [if_neg c7] at E
    cases E
  refine go_callXVr (y := yX11_drop) (n := 7) (st := [vi 0, vr l2]) (as := [vi l1]) (stk9 := [vi v1, vi 0, vr l2]) (OXX11_drop ev1) yw_X11_drop ci_11 ga3 wml_RL_59 wim_X11_drop wse_X11_drop (Nat.le_of_ble_eq_true rfl) rfl ⟨Nat.le_of_ble_eq_true rfl, Nat.le_of_ble_eq_true rfl⟩ (Nat.le_of_ble_eq_true rfl) dL_drop_4 (by cases fa3; rfl) rfl rfl ?_
  refine go_if_eq (tgt := 14) (n := 10) dL_drop_7 rfl rfl (fun c6 => ?_) (fun c6 => ?_)
  · simp only [if_pos c6] at E
    refine go_lconst (w := 0) (n := 15) rfl dL_drop_14 rfl ?_
    refine go_pick (lv' := []) [] rfl ?_
    exact SXL_drop_L15      _ _ _ _ E
  · simp only [if_neg c6] at E
    refine go_lconst (w := 1) (n := 11) rfl dL_drop_10 rfl ?_
    refine go_goto (tgt := 15) dL_drop_11 rfl ?_
    refine go_pick (lv' := []) [] rfl ?_
    exact SXL_drop_L15      _ _ _ _ E
theorem OXL_drop {F : Nat} {l0 : Option Nat} {l1 : Int} {l2 : Option Nat} {h hf : HP} {r : Int} (e : XL_drop F l0 l1 l2 h = some (r, hf)) : Ok ML_drop [vr l0, vi l1, vr l2] (some (vi r)) h hf := fun K _ _ _ => SXL_drop l0 l1 l2 h e
theorem yw_X11_far : YW yX11_far cX11_far 4 (some .boolean) 2 := ⟨bw_of 1595 (by decide +kernel) rfl, bw_of 117 (by decide +kernel) rfl, ⟨by decide +kernel, by decide +kernel, by decide +kernel⟩, by decide +kernel⟩
theorem wml_RL_96 : Cond.methodLink RL 96 yX11_far ∈ BW := bw_of 1592 (by decide +kernel) rfl
theorem wim_X11_far : Cond.instanceMethod yX11_far ∈ BW := bw_of 1593 (by decide +kernel) rfl
theorem wse_X11_far : Cond.selects RX11 yX11_far yX11_far ∈ BW := bw_of 1594 (by decide +kernel) rfl
abbrev ML_far : MI := (RL, cL_far, 5, (some .int), 14, some (tableOf [(0, 17, 20, 18)]), "far")
noncomputable def XL_far_L16 (F : Nat)    (s0 : Int) (s1 : Int) (s2 : Option Nat) (h : HP) : Option (Int × HP) :=
  (xsJ h s2 s1 s0).bind fun h1 =>
  some (0, h1)
set_option maxRecDepth 100000 in
theorem SXL_far_L16 {K : Ctx} {F : Nat} {r : Int} {hf : HP}      (s0 : Int) (s1 : Int) (s2 : Option Nat) (h : HP) (E : XL_far_L16 F   s0 s1 s2 h = some (r, hf)) : Go K ML_far (QM K (some (vi r)) hf) hf 16 [] [vl s0, vi s1, vr s2] h := by
  unfold XL_far_L16 at E
  replace E := Option.bind_eq_some_iff.mp E; obtain ⟨h1, eh1, E⟩ := E
  refine go_lastore (n := 17) eh1 dL_far_16 rfl ?_
  refine go_goto (tgt := 24) dL_far_17 rfl ?_
  refine go_iconst (z := 0) (n := 25) ⟨by decide, by decide⟩ dL_far_24 rfl ?_
  cases E
  exact go_ireturn rfl dL_far_25
noncomputable def XL_far (F : Nat)   (l0 : Option Nat) (l1 : Int) (l2 : Int) (l3 : Option Nat)  (h : HP) : Option (Int × HP) :=
  (xrc h l0 11 6).bind fun a3 =>
  xct (X11_far F a3 l1 l2 h) (fun x4 h5 =>
    if x4 = "java/lang/IndexOutOfBoundsException" then
      some (1, h5)
    else
      none) fun v1 h2 =>
  XL_far_L16 F (if v1 = 0 then 0 else 1) 0 l3 h2
set_option maxRecDepth 100000 in
theorem SXL_far {K : Ctx} {F : Nat} {r : Int} {hf : HP}     (l0 : Option Nat) (l1 : Int) (l2 : Int) (l3 : Option Nat)  (h : HP) (E : XL_far F   l0 l1 l2 l3 h = some (r, hf)) : Go K ML_far (QM K (some (vi r)) hf) hf 0 [(0, vr l0), (1, vi l1), (2, vi l2), (3, vr l3)] [] h := by
  unfold XL_far at E
  refine go_aload_n (j := 3) (n := 1) rfl rfl dL_far_0 rfl ?_
  refine go_iconst (z := 0) (n := 2) ⟨by decide, by decide⟩ dL_far_1 rfl ?_
  refine go_aload_n (j := 0) (n := 3) rfl rfl dL_far_2 rfl ?_
  refine go_iload_n (j := 1) (n := 4) rfl rfl dL_far_3 rfl ?_
  refine go_iload_n (j := 2) (n := 5) rfl rfl dL_far_4 rfl ?_
  replace E := Option.bind_eq_some_iff.mp E; obtain ⟨a3, ea3, E⟩ := E
  obtain ⟨fa3, ga3⟩ := xrc_some ea3
  replace E := xct_some E; rcases E with ⟨x4, h5, ev1, E⟩ | ⟨v1, h2, ev1, E⟩
  · by_cases c7 : x4 = "java/lang/IndexOutOfBoundsException"
    · subst c7
      rw [if_pos rfl] at E
      refine go_callXVc (y := yX11_far) (n := 22) (as := [vi l1, vi l2]) (st := [vi 0, vr l3]) (pre := []) (x := ⟨0, 17, 20, 18⟩) (suf := []) (j := 4) (lv' := [(0, vr l0), (1, vi l1), (2, vi l2), (3, vr l3)]) (OXX11_far ev1) yw_X11_far ci_11 ga3 wml_RL_96 wim_X11_far wse_X11_far (Nat.le_of_ble_eq_true rfl) rfl ⟨Nat.le_of_ble_eq_true rfl, Nat.le_of_ble_eq_true rfl⟩ (Nat.le_of_ble_eq_true rfl) dL_far_5 (by cases fa3; rfl) rfl (fun z hz => by cases hz) rfl (by decide) wcx_RL_18 (by decide +kernel) (Or.inl ⟨dL_far_20, rfl⟩) (Nat.le_of_ble_eq_true rfl) rfl ?_
      refine go_iconst (z := 1) (n := 23) ⟨by decide, by decide⟩ dL_far_22 rfl ?_
      cases E
      exact go_ireturn rfl dL_far_23
    rw [if_neg c7] at E
    cases E
  refine go_callXVr (y := yX11_far) (n := 8) (st := [vi 0, vr l3]) (as := [vi l1, vi l2]) (stk9 := [vi v1, vi 0, vr l3]) (OXX11_far ev1) yw_X11_far ci_11 ga3 wml_RL_96 wim_X11_far wse_X11_far (Nat.le_of_ble_eq_true rfl) rfl ⟨Nat.le_of_ble_eq_true rfl, Nat.le_of_ble_eq_true rfl⟩ (Nat.le_of_ble_eq_true rfl) dL_far_5 (by cases fa3; rfl) rfl rfl ?_
  refine go_if_eq (tgt := 15) (n := 11) dL_far_8 rfl rfl (fun c6 => ?_) (fun c6 => ?_)
  · simp only [if_pos c6] at E
    refine go_lconst (w := 0) (n := 16) rfl dL_far_15 rfl ?_
    refine go_pick (lv' := []) [] rfl ?_
    exact SXL_far_L16      _ _ _ _ E
  · simp only [if_neg c6] at E
    refine go_lconst (w := 1) (n := 12) rfl dL_far_11 rfl ?_
    refine go_goto (tgt := 16) dL_far_12 rfl ?_
    refine go_pick (lv' := []) [] rfl ?_
    exact SXL_far_L16      _ _ _ _ E
theorem OXL_far {F : Nat} {l0 : Option Nat} {l1 : Int} {l2 : Int} {l3 : Option Nat} {h hf : HP} {r : Int} (e : XL_far F l0 l1 l2 l3 h = some (r, hf)) : Ok ML_far [vr l0, vi l1, vi l2, vr l3] (some (vi r)) h hf := fun K _ _ _ => SXL_far l0 l1 l2 l3 h e
theorem yw_X11_fleet : YW yX11_fleet cX11_fleet 6 none 5 := ⟨bw_of 1617 (by decide +kernel) rfl, bw_of 117 (by decide +kernel) rfl, ⟨by decide +kernel, by decide +kernel, by decide +kernel⟩, by decide +kernel⟩
theorem wml_RL_103 : Cond.methodLink RL 103 yX11_fleet ∈ BW := bw_of 1614 (by decide +kernel) rfl
theorem wim_X11_fleet : Cond.instanceMethod yX11_fleet ∈ BW := bw_of 1615 (by decide +kernel) rfl
theorem wse_X11_fleet : Cond.selects RX11 yX11_fleet yX11_fleet ∈ BW := bw_of 1616 (by decide +kernel) rfl
abbrev ML_fleet : MI := (RL, cL_fleet, 7, (some .int), 14, some (tableOf [(0, 11, 14, 13)]), "fleet")
noncomputable def XL_fleet (F : Nat)   (l0 : Option Nat) (l1 : Int) (l2 : Int) (l3 : Int) (l4 : Int) (l5 : Int)  (h : HP) : Option (Int × HP) :=
  (xrc h l0 11 6).bind fun a3 =>
  xct (X11_fleet F a3 l1 l2 l3 l4 l5 h) (fun x4 h5 =>
    if x4 = "java/lang/IllegalArgumentException" then
      some (1, h5)
    else
      none) fun v1 h2 =>
  some (0, h2)
set_option maxRecDepth 100000 in
theorem SXL_fleet {K : Ctx} {F : Nat} {r : Int} {hf : HP}     (l0 : Option Nat) (l1 : Int) (l2 : Int) (l3 : Int) (l4 : Int) (l5 : Int)  (h : HP) (E : XL_fleet F   l0 l1 l2 l3 l4 l5 h = some (r, hf)) : Go K ML_fleet (QM K (some (vi r)) hf) hf 0 [(0, vr l0), (1, vi l1), (2, vi l2), (3, vi l3), (4, vi l4), (5, vi l5)] [] h := by
  unfold XL_fleet at E
  refine go_aload_n (j := 0) (n := 1) rfl rfl dL_fleet_0 rfl ?_
  refine go_iload_n (j := 1) (n := 2) rfl rfl dL_fleet_1 rfl ?_
  refine go_iload_n (j := 2) (n := 3) rfl rfl dL_fleet_2 rfl ?_
  refine go_iload_n (j := 3) (n := 4) rfl rfl dL_fleet_3 rfl ?_
  refine go_iload (j := 4) (n := 6) rfl dL_fleet_4 rfl ?_
  refine go_iload (j := 5) (n := 8) rfl dL_fleet_6 rfl ?_
  replace E := Option.bind_eq_some_iff.mp E; obtain ⟨a3, ea3, E⟩ := E
  obtain ⟨fa3, ga3⟩ := xrc_some ea3
  replace E := xct_some E; rcases E with ⟨x4, h5, ev1, E⟩ | ⟨v1, h2, ev1, E⟩
  · by_cases c6 : x4 = "java/lang/IllegalArgumentException"
    · subst c6
      rw [if_pos rfl] at E
      refine go_callXVc (y := yX11_fleet) (n := 16) (as := [vi l1, vi l2, vi l3, vi l4, vi l5]) (st := []) (pre := []) (x := ⟨0, 11, 14, 13⟩) (suf := []) (j := 6) (lv' := [(0, vr l0), (1, vi l1), (2, vi l2), (3, vi l3), (4, vi l4), (5, vi l5)]) (OXX11_fleet ev1) yw_X11_fleet ci_11 ga3 wml_RL_103 wim_X11_fleet wse_X11_fleet (Nat.le_of_ble_eq_true rfl) rfl ⟨Nat.le_of_ble_eq_true rfl, Nat.le_of_ble_eq_true rfl⟩ (Nat.le_of_ble_eq_true rfl) dL_fleet_8 (by cases fa3; rfl) rfl (fun z hz => by cases hz) rfl (by decide) wcx_RL_13 (by decide +kernel) (Or.inl ⟨dL_fleet_14, rfl⟩) (Nat.le_of_ble_eq_true rfl) rfl ?_
      refine go_iconst (z := 1) (n := 17) ⟨by decide, by decide⟩ dL_fleet_16 rfl ?_
      cases E
      exact go_ireturn rfl dL_fleet_17
    rw [if_neg c6] at E
    cases E
  refine go_callXVr (y := yX11_fleet) (n := 11) (st := []) (as := [vi l1, vi l2, vi l3, vi l4, vi l5]) (stk9 := []) (OXX11_fleet ev1) yw_X11_fleet ci_11 ga3 wml_RL_103 wim_X11_fleet wse_X11_fleet (Nat.le_of_ble_eq_true rfl) rfl ⟨Nat.le_of_ble_eq_true rfl, Nat.le_of_ble_eq_true rfl⟩ (Nat.le_of_ble_eq_true rfl) dL_fleet_8 (by cases fa3; rfl) rfl rfl ?_
  refine go_goto (tgt := 18) dL_fleet_11 rfl ?_
  refine go_iconst (z := 0) (n := 19) ⟨by decide, by decide⟩ dL_fleet_18 rfl ?_
  cases E
  exact go_ireturn rfl dL_fleet_19
theorem OXL_fleet {F : Nat} {l0 : Option Nat} {l1 : Int} {l2 : Int} {l3 : Int} {l4 : Int} {l5 : Int} {h hf : HP} {r : Int} (e : XL_fleet F l0 l1 l2 l3 l4 l5 h = some (r, hf)) : Ok ML_fleet [vr l0, vi l1, vi l2, vi l3, vi l4, vi l5] (some (vi r)) h hf := fun K _ _ _ => SXL_fleet l0 l1 l2 l3 l4 l5 h e
theorem yw_X11_foretell : YW yX11_foretell cX11_foretell 4 (some .int) 3 := ⟨bw_of 1578 (by decide +kernel) rfl, bw_of 117 (by decide +kernel) rfl, ⟨by decide +kernel, by decide +kernel, by decide +kernel⟩, by decide +kernel⟩
theorem wml_RL_93 : Cond.methodLink RL 93 yX11_foretell ∈ BW := bw_of 1575 (by decide +kernel) rfl
theorem wim_X11_foretell : Cond.instanceMethod yX11_foretell ∈ BW := bw_of 1576 (by decide +kernel) rfl
theorem wse_X11_foretell : Cond.selects RX11 yX11_foretell yX11_foretell ∈ BW := bw_of 1577 (by decide +kernel) rfl
abbrev ML_foretell : MI := (RL, cL_foretell, 6, (some .int), 14, some (tableOf [(0, 12, 15, 18), (0, 12, 19, 77)]), "foretell")
noncomputable def XL_foretell (F : Nat)   (l0 : Option Nat) (l1 : Int) (l2 : Int) (l3 : Int) (l4 : Option Nat)  (h : HP) : Option (Int × HP) :=
  (xrc h l0 11 6).bind fun a3 =>
  xct (X11_foretell F a3 l1 l2 l3 h) (fun x4 h5 =>
    if x4 = "java/lang/IndexOutOfBoundsException" then
      some (1, h5)
    else
      if x4 = "java/util/NoSuchElementException" then
        some (2, h5)
      else
        none) fun v1 h2 =>
  (xsJ h2 l4 0 v1).bind fun h6 =>
  some (0, h6)
set_option maxRecDepth 100000 in
theorem SXL_foretell {K : Ctx} {F : Nat} {r : Int} {hf : HP}     (l0 : Option Nat) (l1 : Int) (l2 : Int) (l3 : Int) (l4 : Option Nat)  (h : HP) (E : XL_foretell F   l0 l1 l2 l3 l4 h = some (r, hf)) : Go K ML_foretell (QM K (some (vi r)) hf) hf 0 [(0, vr l0), (1, vi l1), (2, vi l2), (3, vi l3), (4, vr l4)] [] h := by
  unfold XL_foretell at E
  refine go_aload (j := 4) (n := 2) rfl dL_foretell_0 rfl ?_
  refine go_iconst (z := 0) (n := 3) ⟨by decide, by decide⟩ dL_foretell_2 rfl ?_
  refine go_aload_n (j := 0) (n := 4) rfl rfl dL_foretell_3 rfl ?_
  refine go_iload_n (j := 1) (n := 5) rfl rfl dL_foretell_4 rfl ?_
  refine go_iload_n (j := 2) (n := 6) rfl rfl dL_foretell_5 rfl ?_
  refine go_iload_n (j := 3) (n := 7) rfl rfl dL_foretell_6 rfl ?_
  replace E := Option.bind_eq_some_iff.mp E; obtain ⟨a3, ea3, E⟩ := E
  obtain ⟨fa3, ga3⟩ := xrc_some ea3
  replace E := xct_some E; rcases E with ⟨x4, h5, ev1, E⟩ | ⟨v1, h2, ev1, E⟩
  · by_cases c7 : x4 = "java/lang/IndexOutOfBoundsException"
    · subst c7
      rw [if_pos rfl] at E
      refine go_callXVc (y := yX11_foretell) (n := 17) (as := [vi l1, vi l2, vi l3]) (st := [vi 0, vr l4]) (pre := []) (x := ⟨0, 12, 15, 18⟩) (suf := [⟨0, 12, 19, 77⟩]) (j := 5) (lv' := [(0, vr l0), (1, vi l1), (2, vi l2), (3, vi l3), (4, vr l4)]) (OXX11_foretell ev1) yw_X11_foretell ci_11 ga3 wml_RL_93 wim_X11_foretell wse_X11_foretell (Nat.le_of_ble_eq_true rfl) rfl ⟨Nat.le_of_ble_eq_true rfl, Nat.le_of_ble_eq_true rfl⟩ (Nat.le_of_ble_eq_true rfl) dL_foretell_7 (by cases fa3; rfl) rfl (fun z hz => by cases hz) rfl (by decide) wcx_RL_18 (by decide +kernel) (Or.inl ⟨dL_foretell_15, rfl⟩) (Nat.le_of_ble_eq_true rfl) rfl ?_
      refine go_iconst (z := 1) (n := 18) ⟨by decide, by decide⟩ dL_foretell_17 rfl ?_
      cases E
      exact go_ireturn rfl dL_foretell_18
    rw [if_neg c7] at E
    by_cases c8 : x4 = "java/util/NoSuchElementException"
    · subst c8
      rw [if_pos rfl] at E
      refine go_callXVc (y := yX11_foretell) (n := 21) (as := [vi l1, vi l2, vi l3]) (st := [vi 0, vr l4]) (pre := [⟨0, 12, 15, 18⟩]) (x := ⟨0, 12, 19, 77⟩) (suf := []) (j := 5) (lv' := [(0, vr l0), (1, vi l1), (2, vi l2), (3, vi l3), (4, vr l4)]) (OXX11_foretell ev1) yw_X11_foretell ci_11 ga3 wml_RL_93 wim_X11_foretell wse_X11_foretell (Nat.le_of_ble_eq_true rfl) rfl ⟨Nat.le_of_ble_eq_true rfl, Nat.le_of_ble_eq_true rfl⟩ (Nat.le_of_ble_eq_true rfl) dL_foretell_7 (by cases fa3; rfl) rfl (by intro z hz; simp only [List.mem_cons, List.not_mem_nil, or_false] at hz; rcases hz with rfl <;> first | exact ⟨by decide, "java/lang/IndexOutOfBoundsException", wcx_RL_18, by decide +kernel⟩) rfl (by decide) wcx_RL_77 (by decide +kernel) (Or.inl ⟨dL_foretell_19, rfl⟩) (Nat.le_of_ble_eq_true rfl) rfl ?_
      refine go_iconst (z := 2) (n := 22) ⟨by decide, by decide⟩ dL_foretell_21 rfl ?_
      cases E
      exact go_ireturn rfl dL_foretell_22
    rw [if_neg c8] at E
    cases E
  refine go_callXVr (y := yX11_foretell) (n := 10) (st := [vi 0, vr l4]) (as := [vi l1, vi l2, vi l3]) (stk9 := [vi v1, vi 0, vr l4]) (OXX11_foretell ev1) yw_X11_foretell ci_11 ga3 wml_RL_93 wim_X11_foretell wse_X11_foretell (Nat.le_of_ble_eq_true rfl) rfl ⟨Nat.le_of_ble_eq_true rfl, Nat.le_of_ble_eq_true rfl⟩ (Nat.le_of_ble_eq_true rfl) dL_foretell_7 (by cases fa3; rfl) rfl rfl ?_
  refine go_i2l (n := 11) dL_foretell_10 rfl ?_
  replace E := Option.bind_eq_some_iff.mp E; obtain ⟨h6, eh6, E⟩ := E
  refine go_lastore (n := 12) eh6 dL_foretell_11 rfl ?_
  refine go_goto (tgt := 23) dL_foretell_12 rfl ?_
  refine go_iconst (z := 0) (n := 24) ⟨by decide, by decide⟩ dL_foretell_23 rfl ?_
  cases E
  exact go_ireturn rfl dL_foretell_24
theorem OXL_foretell {F : Nat} {l0 : Option Nat} {l1 : Int} {l2 : Int} {l3 : Int} {l4 : Option Nat} {h hf : HP} {r : Int} (e : XL_foretell F l0 l1 l2 l3 l4 h = some (r, hf)) : Ok ML_foretell [vr l0, vi l1, vi l2, vi l3, vr l4] (some (vi r)) h hf := fun K _ _ _ => SXL_foretell l0 l1 l2 l3 l4 h e
theorem yw_X11_good : YW yX11_good cX11_good 6 none 5 := ⟨bw_of 1606 (by decide +kernel) rfl, bw_of 117 (by decide +kernel) rfl, ⟨by decide +kernel, by decide +kernel, by decide +kernel⟩, by decide +kernel⟩
theorem wml_RL_99 : Cond.methodLink RL 99 yX11_good ∈ BW := bw_of 1603 (by decide +kernel) rfl
theorem wim_X11_good : Cond.instanceMethod yX11_good ∈ BW := bw_of 1604 (by decide +kernel) rfl
theorem wse_X11_good : Cond.selects RX11 yX11_good yX11_good ∈ BW := bw_of 1605 (by decide +kernel) rfl
abbrev ML_good : MI := (RL, cL_good, 7, (some .int), 14, some (tableOf [(0, 11, 14, 18), (0, 11, 18, 13)]), "good")
noncomputable def XL_good (F : Nat)   (l0 : Option Nat) (l1 : Int) (l2 : Int) (l3 : Int) (l4 : Int) (l5 : Int)  (h : HP) : Option (Int × HP) :=
  (xrc h l0 11 6).bind fun a3 =>
  xct (X11_good F a3 l1 l2 l3 l4 l5 h) (fun x4 h5 =>
    if x4 = "java/lang/IndexOutOfBoundsException" then
      some (1, h5)
    else
      if x4 = "java/lang/IllegalArgumentException" then
        some (2, h5)
      else
        none) fun v1 h2 =>
  some (0, h2)
set_option maxRecDepth 100000 in
theorem SXL_good {K : Ctx} {F : Nat} {r : Int} {hf : HP}     (l0 : Option Nat) (l1 : Int) (l2 : Int) (l3 : Int) (l4 : Int) (l5 : Int)  (h : HP) (E : XL_good F   l0 l1 l2 l3 l4 l5 h = some (r, hf)) : Go K ML_good (QM K (some (vi r)) hf) hf 0 [(0, vr l0), (1, vi l1), (2, vi l2), (3, vi l3), (4, vi l4), (5, vi l5)] [] h := by
  unfold XL_good at E
  refine go_aload_n (j := 0) (n := 1) rfl rfl dL_good_0 rfl ?_
  refine go_iload_n (j := 1) (n := 2) rfl rfl dL_good_1 rfl ?_
  refine go_iload_n (j := 2) (n := 3) rfl rfl dL_good_2 rfl ?_
  refine go_iload_n (j := 3) (n := 4) rfl rfl dL_good_3 rfl ?_
  refine go_iload (j := 4) (n := 6) rfl dL_good_4 rfl ?_
  refine go_iload (j := 5) (n := 8) rfl dL_good_6 rfl ?_
  replace E := Option.bind_eq_some_iff.mp E; obtain ⟨a3, ea3, E⟩ := E
  obtain ⟨fa3, ga3⟩ := xrc_some ea3
  replace E := xct_some E; rcases E with ⟨x4, h5, ev1, E⟩ | ⟨v1, h2, ev1, E⟩
  · by_cases c6 : x4 = "java/lang/IndexOutOfBoundsException"
    · subst c6
      rw [if_pos rfl] at E
      refine go_callXVc (y := yX11_good) (n := 16) (as := [vi l1, vi l2, vi l3, vi l4, vi l5]) (st := []) (pre := []) (x := ⟨0, 11, 14, 18⟩) (suf := [⟨0, 11, 18, 13⟩]) (j := 6) (lv' := [(0, vr l0), (1, vi l1), (2, vi l2), (3, vi l3), (4, vi l4), (5, vi l5)]) (OXX11_good ev1) yw_X11_good ci_11 ga3 wml_RL_99 wim_X11_good wse_X11_good (Nat.le_of_ble_eq_true rfl) rfl ⟨Nat.le_of_ble_eq_true rfl, Nat.le_of_ble_eq_true rfl⟩ (Nat.le_of_ble_eq_true rfl) dL_good_8 (by cases fa3; rfl) rfl (fun z hz => by cases hz) rfl (by decide) wcx_RL_18 (by decide +kernel) (Or.inl ⟨dL_good_14, rfl⟩) (Nat.le_of_ble_eq_true rfl) rfl ?_
      refine go_iconst (z := 1) (n := 17) ⟨by decide, by decide⟩ dL_good_16 rfl ?_
      cases E
      exact go_ireturn rfl dL_good_17
    rw [if_neg c6] at E
    by_cases c7 : x4 = "java/lang/IllegalArgumentException"
    · subst c7
      rw [if_pos rfl] at E
      refine go_callXVc (y := yX11_good) (n := 20) (as := [vi l1, vi l2, vi l3, vi l4, vi l5]) (st := []) (pre := [⟨0, 11, 14, 18⟩]) (x := ⟨0, 11, 18, 13⟩) (suf := []) (j := 6) (lv' := [(0, vr l0), (1, vi l1), (2, vi l2), (3, vi l3), (4, vi l4), (5, vi l5)]) (OXX11_good ev1) yw_X11_good ci_11 ga3 wml_RL_99 wim_X11_good wse_X11_good (Nat.le_of_ble_eq_true rfl) rfl ⟨Nat.le_of_ble_eq_true rfl, Nat.le_of_ble_eq_true rfl⟩ (Nat.le_of_ble_eq_true rfl) dL_good_8 (by cases fa3; rfl) rfl (by intro z hz; simp only [List.mem_cons, List.not_mem_nil, or_false] at hz; rcases hz with rfl <;> first | exact ⟨by decide, "java/lang/IndexOutOfBoundsException", wcx_RL_18, by decide +kernel⟩) rfl (by decide) wcx_RL_13 (by decide +kernel) (Or.inl ⟨dL_good_18, rfl⟩) (Nat.le_of_ble_eq_true rfl) rfl ?_
      refine go_iconst (z := 2) (n := 21) ⟨by decide, by decide⟩ dL_good_20 rfl ?_
      cases E
      exact go_ireturn rfl dL_good_21
    rw [if_neg c7] at E
    cases E
  refine go_callXVr (y := yX11_good) (n := 11) (st := []) (as := [vi l1, vi l2, vi l3, vi l4, vi l5]) (stk9 := []) (OXX11_good ev1) yw_X11_good ci_11 ga3 wml_RL_99 wim_X11_good wse_X11_good (Nat.le_of_ble_eq_true rfl) rfl ⟨Nat.le_of_ble_eq_true rfl, Nat.le_of_ble_eq_true rfl⟩ (Nat.le_of_ble_eq_true rfl) dL_good_8 (by cases fa3; rfl) rfl rfl ?_
  refine go_goto (tgt := 22) dL_good_11 rfl ?_
  refine go_iconst (z := 0) (n := 23) ⟨by decide, by decide⟩ dL_good_22 rfl ?_
  cases E
  exact go_ireturn rfl dL_good_23
theorem OXL_good {F : Nat} {l0 : Option Nat} {l1 : Int} {l2 : Int} {l3 : Int} {l4 : Int} {l5 : Int} {h hf : HP} {r : Int} (e : XL_good F l0 l1 l2 l3 l4 l5 h = some (r, hf)) : Ok ML_good [vr l0, vi l1, vi l2, vi l3, vi l4, vi l5] (some (vi r)) h hf := fun K _ _ _ => SXL_good l0 l1 l2 l3 l4 l5 h e
theorem yw_X11_job : YW yX11_job cX11_job 9 (some .int) 5 := ⟨bw_of 1065 (by decide +kernel) rfl, bw_of 117 (by decide +kernel) rfl, ⟨by decide +kernel, by decide +kernel, by decide +kernel⟩, by decide +kernel⟩
theorem wml_RL_38 : Cond.methodLink RL 38 yX11_job ∈ BW := bw_of 1062 (by decide +kernel) rfl
theorem wim_X11_job : Cond.instanceMethod yX11_job ∈ BW := bw_of 1063 (by decide +kernel) rfl
theorem wse_X11_job : Cond.selects RX11 yX11_job yX11_job ∈ BW := bw_of 1064 (by decide +kernel) rfl
theorem wcx_RL_42 : Cond.classLink RL 42 "java/lang/UnsupportedOperationException" ∈ BW := bw_of 1061 (by decide +kernel) rfl
abbrev ML_job : MI := (RL, cL_job, 8, (some .int), 14, some (tableOf [(0, 16, 19, 13), (0, 16, 23, 42)]), "job")
noncomputable def XL_job (F : Nat)   (l0 : Option Nat) (l1 : Int) (l2 : Int) (l3 : Int) (l4 : Int) (l5 : Int) (l6 : Option Nat)  (h : HP) : Option (Int × HP) :=
  (xrc h l0 11 6).bind fun a3 =>
  xct (X11_job F a3 l1 l2 l3 l4 l5 h) (fun x4 h5 =>
    if x4 = "java/lang/IllegalArgumentException" then
      some (1, h5)
    else
      if x4 = "java/lang/UnsupportedOperationException" then
        some (2, h5)
      else
        none) fun v1 h2 =>
  (xsJ h2 l6 0 v1).bind fun h6 =>
  some (0, h6)
set_option maxRecDepth 100000 in
theorem SXL_job {K : Ctx} {F : Nat} {r : Int} {hf : HP}     (l0 : Option Nat) (l1 : Int) (l2 : Int) (l3 : Int) (l4 : Int) (l5 : Int) (l6 : Option Nat)  (h : HP) (E : XL_job F   l0 l1 l2 l3 l4 l5 l6 h = some (r, hf)) : Go K ML_job (QM K (some (vi r)) hf) hf 0 [(0, vr l0), (1, vi l1), (2, vi l2), (3, vi l3), (4, vi l4), (5, vi l5), (6, vr l6)] [] h := by
  unfold XL_job at E
  refine go_aload (j := 6) (n := 2) rfl dL_job_0 rfl ?_
  refine go_iconst (z := 0) (n := 3) ⟨by decide, by decide⟩ dL_job_2 rfl ?_
  refine go_aload_n (j := 0) (n := 4) rfl rfl dL_job_3 rfl ?_
  refine go_iload_n (j := 1) (n := 5) rfl rfl dL_job_4 rfl ?_
  refine go_iload_n (j := 2) (n := 6) rfl rfl dL_job_5 rfl ?_
  refine go_iload_n (j := 3) (n := 7) rfl rfl dL_job_6 rfl ?_
  refine go_iload (j := 4) (n := 9) rfl dL_job_7 rfl ?_
  refine go_iload (j := 5) (n := 11) rfl dL_job_9 rfl ?_
  replace E := Option.bind_eq_some_iff.mp E; obtain ⟨a3, ea3, E⟩ := E
  obtain ⟨fa3, ga3⟩ := xrc_some ea3
  replace E := xct_some E; rcases E with ⟨x4, h5, ev1, E⟩ | ⟨v1, h2, ev1, E⟩
  · by_cases c7 : x4 = "java/lang/IllegalArgumentException"
    · subst c7
      rw [if_pos rfl] at E
      refine go_callXVc (y := yX11_job) (n := 21) (as := [vi l1, vi l2, vi l3, vi l4, vi l5]) (st := [vi 0, vr l6]) (pre := []) (x := ⟨0, 16, 19, 13⟩) (suf := [⟨0, 16, 23, 42⟩]) (j := 7) (lv' := [(0, vr l0), (1, vi l1), (2, vi l2), (3, vi l3), (4, vi l4), (5, vi l5), (6, vr l6)]) (OXX11_job ev1) yw_X11_job ci_11 ga3 wml_RL_38 wim_X11_job wse_X11_job (Nat.le_of_ble_eq_true rfl) rfl ⟨Nat.le_of_ble_eq_true rfl, Nat.le_of_ble_eq_true rfl⟩ (Nat.le_of_ble_eq_true rfl) dL_job_11 (by cases fa3; rfl) rfl (fun z hz => by cases hz) rfl (by decide) wcx_RL_13 (by decide +kernel) (Or.inl ⟨dL_job_19, rfl⟩) (Nat.le_of_ble_eq_true rfl) rfl ?_
      refine go_iconst (z := 1) (n := 22) ⟨by decide, by decide⟩ dL_job_21 rfl ?_
      cases E
      exact go_ireturn rfl dL_job_22
    rw [if_neg c7] at E
    by_cases c8 : x4 = "java/lang/UnsupportedOperationException"
    · subst c8
      rw [if_pos rfl] at E
      refine go_callXVc (y := yX11_job) (n := 25) (as := [vi l1, vi l2, vi l3, vi l4, vi l5]) (st := [vi 0, vr l6]) (pre := [⟨0, 16, 19, 13⟩]) (x := ⟨0, 16, 23, 42⟩) (suf := []) (j := 7) (lv' := [(0, vr l0), (1, vi l1), (2, vi l2), (3, vi l3), (4, vi l4), (5, vi l5), (6, vr l6)]) (OXX11_job ev1) yw_X11_job ci_11 ga3 wml_RL_38 wim_X11_job wse_X11_job (Nat.le_of_ble_eq_true rfl) rfl ⟨Nat.le_of_ble_eq_true rfl, Nat.le_of_ble_eq_true rfl⟩ (Nat.le_of_ble_eq_true rfl) dL_job_11 (by cases fa3; rfl) rfl (by intro z hz; simp only [List.mem_cons, List.not_mem_nil, or_false] at hz; rcases hz with rfl <;> first | exact ⟨by decide, "java/lang/IllegalArgumentException", wcx_RL_13, by decide +kernel⟩) rfl (by decide) wcx_RL_42 (by decide +kernel) (Or.inl ⟨dL_job_23, rfl⟩) (Nat.le_of_ble_eq_true rfl) rfl ?_
      refine go_iconst (z := 2) (n := 26) ⟨by decide, by decide⟩ dL_job_25 rfl ?_
      cases E
      exact go_ireturn rfl dL_job_26
    rw [if_neg c8] at E
    cases E
  refine go_callXVr (y := yX11_job) (n := 14) (st := [vi 0, vr l6]) (as := [vi l1, vi l2, vi l3, vi l4, vi l5]) (stk9 := [vi v1, vi 0, vr l6]) (OXX11_job ev1) yw_X11_job ci_11 ga3 wml_RL_38 wim_X11_job wse_X11_job (Nat.le_of_ble_eq_true rfl) rfl ⟨Nat.le_of_ble_eq_true rfl, Nat.le_of_ble_eq_true rfl⟩ (Nat.le_of_ble_eq_true rfl) dL_job_11 (by cases fa3; rfl) rfl rfl ?_
  refine go_i2l (n := 15) dL_job_14 rfl ?_
  replace E := Option.bind_eq_some_iff.mp E; obtain ⟨h6, eh6, E⟩ := E
  refine go_lastore (n := 16) eh6 dL_job_15 rfl ?_
  refine go_goto (tgt := 27) dL_job_16 rfl ?_
  refine go_iconst (z := 0) (n := 28) ⟨by decide, by decide⟩ dL_job_27 rfl ?_
  cases E
  exact go_ireturn rfl dL_job_28
theorem OXL_job {F : Nat} {l0 : Option Nat} {l1 : Int} {l2 : Int} {l3 : Int} {l4 : Int} {l5 : Int} {l6 : Option Nat} {h hf : HP} {r : Int} (e : XL_job F l0 l1 l2 l3 l4 l5 l6 h = some (r, hf)) : Ok ML_job [vr l0, vi l1, vi l2, vi l3, vi l4, vi l5, vr l6] (some (vi r)) h hf := fun K _ _ _ => SXL_job l0 l1 l2 l3 l4 l5 l6 h e
theorem yw_X11_lamp : YW yX11_lamp cX11_lamp 4 (some .boolean) 3 := ⟨bw_of 1534 (by decide +kernel) rfl, bw_of 117 (by decide +kernel) rfl, ⟨by decide +kernel, by decide +kernel, by decide +kernel⟩, by decide +kernel⟩
theorem wml_RL_79 : Cond.methodLink RL 79 yX11_lamp ∈ BW := bw_of 1531 (by decide +kernel) rfl
theorem wim_X11_lamp : Cond.instanceMethod yX11_lamp ∈ BW := bw_of 1532 (by decide +kernel) rfl
theorem wse_X11_lamp : Cond.selects RX11 yX11_lamp yX11_lamp ∈ BW := bw_of 1533 (by decide +kernel) rfl
abbrev ML_lamp : MI := (RL, cL_lamp, 6, (some .int), 14, some (tableOf [(0, 19, 22, 18), (0, 19, 26, 13)]), "lamp")
noncomputable def XL_lamp_L18 (F : Nat)    (s0 : Int) (s1 : Int) (s2 : Option Nat) (h : HP) : Option (Int × HP) :=
  (xsJ h s2 s1 s0).bind fun h1 =>
  some (0, h1)
set_option maxRecDepth 100000 in
theorem SXL_lamp_L18 {K : Ctx} {F : Nat} {r : Int} {hf : HP}      (s0 : Int) (s1 : Int) (s2 : Option Nat) (h : HP) (E : XL_lamp_L18 F   s0 s1 s2 h = some (r, hf)) : Go K ML_lamp (QM K (some (vi r)) hf) hf 18 [] [vl s0, vi s1, vr s2] h := by
  unfold XL_lamp_L18 at E
  replace E := Option.bind_eq_some_iff.mp E; obtain ⟨h1, eh1, E⟩ := E
  refine go_lastore (n := 19) eh1 dL_lamp_18 rfl ?_
  refine go_goto (tgt := 30) dL_lamp_19 rfl ?_
  refine go_iconst (z := 0) (n := 31) ⟨by decide, by decide⟩ dL_lamp_30 rfl ?_
  cases E
  exact go_ireturn rfl dL_lamp_31
noncomputable def XL_lamp (F : Nat)   (l0 : Option Nat) (l1 : Int) (l2 : Int) (l3 : Int) (l4 : Option Nat)  (h : HP) : Option (Int × HP) :=
  (xrc h l0 11 6).bind fun a3 =>
  xct (X11_lamp F a3 l1 l2 l3 h) (fun x4 h5 =>
    if x4 = "java/lang/IndexOutOfBoundsException" then
      some (1, h5)
    else
      if x4 = "java/lang/IllegalArgumentException" then
        some (2, h5)
      else
        none) fun v1 h2 =>
  XL_lamp_L18 F (if v1 = 0 then 0 else 1) 0 l4 h2
set_option maxRecDepth 100000 in
theorem SXL_lamp {K : Ctx} {F : Nat} {r : Int} {hf : HP}     (l0 : Option Nat) (l1 : Int) (l2 : Int) (l3 : Int) (l4 : Option Nat)  (h : HP) (E : XL_lamp F   l0 l1 l2 l3 l4 h = some (r, hf)) : Go K ML_lamp (QM K (some (vi r)) hf) hf 0 [(0, vr l0), (1, vi l1), (2, vi l2), (3, vi l3), (4, vr l4)] [] h := by
  unfold XL_lamp at E
  refine go_aload (j := 4) (n := 2) rfl dL_lamp_0 rfl ?_
  refine go_iconst (z := 0) (n := 3) ⟨by decide, by decide⟩ dL_lamp_2 rfl ?_
  refine go_aload_n (j := 0) (n := 4) rfl rfl dL_lamp_3 rfl ?_
  refine go_iload_n (j := 1) (n := 5) rfl rfl dL_lamp_4 rfl ?_
  refine go_iload_n (j := 2) (n := 6) rfl rfl dL_lamp_5 rfl ?_
  refine go_iload_n (j := 3) (n := 7) rfl rfl dL_lamp_6 rfl ?_
  replace E := Option.bind_eq_some_iff.mp E; obtain ⟨a3, ea3, E⟩ := E
  obtain ⟨fa3, ga3⟩ := xrc_some ea3
  replace E := xct_some E; rcases E with ⟨x4, h5, ev1, E⟩ | ⟨v1, h2, ev1, E⟩
  · by_cases c7 : x4 = "java/lang/IndexOutOfBoundsException"
    · subst c7
      rw [if_pos rfl] at E
      refine go_callXVc (y := yX11_lamp) (n := 24) (as := [vi l1, vi l2, vi l3]) (st := [vi 0, vr l4]) (pre := []) (x := ⟨0, 19, 22, 18⟩) (suf := [⟨0, 19, 26, 13⟩]) (j := 5) (lv' := [(0, vr l0), (1, vi l1), (2, vi l2), (3, vi l3), (4, vr l4)]) (OXX11_lamp ev1) yw_X11_lamp ci_11 ga3 wml_RL_79 wim_X11_lamp wse_X11_lamp (Nat.le_of_ble_eq_true rfl) rfl ⟨Nat.le_of_ble_eq_true rfl, Nat.le_of_ble_eq_true rfl⟩ (Nat.le_of_ble_eq_true rfl) dL_lamp_7 (by cases fa3; rfl) rfl (fun z hz => by cases hz) rfl (by decide) wcx_RL_18 (by decide +kernel) (Or.inl ⟨dL_lamp_22, rfl⟩) (Nat.le_of_ble_eq_true rfl) rfl ?_
      refine go_iconst (z := 1) (n := 25) ⟨by decide, by decide⟩ dL_lamp_24 rfl ?_
      cases E
      exact go_ireturn rfl dL_lamp_25
    rw [if_neg c7] at E
    by_cases c8 : x4 = "java/lang/IllegalArgumentException"
    · subst c8
      rw [if_pos rfl] at E
      refine go_callXVc (y := yX11_lamp) (n := 28) (as := [vi l1, vi l2, vi l3]) (st := [vi 0, vr l4]) (pre := [⟨0, 19, 22, 18⟩]) (x := ⟨0, 19, 26, 13⟩) (suf := []) (j := 5) (lv' := [(0, vr l0), (1, vi l1), (2, vi l2), (3, vi l3), (4, vr l4)]) (OXX11_lamp ev1) yw_X11_lamp ci_11 ga3 wml_RL_79 wim_X11_lamp wse_X11_lamp (Nat.le_of_ble_eq_true rfl) rfl ⟨Nat.le_of_ble_eq_true rfl, Nat.le_of_ble_eq_true rfl⟩ (Nat.le_of_ble_eq_true rfl) dL_lamp_7 (by cases fa3; rfl) rfl (by intro z hz; simp only [List.mem_cons, List.not_mem_nil, or_false] at hz; rcases hz with rfl <;> first | exact ⟨by decide, "java/lang/IndexOutOfBoundsException", wcx_RL_18, by decide +kernel⟩) rfl (by decide) wcx_RL_13 (by decide +kernel) (Or.inl ⟨dL_lamp_26, rfl⟩) (Nat.le_of_ble_eq_true rfl) rfl ?_
      refine go_iconst (z := 2) (n := 29) ⟨by decide, by decide⟩ dL_lamp_28 rfl ?_
      cases E
      exact go_ireturn rfl dL_lamp_29
    rw [if_neg c8] at E
    cases E
  refine go_callXVr (y := yX11_lamp) (n := 10) (st := [vi 0, vr l4]) (as := [vi l1, vi l2, vi l3]) (stk9 := [vi v1, vi 0, vr l4]) (OXX11_lamp ev1) yw_X11_lamp ci_11 ga3 wml_RL_79 wim_X11_lamp wse_X11_lamp (Nat.le_of_ble_eq_true rfl) rfl ⟨Nat.le_of_ble_eq_true rfl, Nat.le_of_ble_eq_true rfl⟩ (Nat.le_of_ble_eq_true rfl) dL_lamp_7 (by cases fa3; rfl) rfl rfl ?_
  refine go_if_eq (tgt := 17) (n := 13) dL_lamp_10 rfl rfl (fun c6 => ?_) (fun c6 => ?_)
  · simp only [if_pos c6] at E
    refine go_lconst (w := 0) (n := 18) rfl dL_lamp_17 rfl ?_
    refine go_pick (lv' := []) [] rfl ?_
    exact SXL_lamp_L18      _ _ _ _ E
  · simp only [if_neg c6] at E
    refine go_lconst (w := 1) (n := 14) rfl dL_lamp_13 rfl ?_
    refine go_goto (tgt := 18) dL_lamp_14 rfl ?_
    refine go_pick (lv' := []) [] rfl ?_
    exact SXL_lamp_L18      _ _ _ _ E
theorem OXL_lamp {F : Nat} {l0 : Option Nat} {l1 : Int} {l2 : Int} {l3 : Int} {l4 : Option Nat} {h hf : HP} {r : Int} (e : XL_lamp F l0 l1 l2 l3 l4 h = some (r, hf)) : Ok ML_lamp [vr l0, vi l1, vi l2, vi l3, vr l4] (some (vi r)) h hf := fun K _ _ _ => SXL_lamp l0 l1 l2 l3 l4 h e
theorem yw_X11_old : YW yX11_old cX11_old 3 none 2 := ⟨bw_of 962 (by decide +kernel) rfl, bw_of 117 (by decide +kernel) rfl, ⟨by decide +kernel, by decide +kernel, by decide +kernel⟩, by decide +kernel⟩
theorem wml_RL_15 : Cond.methodLink RL 15 yX11_old ∈ BW := bw_of 959 (by decide +kernel) rfl
theorem wim_X11_old : Cond.instanceMethod yX11_old ∈ BW := bw_of 960 (by decide +kernel) rfl
theorem wse_X11_old : Cond.selects RX11 yX11_old yX11_old ∈ BW := bw_of 961 (by decide +kernel) rfl
abbrev ML_old : MI := (RL, cL_old, 4, (some .int), 14, some (tableOf [(0, 6, 9, 18), (0, 6, 12, 13)]), "old")
noncomputable def XL_old (F : Nat)   (l0 : Option Nat) (l1 : Int) (l2 : Int)  (h : HP) : Option (Int × HP) :=
  (xrc h l0 11 6).bind fun a3 =>
  xct (X11_old F a3 l1 l2 h) (fun x4 h5 =>
    if x4 = "java/lang/IndexOutOfBoundsException" then
      some (1, h5)
    else
      if x4 = "java/lang/IllegalArgumentException" then
        some (2, h5)
      else
        none) fun v1 h2 =>
  some (0, h2)
set_option maxRecDepth 100000 in
theorem SXL_old {K : Ctx} {F : Nat} {r : Int} {hf : HP}     (l0 : Option Nat) (l1 : Int) (l2 : Int)  (h : HP) (E : XL_old F   l0 l1 l2 h = some (r, hf)) : Go K ML_old (QM K (some (vi r)) hf) hf 0 [(0, vr l0), (1, vi l1), (2, vi l2)] [] h := by
  unfold XL_old at E
  refine go_aload_n (j := 0) (n := 1) rfl rfl dL_old_0 rfl ?_
  refine go_iload_n (j := 1) (n := 2) rfl rfl dL_old_1 rfl ?_
  refine go_iload_n (j := 2) (n := 3) rfl rfl dL_old_2 rfl ?_
  replace E := Option.bind_eq_some_iff.mp E; obtain ⟨a3, ea3, E⟩ := E
  obtain ⟨fa3, ga3⟩ := xrc_some ea3
  replace E := xct_some E; rcases E with ⟨x4, h5, ev1, E⟩ | ⟨v1, h2, ev1, E⟩
  · by_cases c6 : x4 = "java/lang/IndexOutOfBoundsException"
    · subst c6
      rw [if_pos rfl] at E
      refine go_callXVc (y := yX11_old) (n := 10) (as := [vi l1, vi l2]) (st := []) (pre := []) (x := ⟨0, 6, 9, 18⟩) (suf := [⟨0, 6, 12, 13⟩]) (j := 3) (lv' := [(0, vr l0), (1, vi l1), (2, vi l2)]) (OXX11_old ev1) yw_X11_old ci_11 ga3 wml_RL_15 wim_X11_old wse_X11_old (Nat.le_of_ble_eq_true rfl) rfl ⟨Nat.le_of_ble_eq_true rfl, Nat.le_of_ble_eq_true rfl⟩ (Nat.le_of_ble_eq_true rfl) dL_old_3 (by cases fa3; rfl) rfl (fun z hz => by cases hz) rfl (by decide) wcx_RL_18 (by decide +kernel) (Or.inr ⟨3, rfl, dL_old_9, rfl⟩) (Nat.le_of_ble_eq_true rfl) rfl ?_
      refine go_iconst (z := 1) (n := 11) ⟨by decide, by decide⟩ dL_old_10 rfl ?_
      cases E
      exact go_ireturn rfl dL_old_11
    rw [if_neg c6] at E
    by_cases c7 : x4 = "java/lang/IllegalArgumentException"
    · subst c7
      rw [if_pos rfl] at E
      refine go_callXVc (y := yX11_old) (n := 13) (as := [vi l1, vi l2]) (st := []) (pre := [⟨0, 6, 9, 18⟩]) (x := ⟨0, 6, 12, 13⟩) (suf := []) (j := 3) (lv' := [(0, vr l0), (1, vi l1), (2, vi l2)]) (OXX11_old ev1) yw_X11_old ci_11 ga3 wml_RL_15 wim_X11_old wse_X11_old (Nat.le_of_ble_eq_true rfl) rfl ⟨Nat.le_of_ble_eq_true rfl, Nat.le_of_ble_eq_true rfl⟩ (Nat.le_of_ble_eq_true rfl) dL_old_3 (by cases fa3; rfl) rfl (by intro z hz; simp only [List.mem_cons, List.not_mem_nil, or_false] at hz; rcases hz with rfl <;> first | exact ⟨by decide, "java/lang/IndexOutOfBoundsException", wcx_RL_18, by decide +kernel⟩) rfl (by decide) wcx_RL_13 (by decide +kernel) (Or.inr ⟨3, rfl, dL_old_12, rfl⟩) (Nat.le_of_ble_eq_true rfl) rfl ?_
      refine go_iconst (z := 2) (n := 14) ⟨by decide, by decide⟩ dL_old_13 rfl ?_
      cases E
      exact go_ireturn rfl dL_old_14
    rw [if_neg c7] at E
    cases E
  refine go_callXVr (y := yX11_old) (n := 6) (st := []) (as := [vi l1, vi l2]) (stk9 := []) (OXX11_old ev1) yw_X11_old ci_11 ga3 wml_RL_15 wim_X11_old wse_X11_old (Nat.le_of_ble_eq_true rfl) rfl ⟨Nat.le_of_ble_eq_true rfl, Nat.le_of_ble_eq_true rfl⟩ (Nat.le_of_ble_eq_true rfl) dL_old_3 (by cases fa3; rfl) rfl rfl ?_
  refine go_goto (tgt := 15) dL_old_6 rfl ?_
  refine go_iconst (z := 0) (n := 16) ⟨by decide, by decide⟩ dL_old_15 rfl ?_
  cases E
  exact go_ireturn rfl dL_old_16
theorem OXL_old {F : Nat} {l0 : Option Nat} {l1 : Int} {l2 : Int} {h hf : HP} {r : Int} (e : XL_old F l0 l1 l2 h = some (r, hf)) : Ok ML_old [vr l0, vi l1, vi l2] (some (vi r)) h hf := fun K _ _ _ => SXL_old l0 l1 l2 h e
theorem yw_X11_ring : YW yX11_ring cX11_ring 4 (some .int) 3 := ⟨bw_of 994 (by decide +kernel) rfl, bw_of 117 (by decide +kernel) rfl, ⟨by decide +kernel, by decide +kernel, by decide +kernel⟩, by decide +kernel⟩
theorem wml_RL_20 : Cond.methodLink RL 20 yX11_ring ∈ BW := bw_of 991 (by decide +kernel) rfl
theorem wim_X11_ring : Cond.instanceMethod yX11_ring ∈ BW := bw_of 992 (by decide +kernel) rfl
theorem wse_X11_ring : Cond.selects RX11 yX11_ring yX11_ring ∈ BW := bw_of 993 (by decide +kernel) rfl
abbrev ML_ring : MI := (RL, cL_ring, 6, (some .int), 14, some (tableOf [(0, 12, 15, 18), (0, 12, 19, 13)]), "ring")
noncomputable def XL_ring (F : Nat)   (l0 : Option Nat) (l1 : Int) (l2 : Int) (l3 : Int) (l4 : Option Nat)  (h : HP) : Option (Int × HP) :=
  (xrc h l0 11 6).bind fun a3 =>
  xct (X11_ring F a3 l1 l2 l3 h) (fun x4 h5 =>
    if x4 = "java/lang/IndexOutOfBoundsException" then
      some (1, h5)
    else
      if x4 = "java/lang/IllegalArgumentException" then
        some (2, h5)
      else
        none) fun v1 h2 =>
  (xsJ h2 l4 0 v1).bind fun h6 =>
  some (0, h6)
set_option maxRecDepth 100000 in
theorem SXL_ring {K : Ctx} {F : Nat} {r : Int} {hf : HP}     (l0 : Option Nat) (l1 : Int) (l2 : Int) (l3 : Int) (l4 : Option Nat)  (h : HP) (E : XL_ring F   l0 l1 l2 l3 l4 h = some (r, hf)) : Go K ML_ring (QM K (some (vi r)) hf) hf 0 [(0, vr l0), (1, vi l1), (2, vi l2), (3, vi l3), (4, vr l4)] [] h := by
  unfold XL_ring at E
  refine go_aload (j := 4) (n := 2) rfl dL_ring_0 rfl ?_
  refine go_iconst (z := 0) (n := 3) ⟨by decide, by decide⟩ dL_ring_2 rfl ?_
  refine go_aload_n (j := 0) (n := 4) rfl rfl dL_ring_3 rfl ?_
  refine go_iload_n (j := 1) (n := 5) rfl rfl dL_ring_4 rfl ?_
  refine go_iload_n (j := 2) (n := 6) rfl rfl dL_ring_5 rfl ?_
  refine go_iload_n (j := 3) (n := 7) rfl rfl dL_ring_6 rfl ?_
  replace E := Option.bind_eq_some_iff.mp E; obtain ⟨a3, ea3, E⟩ := E
  obtain ⟨fa3, ga3⟩ := xrc_some ea3
  replace E := xct_some E; rcases E with ⟨x4, h5, ev1, E⟩ | ⟨v1, h2, ev1, E⟩
  · by_cases c7 : x4 = "java/lang/IndexOutOfBoundsException"
    · subst c7
      rw [if_pos rfl] at E
      refine go_callXVc (y := yX11_ring) (n := 17) (as := [vi l1, vi l2, vi l3]) (st := [vi 0, vr l4]) (pre := []) (x := ⟨0, 12, 15, 18⟩) (suf := [⟨0, 12, 19, 13⟩]) (j := 5) (lv' := [(0, vr l0), (1, vi l1), (2, vi l2), (3, vi l3), (4, vr l4)]) (OXX11_ring ev1) yw_X11_ring ci_11 ga3 wml_RL_20 wim_X11_ring wse_X11_ring (Nat.le_of_ble_eq_true rfl) rfl ⟨Nat.le_of_ble_eq_true rfl, Nat.le_of_ble_eq_true rfl⟩ (Nat.le_of_ble_eq_true rfl) dL_ring_7 (by cases fa3; rfl) rfl (fun z hz => by cases hz) rfl (by decide) wcx_RL_18 (by decide +kernel) (Or.inl ⟨dL_ring_15, rfl⟩) (Nat.le_of_ble_eq_true rfl) rfl ?_
      refine go_iconst (z := 1) (n := 18) ⟨by decide, by decide⟩ dL_ring_17 rfl ?_
      cases E
      exact go_ireturn rfl dL_ring_18
    rw [if_neg c7] at E
    by_cases c8 : x4 = "java/lang/IllegalArgumentException"
    · subst c8
      rw [if_pos rfl] at E
      refine go_callXVc (y := yX11_ring) (n := 21) (as := [vi l1, vi l2, vi l3]) (st := [vi 0, vr l4]) (pre := [⟨0, 12, 15, 18⟩]) (x := ⟨0, 12, 19, 13⟩) (suf := []) (j := 5) (lv' := [(0, vr l0), (1, vi l1), (2, vi l2), (3, vi l3), (4, vr l4)]) (OXX11_ring ev1) yw_X11_ring ci_11 ga3 wml_RL_20 wim_X11_ring wse_X11_ring (Nat.le_of_ble_eq_true rfl) rfl ⟨Nat.le_of_ble_eq_true rfl, Nat.le_of_ble_eq_true rfl⟩ (Nat.le_of_ble_eq_true rfl) dL_ring_7 (by cases fa3; rfl) rfl (by intro z hz; simp only [List.mem_cons, List.not_mem_nil, or_false] at hz; rcases hz with rfl <;> first | exact ⟨by decide, "java/lang/IndexOutOfBoundsException", wcx_RL_18, by decide +kernel⟩) rfl (by decide) wcx_RL_13 (by decide +kernel) (Or.inl ⟨dL_ring_19, rfl⟩) (Nat.le_of_ble_eq_true rfl) rfl ?_
      refine go_iconst (z := 2) (n := 22) ⟨by decide, by decide⟩ dL_ring_21 rfl ?_
      cases E
      exact go_ireturn rfl dL_ring_22
    rw [if_neg c8] at E
    cases E
  refine go_callXVr (y := yX11_ring) (n := 10) (st := [vi 0, vr l4]) (as := [vi l1, vi l2, vi l3]) (stk9 := [vi v1, vi 0, vr l4]) (OXX11_ring ev1) yw_X11_ring ci_11 ga3 wml_RL_20 wim_X11_ring wse_X11_ring (Nat.le_of_ble_eq_true rfl) rfl ⟨Nat.le_of_ble_eq_true rfl, Nat.le_of_ble_eq_true rfl⟩ (Nat.le_of_ble_eq_true rfl) dL_ring_7 (by cases fa3; rfl) rfl rfl ?_
  refine go_i2l (n := 11) dL_ring_10 rfl ?_
  replace E := Option.bind_eq_some_iff.mp E; obtain ⟨h6, eh6, E⟩ := E
  refine go_lastore (n := 12) eh6 dL_ring_11 rfl ?_
  refine go_goto (tgt := 23) dL_ring_12 rfl ?_
  refine go_iconst (z := 0) (n := 24) ⟨by decide, by decide⟩ dL_ring_23 rfl ?_
  cases E
  exact go_ireturn rfl dL_ring_24
theorem OXL_ring {F : Nat} {l0 : Option Nat} {l1 : Int} {l2 : Int} {l3 : Int} {l4 : Option Nat} {h hf : HP} {r : Int} (e : XL_ring F l0 l1 l2 l3 l4 h = some (r, hf)) : Ok ML_ring [vr l0, vi l1, vi l2, vi l3, vr l4] (some (vi r)) h hf := fun K _ _ _ => SXL_ring l0 l1 l2 l3 l4 h e
theorem yw_X11_tell : YW yX11_tell cX11_tell 3 (some .int) 2 := ⟨bw_of 1023 (by decide +kernel) rfl, bw_of 117 (by decide +kernel) rfl, ⟨by decide +kernel, by decide +kernel, by decide +kernel⟩, by decide +kernel⟩
theorem wml_RL_24 : Cond.methodLink RL 24 yX11_tell ∈ BW := bw_of 1020 (by decide +kernel) rfl
theorem wim_X11_tell : Cond.instanceMethod yX11_tell ∈ BW := bw_of 1021 (by decide +kernel) rfl
theorem wse_X11_tell : Cond.selects RX11 yX11_tell yX11_tell ∈ BW := bw_of 1022 (by decide +kernel) rfl
abbrev ML_tell : MI := (RL, cL_tell, 5, (some .int), 14, some (tableOf [(0, 10, 13, 18), (0, 10, 17, 13)]), "tell")
noncomputable def XL_tell (F : Nat)   (l0 : Option Nat) (l1 : Int) (l2 : Int) (l3 : Option Nat)  (h : HP) : Option (Int × HP) :=
  (xrc h l0 11 6).bind fun a3 =>
  xct (X11_tell F a3 l1 l2 h) (fun x4 h5 =>
    if x4 = "java/lang/IndexOutOfBoundsException" then
      some (1, h5)
    else
      if x4 = "java/lang/IllegalArgumentException" then
        some (2, h5)
      else
        none) fun v1 h2 =>
  (xsJ h2 l3 0 v1).bind fun h6 =>
  some (0, h6)
set_option maxRecDepth 100000 in
theorem SXL_tell {K : Ctx} {F : Nat} {r : Int} {hf : HP}     (l0 : Option Nat) (l1 : Int) (l2 : Int) (l3 : Option Nat)  (h : HP) (E : XL_tell F   l0 l1 l2 l3 h = some (r, hf)) : Go K ML_tell (QM K (some (vi r)) hf) hf 0 [(0, vr l0), (1, vi l1), (2, vi l2), (3, vr l3)] [] h := by
  unfold XL_tell at E
  refine go_aload_n (j := 3) (n := 1) rfl rfl dL_tell_0 rfl ?_
  refine go_iconst (z := 0) (n := 2) ⟨by decide, by decide⟩ dL_tell_1 rfl ?_
  refine go_aload_n (j := 0) (n := 3) rfl rfl dL_tell_2 rfl ?_
  refine go_iload_n (j := 1) (n := 4) rfl rfl dL_tell_3 rfl ?_
  refine go_iload_n (j := 2) (n := 5) rfl rfl dL_tell_4 rfl ?_
  replace E := Option.bind_eq_some_iff.mp E; obtain ⟨a3, ea3, E⟩ := E
  obtain ⟨fa3, ga3⟩ := xrc_some ea3
  replace E := xct_some E; rcases E with ⟨x4, h5, ev1, E⟩ | ⟨v1, h2, ev1, E⟩
  · by_cases c7 : x4 = "java/lang/IndexOutOfBoundsException"
    · subst c7
      rw [if_pos rfl] at E
      refine go_callXVc (y := yX11_tell) (n := 15) (as := [vi l1, vi l2]) (st := [vi 0, vr l3]) (pre := []) (x := ⟨0, 10, 13, 18⟩) (suf := [⟨0, 10, 17, 13⟩]) (j := 4) (lv' := [(0, vr l0), (1, vi l1), (2, vi l2), (3, vr l3)]) (OXX11_tell ev1) yw_X11_tell ci_11 ga3 wml_RL_24 wim_X11_tell wse_X11_tell (Nat.le_of_ble_eq_true rfl) rfl ⟨Nat.le_of_ble_eq_true rfl, Nat.le_of_ble_eq_true rfl⟩ (Nat.le_of_ble_eq_true rfl) dL_tell_5 (by cases fa3; rfl) rfl (fun z hz => by cases hz) rfl (by decide) wcx_RL_18 (by decide +kernel) (Or.inl ⟨dL_tell_13, rfl⟩) (Nat.le_of_ble_eq_true rfl) rfl ?_
      refine go_iconst (z := 1) (n := 16) ⟨by decide, by decide⟩ dL_tell_15 rfl ?_
      cases E
      exact go_ireturn rfl dL_tell_16
    rw [if_neg c7] at E
    by_cases c8 : x4 = "java/lang/IllegalArgumentException"
    · subst c8
      rw [if_pos rfl] at E
      refine go_callXVc (y := yX11_tell) (n := 19) (as := [vi l1, vi l2]) (st := [vi 0, vr l3]) (pre := [⟨0, 10, 13, 18⟩]) (x := ⟨0, 10, 17, 13⟩) (suf := []) (j := 4) (lv' := [(0, vr l0), (1, vi l1), (2, vi l2), (3, vr l3)]) (OXX11_tell ev1) yw_X11_tell ci_11 ga3 wml_RL_24 wim_X11_tell wse_X11_tell (Nat.le_of_ble_eq_true rfl) rfl ⟨Nat.le_of_ble_eq_true rfl, Nat.le_of_ble_eq_true rfl⟩ (Nat.le_of_ble_eq_true rfl) dL_tell_5 (by cases fa3; rfl) rfl (by intro z hz; simp only [List.mem_cons, List.not_mem_nil, or_false] at hz; rcases hz with rfl <;> first | exact ⟨by decide, "java/lang/IndexOutOfBoundsException", wcx_RL_18, by decide +kernel⟩) rfl (by decide) wcx_RL_13 (by decide +kernel) (Or.inl ⟨dL_tell_17, rfl⟩) (Nat.le_of_ble_eq_true rfl) rfl ?_
      refine go_iconst (z := 2) (n := 20) ⟨by decide, by decide⟩ dL_tell_19 rfl ?_
      cases E
      exact go_ireturn rfl dL_tell_20
    rw [if_neg c8] at E
    cases E
  refine go_callXVr (y := yX11_tell) (n := 8) (st := [vi 0, vr l3]) (as := [vi l1, vi l2]) (stk9 := [vi v1, vi 0, vr l3]) (OXX11_tell ev1) yw_X11_tell ci_11 ga3 wml_RL_24 wim_X11_tell wse_X11_tell (Nat.le_of_ble_eq_true rfl) rfl ⟨Nat.le_of_ble_eq_true rfl, Nat.le_of_ble_eq_true rfl⟩ (Nat.le_of_ble_eq_true rfl) dL_tell_5 (by cases fa3; rfl) rfl rfl ?_
  refine go_i2l (n := 9) dL_tell_8 rfl ?_
  replace E := Option.bind_eq_some_iff.mp E; obtain ⟨h6, eh6, E⟩ := E
  refine go_lastore (n := 10) eh6 dL_tell_9 rfl ?_
  refine go_goto (tgt := 21) dL_tell_10 rfl ?_
  refine go_iconst (z := 0) (n := 22) ⟨by decide, by decide⟩ dL_tell_21 rfl ?_
  cases E
  exact go_ireturn rfl dL_tell_22
theorem OXL_tell {F : Nat} {l0 : Option Nat} {l1 : Int} {l2 : Int} {l3 : Option Nat} {h hf : HP} {r : Int} (e : XL_tell F l0 l1 l2 l3 h = some (r, hf)) : Ok ML_tell [vr l0, vi l1, vi l2, vr l3] (some (vi r)) h hf := fun K _ _ _ => SXL_tell l0 l1 l2 l3 h e
theorem yw_X11_word : YW yX11_word cX11_word 2 (some .int) 1 := ⟨bw_of 1030 (by decide +kernel) rfl, bw_of 117 (by decide +kernel) rfl, ⟨by decide +kernel, by decide +kernel, by decide +kernel⟩, by decide +kernel⟩
theorem wml_RL_28 : Cond.methodLink RL 28 yX11_word ∈ BW := bw_of 1027 (by decide +kernel) rfl
theorem wim_X11_word : Cond.instanceMethod yX11_word ∈ BW := bw_of 1028 (by decide +kernel) rfl
theorem wse_X11_word : Cond.selects RX11 yX11_word yX11_word ∈ BW := bw_of 1029 (by decide +kernel) rfl
abbrev ML_word : MI := (RL, cL_word, 4, (some .int), 14, some (tableOf [(0, 9, 12, 18)]), "word")
noncomputable def XL_word (F : Nat)   (l0 : Option Nat) (l1 : Int) (l2 : Option Nat)  (h : HP) : Option (Int × HP) :=
  (xrc h l0 11 6).bind fun a3 =>
  xct (X11_word F a3 l1 h) (fun x4 h5 =>
    if x4 = "java/lang/IndexOutOfBoundsException" then
      some (1, h5)
    else
      none) fun v1 h2 =>
  (xsJ h2 l2 0 v1).bind fun h6 =>
  some (0, h6)
set_option maxRecDepth 100000 in
theorem SXL_word {K : Ctx} {F : Nat} {r : Int} {hf : HP}     (l0 : Option Nat) (l1 : Int) (l2 : Option Nat)  (h : HP) (E : XL_word F   l0 l1 l2 h = some (r, hf)) : Go K ML_word (QM K (some (vi r)) hf) hf 0 [(0, vr l0), (1, vi l1), (2, vr l2)] [] h := by
  unfold XL_word at E
  refine go_aload_n (j := 2) (n := 1) rfl rfl dL_word_0 rfl ?_
  refine go_iconst (z := 0) (n := 2) ⟨by decide, by decide⟩ dL_word_1 rfl ?_
  refine go_aload_n (j := 0) (n := 3) rfl rfl dL_word_2 rfl ?_
  refine go_iload_n (j := 1) (n := 4) rfl rfl dL_word_3 rfl ?_
  replace E := Option.bind_eq_some_iff.mp E; obtain ⟨a3, ea3, E⟩ := E
  obtain ⟨fa3, ga3⟩ := xrc_some ea3
  replace E := xct_some E; rcases E with ⟨x4, h5, ev1, E⟩ | ⟨v1, h2, ev1, E⟩
  · by_cases c7 : x4 = "java/lang/IndexOutOfBoundsException"
    · subst c7
      rw [if_pos rfl] at E
      refine go_callXVc (y := yX11_word) (n := 13) (as := [vi l1]) (st := [vi 0, vr l2]) (pre := []) (x := ⟨0, 9, 12, 18⟩) (suf := []) (j := 3) (lv' := [(0, vr l0), (1, vi l1), (2, vr l2)]) (OXX11_word ev1) yw_X11_word ci_11 ga3 wml_RL_28 wim_X11_word wse_X11_word (Nat.le_of_ble_eq_true rfl) rfl ⟨Nat.le_of_ble_eq_true rfl, Nat.le_of_ble_eq_true rfl⟩ (Nat.le_of_ble_eq_true rfl) dL_word_4 (by cases fa3; rfl) rfl (fun z hz => by cases hz) rfl (by decide) wcx_RL_18 (by decide +kernel) (Or.inr ⟨3, rfl, dL_word_12, rfl⟩) (Nat.le_of_ble_eq_true rfl) rfl ?_
      refine go_iconst (z := 1) (n := 14) ⟨by decide, by decide⟩ dL_word_13 rfl ?_
      cases E
      exact go_ireturn rfl dL_word_14
    rw [if_neg c7] at E
    cases E
  refine go_callXVr (y := yX11_word) (n := 7) (st := [vi 0, vr l2]) (as := [vi l1]) (stk9 := [vi v1, vi 0, vr l2]) (OXX11_word ev1) yw_X11_word ci_11 ga3 wml_RL_28 wim_X11_word wse_X11_word (Nat.le_of_ble_eq_true rfl) rfl ⟨Nat.le_of_ble_eq_true rfl, Nat.le_of_ble_eq_true rfl⟩ (Nat.le_of_ble_eq_true rfl) dL_word_4 (by cases fa3; rfl) rfl rfl ?_
  refine go_i2l (n := 8) dL_word_7 rfl ?_
  replace E := Option.bind_eq_some_iff.mp E; obtain ⟨h6, eh6, E⟩ := E
  refine go_lastore (n := 9) eh6 dL_word_8 rfl ?_
  refine go_goto (tgt := 15) dL_word_9 rfl ?_
  refine go_iconst (z := 0) (n := 16) ⟨by decide, by decide⟩ dL_word_15 rfl ?_
  cases E
  exact go_ireturn rfl dL_word_16
theorem OXL_word {F : Nat} {l0 : Option Nat} {l1 : Int} {l2 : Option Nat} {h hf : HP} {r : Int} (e : XL_word F l0 l1 l2 h = some (r, hf)) : Ok ML_word [vr l0, vi l1, vr l2] (some (vi r)) h hf := fun K _ _ _ => SXL_word l0 l1 l2 h e
theorem yw_X11_led : YW yX11_led cX11_led 4 (some .int) 2 := ⟨bw_of 1053 (by decide +kernel) rfl, bw_of 117 (by decide +kernel) rfl, ⟨by decide +kernel, by decide +kernel, by decide +kernel⟩, by decide +kernel⟩
theorem wml_RL_35 : Cond.methodLink RL 35 yX11_led ∈ BW := bw_of 1050 (by decide +kernel) rfl
theorem wim_X11_led : Cond.instanceMethod yX11_led ∈ BW := bw_of 1051 (by decide +kernel) rfl
theorem wse_X11_led : Cond.selects RX11 yX11_led yX11_led ∈ BW := bw_of 1052 (by decide +kernel) rfl
abbrev ML_led : MI := (RL, cL_led, 5, (some .int), 14, some (tableOf [(0, 10, 13, 18)]), "led")
noncomputable def XL_led (F : Nat)   (l0 : Option Nat) (l1 : Int) (l2 : Int) (l3 : Option Nat)  (h : HP) : Option (Int × HP) :=
  (xrc h l0 11 6).bind fun a3 =>
  xct (X11_led F a3 l1 l2 h) (fun x4 h5 =>
    if x4 = "java/lang/IndexOutOfBoundsException" then
      some (1, h5)
    else
      none) fun v1 h2 =>
  (xsJ h2 l3 0 v1).bind fun h6 =>
  some (0, h6)
set_option maxRecDepth 100000 in
theorem SXL_led {K : Ctx} {F : Nat} {r : Int} {hf : HP}     (l0 : Option Nat) (l1 : Int) (l2 : Int) (l3 : Option Nat)  (h : HP) (E : XL_led F   l0 l1 l2 l3 h = some (r, hf)) : Go K ML_led (QM K (some (vi r)) hf) hf 0 [(0, vr l0), (1, vi l1), (2, vi l2), (3, vr l3)] [] h := by
  unfold XL_led at E
  refine go_aload_n (j := 3) (n := 1) rfl rfl dL_led_0 rfl ?_
  refine go_iconst (z := 0) (n := 2) ⟨by decide, by decide⟩ dL_led_1 rfl ?_
  refine go_aload_n (j := 0) (n := 3) rfl rfl dL_led_2 rfl ?_
  refine go_iload_n (j := 1) (n := 4) rfl rfl dL_led_3 rfl ?_
  refine go_iload_n (j := 2) (n := 5) rfl rfl dL_led_4 rfl ?_
  replace E := Option.bind_eq_some_iff.mp E; obtain ⟨a3, ea3, E⟩ := E
  obtain ⟨fa3, ga3⟩ := xrc_some ea3
  replace E := xct_some E; rcases E with ⟨x4, h5, ev1, E⟩ | ⟨v1, h2, ev1, E⟩
  · by_cases c7 : x4 = "java/lang/IndexOutOfBoundsException"
    · subst c7
      rw [if_pos rfl] at E
      refine go_callXVc (y := yX11_led) (n := 15) (as := [vi l1, vi l2]) (st := [vi 0, vr l3]) (pre := []) (x := ⟨0, 10, 13, 18⟩) (suf := []) (j := 4) (lv' := [(0, vr l0), (1, vi l1), (2, vi l2), (3, vr l3)]) (OXX11_led ev1) yw_X11_led ci_11 ga3 wml_RL_35 wim_X11_led wse_X11_led (Nat.le_of_ble_eq_true rfl) rfl ⟨Nat.le_of_ble_eq_true rfl, Nat.le_of_ble_eq_true rfl⟩ (Nat.le_of_ble_eq_true rfl) dL_led_5 (by cases fa3; rfl) rfl (fun z hz => by cases hz) rfl (by decide) wcx_RL_18 (by decide +kernel) (Or.inl ⟨dL_led_13, rfl⟩) (Nat.le_of_ble_eq_true rfl) rfl ?_
      refine go_iconst (z := 1) (n := 16) ⟨by decide, by decide⟩ dL_led_15 rfl ?_
      cases E
      exact go_ireturn rfl dL_led_16
    rw [if_neg c7] at E
    cases E
  refine go_callXVr (y := yX11_led) (n := 8) (st := [vi 0, vr l3]) (as := [vi l1, vi l2]) (stk9 := [vi v1, vi 0, vr l3]) (OXX11_led ev1) yw_X11_led ci_11 ga3 wml_RL_35 wim_X11_led wse_X11_led (Nat.le_of_ble_eq_true rfl) rfl ⟨Nat.le_of_ble_eq_true rfl, Nat.le_of_ble_eq_true rfl⟩ (Nat.le_of_ble_eq_true rfl) dL_led_5 (by cases fa3; rfl) rfl rfl ?_
  refine go_i2l (n := 9) dL_led_8 rfl ?_
  replace E := Option.bind_eq_some_iff.mp E; obtain ⟨h6, eh6, E⟩ := E
  refine go_lastore (n := 10) eh6 dL_led_9 rfl ?_
  refine go_goto (tgt := 17) dL_led_10 rfl ?_
  refine go_iconst (z := 0) (n := 18) ⟨by decide, by decide⟩ dL_led_17 rfl ?_
  cases E
  exact go_ireturn rfl dL_led_18
theorem OXL_led {F : Nat} {l0 : Option Nat} {l1 : Int} {l2 : Int} {l3 : Option Nat} {h hf : HP} {r : Int} (e : XL_led F l0 l1 l2 l3 h = some (r, hf)) : Ok ML_led [vr l0, vi l1, vi l2, vr l3] (some (vi r)) h hf := fun K _ _ _ => SXL_led l0 l1 l2 l3 h e
theorem yw_X11_shorter : YW yX11_shorter cX11_shorter 6 none 4 := ⟨bw_of 1313 (by decide +kernel) rfl, bw_of 117 (by decide +kernel) rfl, ⟨by decide +kernel, by decide +kernel, by decide +kernel⟩, by decide +kernel⟩
theorem wml_RL_44 : Cond.methodLink RL 44 yX11_shorter ∈ BW := bw_of 1310 (by decide +kernel) rfl
theorem wim_X11_shorter : Cond.instanceMethod yX11_shorter ∈ BW := bw_of 1311 (by decide +kernel) rfl
theorem wse_X11_shorter : Cond.selects RX11 yX11_shorter yX11_shorter ∈ BW := bw_of 1312 (by decide +kernel) rfl
abbrev ML_shorter : MI := (RL, cL_shorter, 6, (some .int), 14, some (tableOf [(0, 9, 12, 18), (0, 9, 16, 13)]), "shorter")
noncomputable def XL_shorter (F : Nat)   (l0 : Option Nat) (l1 : Int) (l2 : Int) (l3 : Int) (l4 : Int)  (h : HP) : Option (Int × HP) :=
  (xrc h l0 11 6).bind fun a3 =>
  xct (X11_shorter F a3 l1 l2 l3 l4 h) (fun x4 h5 =>
    if x4 = "java/lang/IndexOutOfBoundsException" then
      some (1, h5)
    else
      if x4 = "java/lang/IllegalArgumentException" then
        some (2, h5)
      else
        none) fun v1 h2 =>
  some (0, h2)
set_option maxRecDepth 100000 in
theorem SXL_shorter {K : Ctx} {F : Nat} {r : Int} {hf : HP}     (l0 : Option Nat) (l1 : Int) (l2 : Int) (l3 : Int) (l4 : Int)  (h : HP) (E : XL_shorter F   l0 l1 l2 l3 l4 h = some (r, hf)) : Go K ML_shorter (QM K (some (vi r)) hf) hf 0 [(0, vr l0), (1, vi l1), (2, vi l2), (3, vi l3), (4, vi l4)] [] h := by
  unfold XL_shorter at E
  refine go_aload_n (j := 0) (n := 1) rfl rfl dL_shorter_0 rfl ?_
  refine go_iload_n (j := 1) (n := 2) rfl rfl dL_shorter_1 rfl ?_
  refine go_iload_n (j := 2) (n := 3) rfl rfl dL_shorter_2 rfl ?_
  refine go_iload_n (j := 3) (n := 4) rfl rfl dL_shorter_3 rfl ?_
  refine go_iload (j := 4) (n := 6) rfl dL_shorter_4 rfl ?_
  replace E := Option.bind_eq_some_iff.mp E; obtain ⟨a3, ea3, E⟩ := E
  obtain ⟨fa3, ga3⟩ := xrc_some ea3
  replace E := xct_some E; rcases E with ⟨x4, h5, ev1, E⟩ | ⟨v1, h2, ev1, E⟩
  · by_cases c6 : x4 = "java/lang/IndexOutOfBoundsException"
    · subst c6
      rw [if_pos rfl] at E
      refine go_callXVc (y := yX11_shorter) (n := 14) (as := [vi l1, vi l2, vi l3, vi l4]) (st := []) (pre := []) (x := ⟨0, 9, 12, 18⟩) (suf := [⟨0, 9, 16, 13⟩]) (j := 5) (lv' := [(0, vr l0), (1, vi l1), (2, vi l2), (3, vi l3), (4, vi l4)]) (OXX11_shorter ev1) yw_X11_shorter ci_11 ga3 wml_RL_44 wim_X11_shorter wse_X11_shorter (Nat.le_of_ble_eq_true rfl) rfl ⟨Nat.le_of_ble_eq_true rfl, Nat.le_of_ble_eq_true rfl⟩ (Nat.le_of_ble_eq_true rfl) dL_shorter_6 (by cases fa3; rfl) rfl (fun z hz => by cases hz) rfl (by decide) wcx_RL_18 (by decide +kernel) (Or.inl ⟨dL_shorter_12, rfl⟩) (Nat.le_of_ble_eq_true rfl) rfl ?_
      refine go_iconst (z := 1) (n := 15) ⟨by decide, by decide⟩ dL_shorter_14 rfl ?_
      cases E
      exact go_ireturn rfl dL_shorter_15
    rw [if_neg c6] at E
    by_cases c7 : x4 = "java/lang/IllegalArgumentException"
    · subst c7
      rw [if_pos rfl] at E
      refine go_callXVc (y := yX11_shorter) (n := 18) (as := [vi l1, vi l2, vi l3, vi l4]) (st := []) (pre := [⟨0, 9, 12, 18⟩]) (x := ⟨0, 9, 16, 13⟩) (suf := []) (j := 5) (lv' := [(0, vr l0), (1, vi l1), (2, vi l2), (3, vi l3), (4, vi l4)]) (OXX11_shorter ev1) yw_X11_shorter ci_11 ga3 wml_RL_44 wim_X11_shorter wse_X11_shorter (Nat.le_of_ble_eq_true rfl) rfl ⟨Nat.le_of_ble_eq_true rfl, Nat.le_of_ble_eq_true rfl⟩ (Nat.le_of_ble_eq_true rfl) dL_shorter_6 (by cases fa3; rfl) rfl (by intro z hz; simp only [List.mem_cons, List.not_mem_nil, or_false] at hz; rcases hz with rfl <;> first | exact ⟨by decide, "java/lang/IndexOutOfBoundsException", wcx_RL_18, by decide +kernel⟩) rfl (by decide) wcx_RL_13 (by decide +kernel) (Or.inl ⟨dL_shorter_16, rfl⟩) (Nat.le_of_ble_eq_true rfl) rfl ?_
      refine go_iconst (z := 2) (n := 19) ⟨by decide, by decide⟩ dL_shorter_18 rfl ?_
      cases E
      exact go_ireturn rfl dL_shorter_19
    rw [if_neg c7] at E
    cases E
  refine go_callXVr (y := yX11_shorter) (n := 9) (st := []) (as := [vi l1, vi l2, vi l3, vi l4]) (stk9 := []) (OXX11_shorter ev1) yw_X11_shorter ci_11 ga3 wml_RL_44 wim_X11_shorter wse_X11_shorter (Nat.le_of_ble_eq_true rfl) rfl ⟨Nat.le_of_ble_eq_true rfl, Nat.le_of_ble_eq_true rfl⟩ (Nat.le_of_ble_eq_true rfl) dL_shorter_6 (by cases fa3; rfl) rfl rfl ?_
  refine go_goto (tgt := 20) dL_shorter_9 rfl ?_
  refine go_iconst (z := 0) (n := 21) ⟨by decide, by decide⟩ dL_shorter_20 rfl ?_
  cases E
  exact go_ireturn rfl dL_shorter_21
theorem OXL_shorter {F : Nat} {l0 : Option Nat} {l1 : Int} {l2 : Int} {l3 : Int} {l4 : Int} {h hf : HP} {r : Int} (e : XL_shorter F l0 l1 l2 l3 l4 h = some (r, hf)) : Ok ML_shorter [vr l0, vi l1, vi l2, vi l3, vi l4] (some (vi r)) h hf := fun K _ _ _ => SXL_shorter l0 l1 l2 l3 l4 h e
theorem yw_X11_words : YW yX11_words cX11_words 4 (some .long) 2 := ⟨bw_of 1320 (by decide +kernel) rfl, bw_of 117 (by decide +kernel) rfl, ⟨by decide +kernel, by decide +kernel, by decide +kernel⟩, by decide +kernel⟩
theorem wml_RL_48 : Cond.methodLink RL 48 yX11_words ∈ BW := bw_of 1317 (by decide +kernel) rfl
theorem wim_X11_words : Cond.instanceMethod yX11_words ∈ BW := bw_of 1318 (by decide +kernel) rfl
theorem wse_X11_words : Cond.selects RX11 yX11_words yX11_words ∈ BW := bw_of 1319 (by decide +kernel) rfl
abbrev ML_words : MI := (RL, cL_words, 5, (some .int), 14, some (tableOf [(0, 9, 12, 18)]), "words")
noncomputable def XL_words (F : Nat)   (l0 : Option Nat) (l1 : Int) (l2 : Int) (l3 : Option Nat)  (h : HP) : Option (Int × HP) :=
  (xrc h l0 11 6).bind fun a3 =>
  xct (X11_words F a3 l1 l2 h) (fun x4 h5 =>
    if x4 = "java/lang/IndexOutOfBoundsException" then
      some (1, h5)
    else
      none) fun v1 h2 =>
  (xsJ h2 l3 0 v1).bind fun h6 =>
  some (0, h6)
set_option maxRecDepth 100000 in
theorem SXL_words {K : Ctx} {F : Nat} {r : Int} {hf : HP}     (l0 : Option Nat) (l1 : Int) (l2 : Int) (l3 : Option Nat)  (h : HP) (E : XL_words F   l0 l1 l2 l3 h = some (r, hf)) : Go K ML_words (QM K (some (vi r)) hf) hf 0 [(0, vr l0), (1, vi l1), (2, vi l2), (3, vr l3)] [] h := by
  unfold XL_words at E
  refine go_aload_n (j := 3) (n := 1) rfl rfl dL_words_0 rfl ?_
  refine go_iconst (z := 0) (n := 2) ⟨by decide, by decide⟩ dL_words_1 rfl ?_
  refine go_aload_n (j := 0) (n := 3) rfl rfl dL_words_2 rfl ?_
  refine go_iload_n (j := 1) (n := 4) rfl rfl dL_words_3 rfl ?_
  refine go_iload_n (j := 2) (n := 5) rfl rfl dL_words_4 rfl ?_
  replace E := Option.bind_eq_some_iff.mp E; obtain ⟨a3, ea3, E⟩ := E
  obtain ⟨fa3, ga3⟩ := xrc_some ea3
  replace E := xct_some E; rcases E with ⟨x4, h5, ev1, E⟩ | ⟨v1, h2, ev1, E⟩
  · by_cases c7 : x4 = "java/lang/IndexOutOfBoundsException"
    · subst c7
      rw [if_pos rfl] at E
      refine go_callXVc (y := yX11_words) (n := 14) (as := [vi l1, vi l2]) (st := [vi 0, vr l3]) (pre := []) (x := ⟨0, 9, 12, 18⟩) (suf := []) (j := 4) (lv' := [(0, vr l0), (1, vi l1), (2, vi l2), (3, vr l3)]) (OXX11_words ev1) yw_X11_words ci_11 ga3 wml_RL_48 wim_X11_words wse_X11_words (Nat.le_of_ble_eq_true rfl) rfl ⟨Nat.le_of_ble_eq_true rfl, Nat.le_of_ble_eq_true rfl⟩ (Nat.le_of_ble_eq_true rfl) dL_words_5 (by cases fa3; rfl) rfl (fun z hz => by cases hz) rfl (by decide) wcx_RL_18 (by decide +kernel) (Or.inl ⟨dL_words_12, rfl⟩) (Nat.le_of_ble_eq_true rfl) rfl ?_
      refine go_iconst (z := 1) (n := 15) ⟨by decide, by decide⟩ dL_words_14 rfl ?_
      cases E
      exact go_ireturn rfl dL_words_15
    rw [if_neg c7] at E
    cases E
  refine go_callXVr (y := yX11_words) (n := 8) (st := [vi 0, vr l3]) (as := [vi l1, vi l2]) (stk9 := [vl v1, vi 0, vr l3]) (OXX11_words ev1) yw_X11_words ci_11 ga3 wml_RL_48 wim_X11_words wse_X11_words (Nat.le_of_ble_eq_true rfl) rfl ⟨Nat.le_of_ble_eq_true rfl, Nat.le_of_ble_eq_true rfl⟩ (Nat.le_of_ble_eq_true rfl) dL_words_5 (by cases fa3; rfl) rfl rfl ?_
  replace E := Option.bind_eq_some_iff.mp E; obtain ⟨h6, eh6, E⟩ := E
  refine go_lastore (n := 9) eh6 dL_words_8 rfl ?_
  refine go_goto (tgt := 16) dL_words_9 rfl ?_
  refine go_iconst (z := 0) (n := 17) ⟨by decide, by decide⟩ dL_words_16 rfl ?_
  cases E
  exact go_ireturn rfl dL_words_17
theorem OXL_words {F : Nat} {l0 : Option Nat} {l1 : Int} {l2 : Int} {l3 : Option Nat} {h hf : HP} {r : Int} (e : XL_words F l0 l1 l2 l3 h = some (r, hf)) : Ok ML_words [vr l0, vi l1, vi l2, vr l3] (some (vi r)) h hf := fun K _ _ _ => SXL_words l0 l1 l2 l3 h e
theorem yw_X11_leans : YW yX11_leans cX11_leans 2 (some .int) 1 := ⟨bw_of 1329 (by decide +kernel) rfl, bw_of 117 (by decide +kernel) rfl, ⟨by decide +kernel, by decide +kernel, by decide +kernel⟩, by decide +kernel⟩
theorem wml_RL_52 : Cond.methodLink RL 52 yX11_leans ∈ BW := bw_of 1326 (by decide +kernel) rfl
theorem wim_X11_leans : Cond.instanceMethod yX11_leans ∈ BW := bw_of 1327 (by decide +kernel) rfl
theorem wse_X11_leans : Cond.selects RX11 yX11_leans yX11_leans ∈ BW := bw_of 1328 (by decide +kernel) rfl
abbrev ML_leans : MI := (RL, cL_leans, 4, (some .int), 14, some (tableOf [(0, 9, 12, 18)]), "leans")
noncomputable def XL_leans (F : Nat)   (l0 : Option Nat) (l1 : Int) (l2 : Option Nat)  (h : HP) : Option (Int × HP) :=
  (xrc h l0 11 6).bind fun a3 =>
  xct (X11_leans F a3 l1 h) (fun x4 h5 =>
    if x4 = "java/lang/IndexOutOfBoundsException" then
      some (1, h5)
    else
      none) fun v1 h2 =>
  (xsJ h2 l2 0 v1).bind fun h6 =>
  some (0, h6)
set_option maxRecDepth 100000 in
theorem SXL_leans {K : Ctx} {F : Nat} {r : Int} {hf : HP}     (l0 : Option Nat) (l1 : Int) (l2 : Option Nat)  (h : HP) (E : XL_leans F   l0 l1 l2 h = some (r, hf)) : Go K ML_leans (QM K (some (vi r)) hf) hf 0 [(0, vr l0), (1, vi l1), (2, vr l2)] [] h := by
  unfold XL_leans at E
  refine go_aload_n (j := 2) (n := 1) rfl rfl dL_leans_0 rfl ?_
  refine go_iconst (z := 0) (n := 2) ⟨by decide, by decide⟩ dL_leans_1 rfl ?_
  refine go_aload_n (j := 0) (n := 3) rfl rfl dL_leans_2 rfl ?_
  refine go_iload_n (j := 1) (n := 4) rfl rfl dL_leans_3 rfl ?_
  replace E := Option.bind_eq_some_iff.mp E; obtain ⟨a3, ea3, E⟩ := E
  obtain ⟨fa3, ga3⟩ := xrc_some ea3
  replace E := xct_some E; rcases E with ⟨x4, h5, ev1, E⟩ | ⟨v1, h2, ev1, E⟩
  · by_cases c7 : x4 = "java/lang/IndexOutOfBoundsException"
    · subst c7
      rw [if_pos rfl] at E
      refine go_callXVc (y := yX11_leans) (n := 13) (as := [vi l1]) (st := [vi 0, vr l2]) (pre := []) (x := ⟨0, 9, 12, 18⟩) (suf := []) (j := 3) (lv' := [(0, vr l0), (1, vi l1), (2, vr l2)]) (OXX11_leans ev1) yw_X11_leans ci_11 ga3 wml_RL_52 wim_X11_leans wse_X11_leans (Nat.le_of_ble_eq_true rfl) rfl ⟨Nat.le_of_ble_eq_true rfl, Nat.le_of_ble_eq_true rfl⟩ (Nat.le_of_ble_eq_true rfl) dL_leans_4 (by cases fa3; rfl) rfl (fun z hz => by cases hz) rfl (by decide) wcx_RL_18 (by decide +kernel) (Or.inr ⟨3, rfl, dL_leans_12, rfl⟩) (Nat.le_of_ble_eq_true rfl) rfl ?_
      refine go_iconst (z := 1) (n := 14) ⟨by decide, by decide⟩ dL_leans_13 rfl ?_
      cases E
      exact go_ireturn rfl dL_leans_14
    rw [if_neg c7] at E
    cases E
  refine go_callXVr (y := yX11_leans) (n := 7) (st := [vi 0, vr l2]) (as := [vi l1]) (stk9 := [vi v1, vi 0, vr l2]) (OXX11_leans ev1) yw_X11_leans ci_11 ga3 wml_RL_52 wim_X11_leans wse_X11_leans (Nat.le_of_ble_eq_true rfl) rfl ⟨Nat.le_of_ble_eq_true rfl, Nat.le_of_ble_eq_true rfl⟩ (Nat.le_of_ble_eq_true rfl) dL_leans_4 (by cases fa3; rfl) rfl rfl ?_
  refine go_i2l (n := 8) dL_leans_7 rfl ?_
  replace E := Option.bind_eq_some_iff.mp E; obtain ⟨h6, eh6, E⟩ := E
  refine go_lastore (n := 9) eh6 dL_leans_8 rfl ?_
  refine go_goto (tgt := 15) dL_leans_9 rfl ?_
  refine go_iconst (z := 0) (n := 16) ⟨by decide, by decide⟩ dL_leans_15 rfl ?_
  cases E
  exact go_ireturn rfl dL_leans_16
theorem OXL_leans {F : Nat} {l0 : Option Nat} {l1 : Int} {l2 : Option Nat} {h hf : HP} {r : Int} (e : XL_leans F l0 l1 l2 h = some (r, hf)) : Ok ML_leans [vr l0, vi l1, vr l2] (some (vi r)) h hf := fun K _ _ _ => SXL_leans l0 l1 l2 h e
theorem yw_X11_way : YW yX11_way cX11_way 4 (some .boolean) 2 := ⟨bw_of 1337 (by decide +kernel) rfl, bw_of 117 (by decide +kernel) rfl, ⟨by decide +kernel, by decide +kernel, by decide +kernel⟩, by decide +kernel⟩
theorem wml_RL_55 : Cond.methodLink RL 55 yX11_way ∈ BW := bw_of 1334 (by decide +kernel) rfl
theorem wim_X11_way : Cond.instanceMethod yX11_way ∈ BW := bw_of 1335 (by decide +kernel) rfl
theorem wse_X11_way : Cond.selects RX11 yX11_way yX11_way ∈ BW := bw_of 1336 (by decide +kernel) rfl
abbrev ML_way : MI := (RL, cL_way, 5, (some .int), 14, some (tableOf [(0, 17, 20, 18), (0, 17, 24, 13)]), "way")
noncomputable def XL_way_L16 (F : Nat)    (s0 : Int) (s1 : Int) (s2 : Option Nat) (h : HP) : Option (Int × HP) :=
  (xsJ h s2 s1 s0).bind fun h1 =>
  some (0, h1)
set_option maxRecDepth 100000 in
theorem SXL_way_L16 {K : Ctx} {F : Nat} {r : Int} {hf : HP}      (s0 : Int) (s1 : Int) (s2 : Option Nat) (h : HP) (E : XL_way_L16 F   s0 s1 s2 h = some (r, hf)) : Go K ML_way (QM K (some (vi r)) hf) hf 16 [] [vl s0, vi s1, vr s2] h := by
  unfold XL_way_L16 at E
  replace E := Option.bind_eq_some_iff.mp E; obtain ⟨h1, eh1, E⟩ := E
  refine go_lastore (n := 17) eh1 dL_way_16 rfl ?_
  refine go_goto (tgt := 28) dL_way_17 rfl ?_
  refine go_iconst (z := 0) (n := 29) ⟨by decide, by decide⟩ dL_way_28 rfl ?_
  cases E
  exact go_ireturn rfl dL_way_29
noncomputable def XL_way (F : Nat)   (l0 : Option Nat) (l1 : Int) (l2 : Int) (l3 : Option Nat)  (h : HP) : Option (Int × HP) :=
  (xrc h l0 11 6).bind fun a3 =>
  xct (X11_way F a3 l1 l2 h) (fun x4 h5 =>
    if x4 = "java/lang/IndexOutOfBoundsException" then
      some (1, h5)
    else
      if x4 = "java/lang/IllegalArgumentException" then
        some (2, h5)
      else
        none) fun v1 h2 =>
  XL_way_L16 F (if v1 = 0 then 0 else 1) 0 l3 h2
set_option maxRecDepth 100000 in
theorem SXL_way {K : Ctx} {F : Nat} {r : Int} {hf : HP}     (l0 : Option Nat) (l1 : Int) (l2 : Int) (l3 : Option Nat)  (h : HP) (E : XL_way F   l0 l1 l2 l3 h = some (r, hf)) : Go K ML_way (QM K (some (vi r)) hf) hf 0 [(0, vr l0), (1, vi l1), (2, vi l2), (3, vr l3)] [] h := by
  unfold XL_way at E
  refine go_aload_n (j := 3) (n := 1) rfl rfl dL_way_0 rfl ?_
  refine go_iconst (z := 0) (n := 2) ⟨by decide, by decide⟩ dL_way_1 rfl ?_
  refine go_aload_n (j := 0) (n := 3) rfl rfl dL_way_2 rfl ?_
  refine go_iload_n (j := 1) (n := 4) rfl rfl dL_way_3 rfl ?_
  refine go_iload_n (j := 2) (n := 5) rfl rfl dL_way_4 rfl ?_
  replace E := Option.bind_eq_some_iff.mp E; obtain ⟨a3, ea3, E⟩ := E
  obtain ⟨fa3, ga3⟩ := xrc_some ea3
  replace E := xct_some E; rcases E with ⟨x4, h5, ev1, E⟩ | ⟨v1, h2, ev1, E⟩
  · by_cases c7 : x4 = "java/lang/IndexOutOfBoundsException"
    · subst c7
      rw [if_pos rfl] at E
      refine go_callXVc (y := yX11_way) (n := 22) (as := [vi l1, vi l2]) (st := [vi 0, vr l3]) (pre := []) (x := ⟨0, 17, 20, 18⟩) (suf := [⟨0, 17, 24, 13⟩]) (j := 4) (lv' := [(0, vr l0), (1, vi l1), (2, vi l2), (3, vr l3)]) (OXX11_way ev1) yw_X11_way ci_11 ga3 wml_RL_55 wim_X11_way wse_X11_way (Nat.le_of_ble_eq_true rfl) rfl ⟨Nat.le_of_ble_eq_true rfl, Nat.le_of_ble_eq_true rfl⟩ (Nat.le_of_ble_eq_true rfl) dL_way_5 (by cases fa3; rfl) rfl (fun z hz => by cases hz) rfl (by decide) wcx_RL_18 (by decide +kernel) (Or.inl ⟨dL_way_20, rfl⟩) (Nat.le_of_ble_eq_true rfl) rfl ?_
      refine go_iconst (z := 1) (n := 23) ⟨by decide, by decide⟩ dL_way_22 rfl ?_
      cases E
      exact go_ireturn rfl dL_way_23
    rw [if_neg c7] at E
    by_cases c8 : x4 = "java/lang/IllegalArgumentException"
    · subst c8
      rw [if_pos rfl] at E
      refine go_callXVc (y := yX11_way) (n := 26) (as := [vi l1, vi l2]) (st := [vi 0, vr l3]) (pre := [⟨0, 17, 20, 18⟩]) (x := ⟨0, 17, 24, 13⟩) (suf := []) (j := 4) (lv' := [(0, vr l0), (1, vi l1), (2, vi l2), (3, vr l3)]) (OXX11_way ev1) yw_X11_way ci_11 ga3 wml_RL_55 wim_X11_way wse_X11_way (Nat.le_of_ble_eq_true rfl) rfl ⟨Nat.le_of_ble_eq_true rfl, Nat.le_of_ble_eq_true rfl⟩ (Nat.le_of_ble_eq_true rfl) dL_way_5 (by cases fa3; rfl) rfl (by intro z hz; simp only [List.mem_cons, List.not_mem_nil, or_false] at hz; rcases hz with rfl <;> first | exact ⟨by decide, "java/lang/IndexOutOfBoundsException", wcx_RL_18, by decide +kernel⟩) rfl (by decide) wcx_RL_13 (by decide +kernel) (Or.inl ⟨dL_way_24, rfl⟩) (Nat.le_of_ble_eq_true rfl) rfl ?_
      refine go_iconst (z := 2) (n := 27) ⟨by decide, by decide⟩ dL_way_26 rfl ?_
      cases E
      exact go_ireturn rfl dL_way_27
    rw [if_neg c8] at E
    cases E
  refine go_callXVr (y := yX11_way) (n := 8) (st := [vi 0, vr l3]) (as := [vi l1, vi l2]) (stk9 := [vi v1, vi 0, vr l3]) (OXX11_way ev1) yw_X11_way ci_11 ga3 wml_RL_55 wim_X11_way wse_X11_way (Nat.le_of_ble_eq_true rfl) rfl ⟨Nat.le_of_ble_eq_true rfl, Nat.le_of_ble_eq_true rfl⟩ (Nat.le_of_ble_eq_true rfl) dL_way_5 (by cases fa3; rfl) rfl rfl ?_
  refine go_if_eq (tgt := 15) (n := 11) dL_way_8 rfl rfl (fun c6 => ?_) (fun c6 => ?_)
  · simp only [if_pos c6] at E
    refine go_lconst (w := 0) (n := 16) rfl dL_way_15 rfl ?_
    refine go_pick (lv' := []) [] rfl ?_
    exact SXL_way_L16      _ _ _ _ E
  · simp only [if_neg c6] at E
    refine go_lconst (w := 1) (n := 12) rfl dL_way_11 rfl ?_
    refine go_goto (tgt := 16) dL_way_12 rfl ?_
    refine go_pick (lv' := []) [] rfl ?_
    exact SXL_way_L16      _ _ _ _ E
theorem OXL_way {F : Nat} {l0 : Option Nat} {l1 : Int} {l2 : Int} {l3 : Option Nat} {h hf : HP} {r : Int} (e : XL_way F l0 l1 l2 l3 h = some (r, hf)) : Ok ML_way [vr l0, vi l1, vi l2, vr l3] (some (vi r)) h hf := fun K _ _ _ => SXL_way l0 l1 l2 l3 h e
theorem yw_X11_out : YW yX11_out cX11_out 2 (some .int) 1 := ⟨bw_of 1363 (by decide +kernel) rfl, bw_of 117 (by decide +kernel) rfl, ⟨by decide +kernel, by decide +kernel, by decide +kernel⟩, by decide +kernel⟩
theorem wml_RL_66 : Cond.methodLink RL 66 yX11_out ∈ BW := bw_of 1360 (by decide +kernel) rfl
theorem wim_X11_out : Cond.instanceMethod yX11_out ∈ BW := bw_of 1361 (by decide +kernel) rfl
theorem wse_X11_out : Cond.selects RX11 yX11_out yX11_out ∈ BW := bw_of 1362 (by decide +kernel) rfl
abbrev ML_out : MI := (RL, cL_out, 4, (some .int), 14, some (tableOf [(0, 9, 12, 13), (0, 9, 15, 69)]), "out")
noncomputable def XL_out (F : Nat)   (l0 : Option Nat) (l1 : Int) (l2 : Option Nat)  (h : HP) : Option (Int × HP) :=
  (xrc h l0 11 6).bind fun a3 =>
  xct (X11_out F a3 l1 h) (fun x4 h5 =>
    if x4 = "java/lang/IllegalArgumentException" then
      some (1, h5)
    else
      if x4 = "java/lang/IllegalStateException" then
        some (2, h5)
      else
        none) fun v1 h2 =>
  (xsJ h2 l2 0 v1).bind fun h6 =>
  some (0, h6)
set_option maxRecDepth 100000 in
theorem SXL_out {K : Ctx} {F : Nat} {r : Int} {hf : HP}     (l0 : Option Nat) (l1 : Int) (l2 : Option Nat)  (h : HP) (E : XL_out F   l0 l1 l2 h = some (r, hf)) : Go K ML_out (QM K (some (vi r)) hf) hf 0 [(0, vr l0), (1, vi l1), (2, vr l2)] [] h := by
  unfold XL_out at E
  refine go_aload_n (j := 2) (n := 1) rfl rfl dL_out_0 rfl ?_
  refine go_iconst (z := 0) (n := 2) ⟨by decide, by decide⟩ dL_out_1 rfl ?_
  refine go_aload_n (j := 0) (n := 3) rfl rfl dL_out_2 rfl ?_
  refine go_iload_n (j := 1) (n := 4) rfl rfl dL_out_3 rfl ?_
  replace E := Option.bind_eq_some_iff.mp E; obtain ⟨a3, ea3, E⟩ := E
  obtain ⟨fa3, ga3⟩ := xrc_some ea3
  replace E := xct_some E; rcases E with ⟨x4, h5, ev1, E⟩ | ⟨v1, h2, ev1, E⟩
  · by_cases c7 : x4 = "java/lang/IllegalArgumentException"
    · subst c7
      rw [if_pos rfl] at E
      refine go_callXVc (y := yX11_out) (n := 13) (as := [vi l1]) (st := [vi 0, vr l2]) (pre := []) (x := ⟨0, 9, 12, 13⟩) (suf := [⟨0, 9, 15, 69⟩]) (j := 3) (lv' := [(0, vr l0), (1, vi l1), (2, vr l2)]) (OXX11_out ev1) yw_X11_out ci_11 ga3 wml_RL_66 wim_X11_out wse_X11_out (Nat.le_of_ble_eq_true rfl) rfl ⟨Nat.le_of_ble_eq_true rfl, Nat.le_of_ble_eq_true rfl⟩ (Nat.le_of_ble_eq_true rfl) dL_out_4 (by cases fa3; rfl) rfl (fun z hz => by cases hz) rfl (by decide) wcx_RL_13 (by decide +kernel) (Or.inr ⟨3, rfl, dL_out_12, rfl⟩) (Nat.le_of_ble_eq_true rfl) rfl ?_
      refine go_iconst (z := 1) (n := 14) ⟨by decide, by decide⟩ dL_out_13 rfl ?_
      cases E
      exact go_ireturn rfl dL_out_14
    rw [if_neg c7] at E
    by_cases c8 : x4 = "java/lang/IllegalStateException"
    · subst c8
      rw [if_pos rfl] at E
      refine go_callXVc (y := yX11_out) (n := 16) (as := [vi l1]) (st := [vi 0, vr l2]) (pre := [⟨0, 9, 12, 13⟩]) (x := ⟨0, 9, 15, 69⟩) (suf := []) (j := 3) (lv' := [(0, vr l0), (1, vi l1), (2, vr l2)]) (OXX11_out ev1) yw_X11_out ci_11 ga3 wml_RL_66 wim_X11_out wse_X11_out (Nat.le_of_ble_eq_true rfl) rfl ⟨Nat.le_of_ble_eq_true rfl, Nat.le_of_ble_eq_true rfl⟩ (Nat.le_of_ble_eq_true rfl) dL_out_4 (by cases fa3; rfl) rfl (by intro z hz; simp only [List.mem_cons, List.not_mem_nil, or_false] at hz; rcases hz with rfl <;> first | exact ⟨by decide, "java/lang/IllegalArgumentException", wcx_RL_13, by decide +kernel⟩) rfl (by decide) wcx_RL_69 (by decide +kernel) (Or.inr ⟨3, rfl, dL_out_15, rfl⟩) (Nat.le_of_ble_eq_true rfl) rfl ?_
      refine go_iconst (z := 2) (n := 17) ⟨by decide, by decide⟩ dL_out_16 rfl ?_
      cases E
      exact go_ireturn rfl dL_out_17
    rw [if_neg c8] at E
    cases E
  refine go_callXVr (y := yX11_out) (n := 7) (st := [vi 0, vr l2]) (as := [vi l1]) (stk9 := [vi v1, vi 0, vr l2]) (OXX11_out ev1) yw_X11_out ci_11 ga3 wml_RL_66 wim_X11_out wse_X11_out (Nat.le_of_ble_eq_true rfl) rfl ⟨Nat.le_of_ble_eq_true rfl, Nat.le_of_ble_eq_true rfl⟩ (Nat.le_of_ble_eq_true rfl) dL_out_4 (by cases fa3; rfl) rfl rfl ?_
  refine go_i2l (n := 8) dL_out_7 rfl ?_
  replace E := Option.bind_eq_some_iff.mp E; obtain ⟨h6, eh6, E⟩ := E
  refine go_lastore (n := 9) eh6 dL_out_8 rfl ?_
  refine go_goto (tgt := 18) dL_out_9 rfl ?_
  refine go_iconst (z := 0) (n := 19) ⟨by decide, by decide⟩ dL_out_18 rfl ?_
  cases E
  exact go_ireturn rfl dL_out_19
theorem OXL_out {F : Nat} {l0 : Option Nat} {l1 : Int} {l2 : Option Nat} {h hf : HP} {r : Int} (e : XL_out F l0 l1 l2 h = some (r, hf)) : Ok ML_out [vr l0, vi l1, vr l2] (some (vi r)) h hf := fun K _ _ _ => SXL_out l0 l1 l2 h e
theorem yw_X11_minutes : YW yX11_minutes cX11_minutes 3 (some .int) 1 := ⟨bw_of 1395 (by decide +kernel) rfl, bw_of 117 (by decide +kernel) rfl, ⟨by decide +kernel, by decide +kernel, by decide +kernel⟩, by decide +kernel⟩
theorem wml_RL_71 : Cond.methodLink RL 71 yX11_minutes ∈ BW := bw_of 1392 (by decide +kernel) rfl
theorem wim_X11_minutes : Cond.instanceMethod yX11_minutes ∈ BW := bw_of 1393 (by decide +kernel) rfl
theorem wse_X11_minutes : Cond.selects RX11 yX11_minutes yX11_minutes ∈ BW := bw_of 1394 (by decide +kernel) rfl
abbrev ML_minutes : MI := (RL, cL_minutes, 4, (some .int), 14, some (tableOf [(0, 9, 12, 13)]), "minutes")
noncomputable def XL_minutes (F : Nat)   (l0 : Option Nat) (l1 : Int) (l2 : Option Nat)  (h : HP) : Option (Int × HP) :=
  (xrc h l0 11 6).bind fun a3 =>
  xct (X11_minutes F a3 l1 h) (fun x4 h5 =>
    if x4 = "java/lang/IllegalArgumentException" then
      some (1, h5)
    else
      none) fun v1 h2 =>
  (xsJ h2 l2 0 v1).bind fun h6 =>
  some (0, h6)
set_option maxRecDepth 100000 in
theorem SXL_minutes {K : Ctx} {F : Nat} {r : Int} {hf : HP}     (l0 : Option Nat) (l1 : Int) (l2 : Option Nat)  (h : HP) (E : XL_minutes F   l0 l1 l2 h = some (r, hf)) : Go K ML_minutes (QM K (some (vi r)) hf) hf 0 [(0, vr l0), (1, vi l1), (2, vr l2)] [] h := by
  unfold XL_minutes at E
  refine go_aload_n (j := 2) (n := 1) rfl rfl dL_minutes_0 rfl ?_
  refine go_iconst (z := 0) (n := 2) ⟨by decide, by decide⟩ dL_minutes_1 rfl ?_
  refine go_aload_n (j := 0) (n := 3) rfl rfl dL_minutes_2 rfl ?_
  refine go_iload_n (j := 1) (n := 4) rfl rfl dL_minutes_3 rfl ?_
  replace E := Option.bind_eq_some_iff.mp E; obtain ⟨a3, ea3, E⟩ := E
  obtain ⟨fa3, ga3⟩ := xrc_some ea3
  replace E := xct_some E; rcases E with ⟨x4, h5, ev1, E⟩ | ⟨v1, h2, ev1, E⟩
  · by_cases c7 : x4 = "java/lang/IllegalArgumentException"
    · subst c7
      rw [if_pos rfl] at E
      refine go_callXVc (y := yX11_minutes) (n := 13) (as := [vi l1]) (st := [vi 0, vr l2]) (pre := []) (x := ⟨0, 9, 12, 13⟩) (suf := []) (j := 3) (lv' := [(0, vr l0), (1, vi l1), (2, vr l2)]) (OXX11_minutes ev1) yw_X11_minutes ci_11 ga3 wml_RL_71 wim_X11_minutes wse_X11_minutes (Nat.le_of_ble_eq_true rfl) rfl ⟨Nat.le_of_ble_eq_true rfl, Nat.le_of_ble_eq_true rfl⟩ (Nat.le_of_ble_eq_true rfl) dL_minutes_4 (by cases fa3; rfl) rfl (fun z hz => by cases hz) rfl (by decide) wcx_RL_13 (by decide +kernel) (Or.inr ⟨3, rfl, dL_minutes_12, rfl⟩) (Nat.le_of_ble_eq_true rfl) rfl ?_
      refine go_iconst (z := 1) (n := 14) ⟨by decide, by decide⟩ dL_minutes_13 rfl ?_
      cases E
      exact go_ireturn rfl dL_minutes_14
    rw [if_neg c7] at E
    cases E
  refine go_callXVr (y := yX11_minutes) (n := 7) (st := [vi 0, vr l2]) (as := [vi l1]) (stk9 := [vi v1, vi 0, vr l2]) (OXX11_minutes ev1) yw_X11_minutes ci_11 ga3 wml_RL_71 wim_X11_minutes wse_X11_minutes (Nat.le_of_ble_eq_true rfl) rfl ⟨Nat.le_of_ble_eq_true rfl, Nat.le_of_ble_eq_true rfl⟩ (Nat.le_of_ble_eq_true rfl) dL_minutes_4 (by cases fa3; rfl) rfl rfl ?_
  refine go_i2l (n := 8) dL_minutes_7 rfl ?_
  replace E := Option.bind_eq_some_iff.mp E; obtain ⟨h6, eh6, E⟩ := E
  refine go_lastore (n := 9) eh6 dL_minutes_8 rfl ?_
  refine go_goto (tgt := 15) dL_minutes_9 rfl ?_
  refine go_iconst (z := 0) (n := 16) ⟨by decide, by decide⟩ dL_minutes_15 rfl ?_
  cases E
  exact go_ireturn rfl dL_minutes_16
theorem OXL_minutes {F : Nat} {l0 : Option Nat} {l1 : Int} {l2 : Option Nat} {h hf : HP} {r : Int} (e : XL_minutes F l0 l1 l2 h = some (r, hf)) : Ok ML_minutes [vr l0, vi l1, vr l2] (some (vi r)) h hf := fun K _ _ _ => SXL_minutes l0 l1 l2 h e
theorem yw_X11_look : YW yX11_look cX11_look 3 (some .int) 2 := ⟨bw_of 1500 (by decide +kernel) rfl, bw_of 117 (by decide +kernel) rfl, ⟨by decide +kernel, by decide +kernel, by decide +kernel⟩, by decide +kernel⟩
theorem wml_RL_74 : Cond.methodLink RL 74 yX11_look ∈ BW := bw_of 1497 (by decide +kernel) rfl
theorem wim_X11_look : Cond.instanceMethod yX11_look ∈ BW := bw_of 1498 (by decide +kernel) rfl
theorem wse_X11_look : Cond.selects RX11 yX11_look yX11_look ∈ BW := bw_of 1499 (by decide +kernel) rfl
abbrev ML_look : MI := (RL, cL_look, 5, (some .int), 14, some (tableOf [(0, 10, 13, 18), (0, 10, 17, 77)]), "look")
noncomputable def XL_look (F : Nat)   (l0 : Option Nat) (l1 : Int) (l2 : Int) (l3 : Option Nat)  (h : HP) : Option (Int × HP) :=
  (xrc h l0 11 6).bind fun a3 =>
  xct (X11_look F a3 l1 l2 h) (fun x4 h5 =>
    if x4 = "java/lang/IndexOutOfBoundsException" then
      some (1, h5)
    else
      if x4 = "java/util/NoSuchElementException" then
        some (2, h5)
      else
        none) fun v1 h2 =>
  (xsJ h2 l3 0 v1).bind fun h6 =>
  some (0, h6)
set_option maxRecDepth 100000 in
theorem SXL_look {K : Ctx} {F : Nat} {r : Int} {hf : HP}     (l0 : Option Nat) (l1 : Int) (l2 : Int) (l3 : Option Nat)  (h : HP) (E : XL_look F   l0 l1 l2 l3 h = some (r, hf)) : Go K ML_look (QM K (some (vi r)) hf) hf 0 [(0, vr l0), (1, vi l1), (2, vi l2), (3, vr l3)] [] h := by
  unfold XL_look at E
  refine go_aload_n (j := 3) (n := 1) rfl rfl dL_look_0 rfl ?_
  refine go_iconst (z := 0) (n := 2) ⟨by decide, by decide⟩ dL_look_1 rfl ?_
  refine go_aload_n (j := 0) (n := 3) rfl rfl dL_look_2 rfl ?_
  refine go_iload_n (j := 1) (n := 4) rfl rfl dL_look_3 rfl ?_
  refine go_iload_n (j := 2) (n := 5) rfl rfl dL_look_4 rfl ?_
  replace E := Option.bind_eq_some_iff.mp E; obtain ⟨a3, ea3, E⟩ := E
  obtain ⟨fa3, ga3⟩ := xrc_some ea3
  replace E := xct_some E; rcases E with ⟨x4, h5, ev1, E⟩ | ⟨v1, h2, ev1, E⟩
  · by_cases c7 : x4 = "java/lang/IndexOutOfBoundsException"
    · subst c7
      rw [if_pos rfl] at E
      refine go_callXVc (y := yX11_look) (n := 15) (as := [vi l1, vi l2]) (st := [vi 0, vr l3]) (pre := []) (x := ⟨0, 10, 13, 18⟩) (suf := [⟨0, 10, 17, 77⟩]) (j := 4) (lv' := [(0, vr l0), (1, vi l1), (2, vi l2), (3, vr l3)]) (OXX11_look ev1) yw_X11_look ci_11 ga3 wml_RL_74 wim_X11_look wse_X11_look (Nat.le_of_ble_eq_true rfl) rfl ⟨Nat.le_of_ble_eq_true rfl, Nat.le_of_ble_eq_true rfl⟩ (Nat.le_of_ble_eq_true rfl) dL_look_5 (by cases fa3; rfl) rfl (fun z hz => by cases hz) rfl (by decide) wcx_RL_18 (by decide +kernel) (Or.inl ⟨dL_look_13, rfl⟩) (Nat.le_of_ble_eq_true rfl) rfl ?_
      refine go_iconst (z := 1) (n := 16) ⟨by decide, by decide⟩ dL_look_15 rfl ?_
      cases E
      exact go_ireturn rfl dL_look_16
    rw [if_neg c7] at E
    by_cases c8 : x4 = "java/util/NoSuchElementException"
    · subst c8
      rw [if_pos rfl] at E
      refine go_callXVc (y := yX11_look) (n := 19) (as := [vi l1, vi l2]) (st := [vi 0, vr l3]) (pre := [⟨0, 10, 13, 18⟩]) (x := ⟨0, 10, 17, 77⟩) (suf := []) (j := 4) (lv' := [(0, vr l0), (1, vi l1), (2, vi l2), (3, vr l3)]) (OXX11_look ev1) yw_X11_look ci_11 ga3 wml_RL_74 wim_X11_look wse_X11_look (Nat.le_of_ble_eq_true rfl) rfl ⟨Nat.le_of_ble_eq_true rfl, Nat.le_of_ble_eq_true rfl⟩ (Nat.le_of_ble_eq_true rfl) dL_look_5 (by cases fa3; rfl) rfl (by intro z hz; simp only [List.mem_cons, List.not_mem_nil, or_false] at hz; rcases hz with rfl <;> first | exact ⟨by decide, "java/lang/IndexOutOfBoundsException", wcx_RL_18, by decide +kernel⟩) rfl (by decide) wcx_RL_77 (by decide +kernel) (Or.inl ⟨dL_look_17, rfl⟩) (Nat.le_of_ble_eq_true rfl) rfl ?_
      refine go_iconst (z := 2) (n := 20) ⟨by decide, by decide⟩ dL_look_19 rfl ?_
      cases E
      exact go_ireturn rfl dL_look_20
    rw [if_neg c8] at E
    cases E
  refine go_callXVr (y := yX11_look) (n := 8) (st := [vi 0, vr l3]) (as := [vi l1, vi l2]) (stk9 := [vi v1, vi 0, vr l3]) (OXX11_look ev1) yw_X11_look ci_11 ga3 wml_RL_74 wim_X11_look wse_X11_look (Nat.le_of_ble_eq_true rfl) rfl ⟨Nat.le_of_ble_eq_true rfl, Nat.le_of_ble_eq_true rfl⟩ (Nat.le_of_ble_eq_true rfl) dL_look_5 (by cases fa3; rfl) rfl rfl ?_
  refine go_i2l (n := 9) dL_look_8 rfl ?_
  replace E := Option.bind_eq_some_iff.mp E; obtain ⟨h6, eh6, E⟩ := E
  refine go_lastore (n := 10) eh6 dL_look_9 rfl ?_
  refine go_goto (tgt := 21) dL_look_10 rfl ?_
  refine go_iconst (z := 0) (n := 22) ⟨by decide, by decide⟩ dL_look_21 rfl ?_
  cases E
  exact go_ireturn rfl dL_look_22
theorem OXL_look {F : Nat} {l0 : Option Nat} {l1 : Int} {l2 : Int} {l3 : Option Nat} {h hf : HP} {r : Int} (e : XL_look F l0 l1 l2 l3 h = some (r, hf)) : Ok ML_look [vr l0, vi l1, vi l2, vr l3] (some (vi r)) h hf := fun K _ _ _ => SXL_look l0 l1 l2 l3 h e
theorem yw_X11_test : YW yX11_test cX11_test 3 (some .int) 2 := ⟨bw_of 1546 (by decide +kernel) rfl, bw_of 117 (by decide +kernel) rfl, ⟨by decide +kernel, by decide +kernel, by decide +kernel⟩, by decide +kernel⟩
theorem wml_RL_83 : Cond.methodLink RL 83 yX11_test ∈ BW := bw_of 1543 (by decide +kernel) rfl
theorem wim_X11_test : Cond.instanceMethod yX11_test ∈ BW := bw_of 1544 (by decide +kernel) rfl
theorem wse_X11_test : Cond.selects RX11 yX11_test yX11_test ∈ BW := bw_of 1545 (by decide +kernel) rfl
abbrev ML_test : MI := (RL, cL_test, 5, (some .int), 14, some (tableOf [(0, 10, 13, 18), (0, 10, 17, 13)]), "test")
noncomputable def XL_test (F : Nat)   (l0 : Option Nat) (l1 : Int) (l2 : Int) (l3 : Option Nat)  (h : HP) : Option (Int × HP) :=
  (xrc h l0 11 6).bind fun a3 =>
  xct (X11_test F a3 l1 l2 h) (fun x4 h5 =>
    if x4 = "java/lang/IndexOutOfBoundsException" then
      some (1, h5)
    else
      if x4 = "java/lang/IllegalArgumentException" then
        some (2, h5)
      else
        none) fun v1 h2 =>
  (xsJ h2 l3 0 v1).bind fun h6 =>
  some (0, h6)
set_option maxRecDepth 100000 in
theorem SXL_test {K : Ctx} {F : Nat} {r : Int} {hf : HP}     (l0 : Option Nat) (l1 : Int) (l2 : Int) (l3 : Option Nat)  (h : HP) (E : XL_test F   l0 l1 l2 l3 h = some (r, hf)) : Go K ML_test (QM K (some (vi r)) hf) hf 0 [(0, vr l0), (1, vi l1), (2, vi l2), (3, vr l3)] [] h := by
  unfold XL_test at E
  refine go_aload_n (j := 3) (n := 1) rfl rfl dL_test_0 rfl ?_
  refine go_iconst (z := 0) (n := 2) ⟨by decide, by decide⟩ dL_test_1 rfl ?_
  refine go_aload_n (j := 0) (n := 3) rfl rfl dL_test_2 rfl ?_
  refine go_iload_n (j := 1) (n := 4) rfl rfl dL_test_3 rfl ?_
  refine go_iload_n (j := 2) (n := 5) rfl rfl dL_test_4 rfl ?_
  replace E := Option.bind_eq_some_iff.mp E; obtain ⟨a3, ea3, E⟩ := E
  obtain ⟨fa3, ga3⟩ := xrc_some ea3
  replace E := xct_some E; rcases E with ⟨x4, h5, ev1, E⟩ | ⟨v1, h2, ev1, E⟩
  · by_cases c7 : x4 = "java/lang/IndexOutOfBoundsException"
    · subst c7
      rw [if_pos rfl] at E
      refine go_callXVc (y := yX11_test) (n := 15) (as := [vi l1, vi l2]) (st := [vi 0, vr l3]) (pre := []) (x := ⟨0, 10, 13, 18⟩) (suf := [⟨0, 10, 17, 13⟩]) (j := 4) (lv' := [(0, vr l0), (1, vi l1), (2, vi l2), (3, vr l3)]) (OXX11_test ev1) yw_X11_test ci_11 ga3 wml_RL_83 wim_X11_test wse_X11_test (Nat.le_of_ble_eq_true rfl) rfl ⟨Nat.le_of_ble_eq_true rfl, Nat.le_of_ble_eq_true rfl⟩ (Nat.le_of_ble_eq_true rfl) dL_test_5 (by cases fa3; rfl) rfl (fun z hz => by cases hz) rfl (by decide) wcx_RL_18 (by decide +kernel) (Or.inl ⟨dL_test_13, rfl⟩) (Nat.le_of_ble_eq_true rfl) rfl ?_
      refine go_iconst (z := 1) (n := 16) ⟨by decide, by decide⟩ dL_test_15 rfl ?_
      cases E
      exact go_ireturn rfl dL_test_16
    rw [if_neg c7] at E
    by_cases c8 : x4 = "java/lang/IllegalArgumentException"
    · subst c8
      rw [if_pos rfl] at E
      refine go_callXVc (y := yX11_test) (n := 19) (as := [vi l1, vi l2]) (st := [vi 0, vr l3]) (pre := [⟨0, 10, 13, 18⟩]) (x := ⟨0, 10, 17, 13⟩) (suf := []) (j := 4) (lv' := [(0, vr l0), (1, vi l1), (2, vi l2), (3, vr l3)]) (OXX11_test ev1) yw_X11_test ci_11 ga3 wml_RL_83 wim_X11_test wse_X11_test (Nat.le_of_ble_eq_true rfl) rfl ⟨Nat.le_of_ble_eq_true rfl, Nat.le_of_ble_eq_true rfl⟩ (Nat.le_of_ble_eq_true rfl) dL_test_5 (by cases fa3; rfl) rfl (by intro z hz; simp only [List.mem_cons, List.not_mem_nil, or_false] at hz; rcases hz with rfl <;> first | exact ⟨by decide, "java/lang/IndexOutOfBoundsException", wcx_RL_18, by decide +kernel⟩) rfl (by decide) wcx_RL_13 (by decide +kernel) (Or.inl ⟨dL_test_17, rfl⟩) (Nat.le_of_ble_eq_true rfl) rfl ?_
      refine go_iconst (z := 2) (n := 20) ⟨by decide, by decide⟩ dL_test_19 rfl ?_
      cases E
      exact go_ireturn rfl dL_test_20
    rw [if_neg c8] at E
    cases E
  refine go_callXVr (y := yX11_test) (n := 8) (st := [vi 0, vr l3]) (as := [vi l1, vi l2]) (stk9 := [vi v1, vi 0, vr l3]) (OXX11_test ev1) yw_X11_test ci_11 ga3 wml_RL_83 wim_X11_test wse_X11_test (Nat.le_of_ble_eq_true rfl) rfl ⟨Nat.le_of_ble_eq_true rfl, Nat.le_of_ble_eq_true rfl⟩ (Nat.le_of_ble_eq_true rfl) dL_test_5 (by cases fa3; rfl) rfl rfl ?_
  refine go_i2l (n := 9) dL_test_8 rfl ?_
  replace E := Option.bind_eq_some_iff.mp E; obtain ⟨h6, eh6, E⟩ := E
  refine go_lastore (n := 10) eh6 dL_test_9 rfl ?_
  refine go_goto (tgt := 21) dL_test_10 rfl ?_
  refine go_iconst (z := 0) (n := 22) ⟨by decide, by decide⟩ dL_test_21 rfl ?_
  cases E
  exact go_ireturn rfl dL_test_22
theorem OXL_test {F : Nat} {l0 : Option Nat} {l1 : Int} {l2 : Int} {l3 : Option Nat} {h hf : HP} {r : Int} (e : XL_test F l0 l1 l2 l3 h = some (r, hf)) : Ok ML_test [vr l0, vi l1, vi l2, vr l3] (some (vi r)) h hf := fun K _ _ _ => SXL_test l0 l1 l2 l3 h e
theorem yw_X11_wanted : YW yX11_wanted cX11_wanted 6 (some .int) 5 := ⟨bw_of 1567 (by decide +kernel) rfl, bw_of 117 (by decide +kernel) rfl, ⟨by decide +kernel, by decide +kernel, by decide +kernel⟩, by decide +kernel⟩
theorem wml_RL_89 : Cond.methodLink RL 89 yX11_wanted ∈ BW := bw_of 1564 (by decide +kernel) rfl
theorem wim_X11_wanted : Cond.instanceMethod yX11_wanted ∈ BW := bw_of 1565 (by decide +kernel) rfl
theorem wse_X11_wanted : Cond.selects RX11 yX11_wanted yX11_wanted ∈ BW := bw_of 1566 (by decide +kernel) rfl
abbrev ML_wanted : MI := (RL, cL_wanted, 8, (some .int), 14, some (tableOf [(0, 16, 19, 18), (0, 16, 23, 13)]), "wanted")
noncomputable def XL_wanted (F : Nat)   (l0 : Option Nat) (l1 : Int) (l2 : Int) (l3 : Int) (l4 : Int) (l5 : Int) (l6 : Option Nat)  (h : HP) : Option (Int × HP) :=
  (xrc h l0 11 6).bind fun a3 =>
  xct (X11_wanted F a3 l1 l2 l3 l4 l5 h) (fun x4 h5 =>
    if x4 = "java/lang/IndexOutOfBoundsException" then
      some (1, h5)
    else
      if x4 = "java/lang/IllegalArgumentException" then
        some (2, h5)
      else
        none) fun v1 h2 =>
  (xsJ h2 l6 0 v1).bind fun h6 =>
  some (0, h6)
set_option maxRecDepth 100000 in
theorem SXL_wanted {K : Ctx} {F : Nat} {r : Int} {hf : HP}     (l0 : Option Nat) (l1 : Int) (l2 : Int) (l3 : Int) (l4 : Int) (l5 : Int) (l6 : Option Nat)  (h : HP) (E : XL_wanted F   l0 l1 l2 l3 l4 l5 l6 h = some (r, hf)) : Go K ML_wanted (QM K (some (vi r)) hf) hf 0 [(0, vr l0), (1, vi l1), (2, vi l2), (3, vi l3), (4, vi l4), (5, vi l5), (6, vr l6)] [] h := by
  unfold XL_wanted at E
  refine go_aload (j := 6) (n := 2) rfl dL_wanted_0 rfl ?_
  refine go_iconst (z := 0) (n := 3) ⟨by decide, by decide⟩ dL_wanted_2 rfl ?_
  refine go_aload_n (j := 0) (n := 4) rfl rfl dL_wanted_3 rfl ?_
  refine go_iload_n (j := 1) (n := 5) rfl rfl dL_wanted_4 rfl ?_
  refine go_iload_n (j := 2) (n := 6) rfl rfl dL_wanted_5 rfl ?_
  refine go_iload_n (j := 3) (n := 7) rfl rfl dL_wanted_6 rfl ?_
  refine go_iload (j := 4) (n := 9) rfl dL_wanted_7 rfl ?_
  refine go_iload (j := 5) (n := 11) rfl dL_wanted_9 rfl ?_
  replace E := Option.bind_eq_some_iff.mp E; obtain ⟨a3, ea3, E⟩ := E
  obtain ⟨fa3, ga3⟩ := xrc_some ea3
  replace E := xct_some E; rcases E with ⟨x4, h5, ev1, E⟩ | ⟨v1, h2, ev1, E⟩
  · by_cases c7 : x4 = "java/lang/IndexOutOfBoundsException"
    · subst c7
      rw [if_pos rfl] at E
      refine go_callXVc (y := yX11_wanted) (n := 21) (as := [vi l1, vi l2, vi l3, vi l4, vi l5]) (st := [vi 0, vr l6]) (pre := []) (x := ⟨0, 16, 19, 18⟩) (suf := [⟨0, 16, 23, 13⟩]) (j := 7) (lv' := [(0, vr l0), (1, vi l1), (2, vi l2), (3, vi l3), (4, vi l4), (5, vi l5), (6, vr l6)]) (OXX11_wanted ev1) yw_X11_wanted ci_11 ga3 wml_RL_89 wim_X11_wanted wse_X11_wanted (Nat.le_of_ble_eq_true rfl) rfl ⟨Nat.le_of_ble_eq_true rfl, Nat.le_of_ble_eq_true rfl⟩ (Nat.le_of_ble_eq_true rfl) dL_wanted_11 (by cases fa3; rfl) rfl (fun z hz => by cases hz) rfl (by decide) wcx_RL_18 (by decide +kernel) (Or.inl ⟨dL_wanted_19, rfl⟩) (Nat.le_of_ble_eq_true rfl) rfl ?_
      refine go_iconst (z := 1) (n := 22) ⟨by decide, by decide⟩ dL_wanted_21 rfl ?_
      cases E
      exact go_ireturn rfl dL_wanted_22
    rw [if_neg c7] at E
    by_cases c8 : x4 = "java/lang/IllegalArgumentException"
    · subst c8
      rw [if_pos rfl] at E
      refine go_callXVc (y := yX11_wanted) (n := 25) (as := [vi l1, vi l2, vi l3, vi l4, vi l5]) (st := [vi 0, vr l6]) (pre := [⟨0, 16, 19, 18⟩]) (x := ⟨0, 16, 23, 13⟩) (suf := []) (j := 7) (lv' := [(0, vr l0), (1, vi l1), (2, vi l2), (3, vi l3), (4, vi l4), (5, vi l5), (6, vr l6)]) (OXX11_wanted ev1) yw_X11_wanted ci_11 ga3 wml_RL_89 wim_X11_wanted wse_X11_wanted (Nat.le_of_ble_eq_true rfl) rfl ⟨Nat.le_of_ble_eq_true rfl, Nat.le_of_ble_eq_true rfl⟩ (Nat.le_of_ble_eq_true rfl) dL_wanted_11 (by cases fa3; rfl) rfl (by intro z hz; simp only [List.mem_cons, List.not_mem_nil, or_false] at hz; rcases hz with rfl <;> first | exact ⟨by decide, "java/lang/IndexOutOfBoundsException", wcx_RL_18, by decide +kernel⟩) rfl (by decide) wcx_RL_13 (by decide +kernel) (Or.inl ⟨dL_wanted_23, rfl⟩) (Nat.le_of_ble_eq_true rfl) rfl ?_
      refine go_iconst (z := 2) (n := 26) ⟨by decide, by decide⟩ dL_wanted_25 rfl ?_
      cases E
      exact go_ireturn rfl dL_wanted_26
    rw [if_neg c8] at E
    cases E
  refine go_callXVr (y := yX11_wanted) (n := 14) (st := [vi 0, vr l6]) (as := [vi l1, vi l2, vi l3, vi l4, vi l5]) (stk9 := [vi v1, vi 0, vr l6]) (OXX11_wanted ev1) yw_X11_wanted ci_11 ga3 wml_RL_89 wim_X11_wanted wse_X11_wanted (Nat.le_of_ble_eq_true rfl) rfl ⟨Nat.le_of_ble_eq_true rfl, Nat.le_of_ble_eq_true rfl⟩ (Nat.le_of_ble_eq_true rfl) dL_wanted_11 (by cases fa3; rfl) rfl rfl ?_
  refine go_i2l (n := 15) dL_wanted_14 rfl ?_
  replace E := Option.bind_eq_some_iff.mp E; obtain ⟨h6, eh6, E⟩ := E
  refine go_lastore (n := 16) eh6 dL_wanted_15 rfl ?_
  refine go_goto (tgt := 27) dL_wanted_16 rfl ?_
  refine go_iconst (z := 0) (n := 28) ⟨by decide, by decide⟩ dL_wanted_27 rfl ?_
  cases E
  exact go_ireturn rfl dL_wanted_28
theorem OXL_wanted {F : Nat} {l0 : Option Nat} {l1 : Int} {l2 : Int} {l3 : Int} {l4 : Int} {l5 : Int} {l6 : Option Nat} {h hf : HP} {r : Int} (e : XL_wanted F l0 l1 l2 l3 l4 l5 l6 h = some (r, hf)) : Ok ML_wanted [vr l0, vi l1, vi l2, vi l3, vi l4, vi l5, vr l6] (some (vi r)) h hf := fun K _ _ _ => SXL_wanted l0 l1 l2 l3 l4 l5 l6 h e
theorem yw_X11_worker : YW yX11_worker cX11_worker 3 (some .int) 2 := ⟨bw_of 1649 (by decide +kernel) rfl, bw_of 117 (by decide +kernel) rfl, ⟨by decide +kernel, by decide +kernel, by decide +kernel⟩, by decide +kernel⟩
theorem wml_RL_110 : Cond.methodLink RL 110 yX11_worker ∈ BW := bw_of 1646 (by decide +kernel) rfl
theorem wim_X11_worker : Cond.instanceMethod yX11_worker ∈ BW := bw_of 1647 (by decide +kernel) rfl
theorem wse_X11_worker : Cond.selects RX11 yX11_worker yX11_worker ∈ BW := bw_of 1648 (by decide +kernel) rfl
abbrev ML_worker : MI := (RL, cL_worker, 5, (some .int), 14, some (tableOf [(0, 10, 13, 13), (0, 10, 17, 42)]), "worker")
noncomputable def XL_worker (F : Nat)   (l0 : Option Nat) (l1 : Int) (l2 : Int) (l3 : Option Nat)  (h : HP) : Option (Int × HP) :=
  (xrc h l0 11 6).bind fun a3 =>
  xct (X11_worker F a3 l1 l2 h) (fun x4 h5 =>
    if x4 = "java/lang/IllegalArgumentException" then
      some (1, h5)
    else
      if x4 = "java/lang/UnsupportedOperationException" then
        some (2, h5)
      else
        none) fun v1 h2 =>
  (xsJ h2 l3 0 v1).bind fun h6 =>
  some (0, h6)
set_option maxRecDepth 100000 in
theorem SXL_worker {K : Ctx} {F : Nat} {r : Int} {hf : HP}     (l0 : Option Nat) (l1 : Int) (l2 : Int) (l3 : Option Nat)  (h : HP) (E : XL_worker F   l0 l1 l2 l3 h = some (r, hf)) : Go K ML_worker (QM K (some (vi r)) hf) hf 0 [(0, vr l0), (1, vi l1), (2, vi l2), (3, vr l3)] [] h := by
  unfold XL_worker at E
  refine go_aload_n (j := 3) (n := 1) rfl rfl dL_worker_0 rfl ?_
  refine go_iconst (z := 0) (n := 2) ⟨by decide, by decide⟩ dL_worker_1 rfl ?_
  refine go_aload_n (j := 0) (n := 3) rfl rfl dL_worker_2 rfl ?_
  refine go_iload_n (j := 1) (n := 4) rfl rfl dL_worker_3 rfl ?_
  refine go_iload_n (j := 2) (n := 5) rfl rfl dL_worker_4 rfl ?_
  replace E := Option.bind_eq_some_iff.mp E; obtain ⟨a3, ea3, E⟩ := E
  obtain ⟨fa3, ga3⟩ := xrc_some ea3
  replace E := xct_some E; rcases E with ⟨x4, h5, ev1, E⟩ | ⟨v1, h2, ev1, E⟩
  · by_cases c7 : x4 = "java/lang/IllegalArgumentException"
    · subst c7
      rw [if_pos rfl] at E
      refine go_callXVc (y := yX11_worker) (n := 15) (as := [vi l1, vi l2]) (st := [vi 0, vr l3]) (pre := []) (x := ⟨0, 10, 13, 13⟩) (suf := [⟨0, 10, 17, 42⟩]) (j := 4) (lv' := [(0, vr l0), (1, vi l1), (2, vi l2), (3, vr l3)]) (OXX11_worker ev1) yw_X11_worker ci_11 ga3 wml_RL_110 wim_X11_worker wse_X11_worker (Nat.le_of_ble_eq_true rfl) rfl ⟨Nat.le_of_ble_eq_true rfl, Nat.le_of_ble_eq_true rfl⟩ (Nat.le_of_ble_eq_true rfl) dL_worker_5 (by cases fa3; rfl) rfl (fun z hz => by cases hz) rfl (by decide) wcx_RL_13 (by decide +kernel) (Or.inl ⟨dL_worker_13, rfl⟩) (Nat.le_of_ble_eq_true rfl) rfl ?_
      refine go_iconst (z := 1) (n := 16) ⟨by decide, by decide⟩ dL_worker_15 rfl ?_
      cases E
      exact go_ireturn rfl dL_worker_16
    rw [if_neg c7] at E
    by_cases c8 : x4 = "java/lang/UnsupportedOperationException"
    · subst c8
      rw [if_pos rfl] at E
      refine go_callXVc (y := yX11_worker) (n := 19) (as := [vi l1, vi l2]) (st := [vi 0, vr l3]) (pre := [⟨0, 10, 13, 13⟩]) (x := ⟨0, 10, 17, 42⟩) (suf := []) (j := 4) (lv' := [(0, vr l0), (1, vi l1), (2, vi l2), (3, vr l3)]) (OXX11_worker ev1) yw_X11_worker ci_11 ga3 wml_RL_110 wim_X11_worker wse_X11_worker (Nat.le_of_ble_eq_true rfl) rfl ⟨Nat.le_of_ble_eq_true rfl, Nat.le_of_ble_eq_true rfl⟩ (Nat.le_of_ble_eq_true rfl) dL_worker_5 (by cases fa3; rfl) rfl (by intro z hz; simp only [List.mem_cons, List.not_mem_nil, or_false] at hz; rcases hz with rfl <;> first | exact ⟨by decide, "java/lang/IllegalArgumentException", wcx_RL_13, by decide +kernel⟩) rfl (by decide) wcx_RL_42 (by decide +kernel) (Or.inl ⟨dL_worker_17, rfl⟩) (Nat.le_of_ble_eq_true rfl) rfl ?_
      refine go_iconst (z := 2) (n := 20) ⟨by decide, by decide⟩ dL_worker_19 rfl ?_
      cases E
      exact go_ireturn rfl dL_worker_20
    rw [if_neg c8] at E
    cases E
  refine go_callXVr (y := yX11_worker) (n := 8) (st := [vi 0, vr l3]) (as := [vi l1, vi l2]) (stk9 := [vi v1, vi 0, vr l3]) (OXX11_worker ev1) yw_X11_worker ci_11 ga3 wml_RL_110 wim_X11_worker wse_X11_worker (Nat.le_of_ble_eq_true rfl) rfl ⟨Nat.le_of_ble_eq_true rfl, Nat.le_of_ble_eq_true rfl⟩ (Nat.le_of_ble_eq_true rfl) dL_worker_5 (by cases fa3; rfl) rfl rfl ?_
  refine go_i2l (n := 9) dL_worker_8 rfl ?_
  replace E := Option.bind_eq_some_iff.mp E; obtain ⟨h6, eh6, E⟩ := E
  refine go_lastore (n := 10) eh6 dL_worker_9 rfl ?_
  refine go_goto (tgt := 21) dL_worker_10 rfl ?_
  refine go_iconst (z := 0) (n := 22) ⟨by decide, by decide⟩ dL_worker_21 rfl ?_
  cases E
  exact go_ireturn rfl dL_worker_22
theorem OXL_worker {F : Nat} {l0 : Option Nat} {l1 : Int} {l2 : Int} {l3 : Option Nat} {h hf : HP} {r : Int} (e : XL_worker F l0 l1 l2 l3 h = some (r, hf)) : Ok ML_worker [vr l0, vi l1, vi l2, vr l3] (some (vi r)) h hf := fun K _ _ _ => SXL_worker l0 l1 l2 l3 h e
theorem yw_X11_pay : YW yX11_pay cX11_pay 3 (some .int) 2 := ⟨bw_of 1673 (by decide +kernel) rfl, bw_of 117 (by decide +kernel) rfl, ⟨by decide +kernel, by decide +kernel, by decide +kernel⟩, by decide +kernel⟩
theorem wml_RL_116 : Cond.methodLink RL 116 yX11_pay ∈ BW := bw_of 1670 (by decide +kernel) rfl
theorem wim_X11_pay : Cond.instanceMethod yX11_pay ∈ BW := bw_of 1671 (by decide +kernel) rfl
theorem wse_X11_pay : Cond.selects RX11 yX11_pay yX11_pay ∈ BW := bw_of 1672 (by decide +kernel) rfl
abbrev ML_pay : MI := (RL, cL_pay, 5, (some .int), 14, some (tableOf [(0, 10, 13, 18), (0, 10, 17, 77)]), "pay")
noncomputable def XL_pay (F : Nat)   (l0 : Option Nat) (l1 : Int) (l2 : Int) (l3 : Option Nat)  (h : HP) : Option (Int × HP) :=
  (xrc h l0 11 6).bind fun a3 =>
  xct (X11_pay F a3 l1 l2 h) (fun x4 h5 =>
    if x4 = "java/lang/IndexOutOfBoundsException" then
      some (1, h5)
    else
      if x4 = "java/util/NoSuchElementException" then
        some (2, h5)
      else
        none) fun v1 h2 =>
  (xsJ h2 l3 0 v1).bind fun h6 =>
  some (0, h6)
set_option maxRecDepth 100000 in
theorem SXL_pay {K : Ctx} {F : Nat} {r : Int} {hf : HP}     (l0 : Option Nat) (l1 : Int) (l2 : Int) (l3 : Option Nat)  (h : HP) (E : XL_pay F   l0 l1 l2 l3 h = some (r, hf)) : Go K ML_pay (QM K (some (vi r)) hf) hf 0 [(0, vr l0), (1, vi l1), (2, vi l2), (3, vr l3)] [] h := by
  unfold XL_pay at E
  refine go_aload_n (j := 3) (n := 1) rfl rfl dL_pay_0 rfl ?_
  refine go_iconst (z := 0) (n := 2) ⟨by decide, by decide⟩ dL_pay_1 rfl ?_
  refine go_aload_n (j := 0) (n := 3) rfl rfl dL_pay_2 rfl ?_
  refine go_iload_n (j := 1) (n := 4) rfl rfl dL_pay_3 rfl ?_
  refine go_iload_n (j := 2) (n := 5) rfl rfl dL_pay_4 rfl ?_
  replace E := Option.bind_eq_some_iff.mp E; obtain ⟨a3, ea3, E⟩ := E
  obtain ⟨fa3, ga3⟩ := xrc_some ea3
  replace E := xct_some E; rcases E with ⟨x4, h5, ev1, E⟩ | ⟨v1, h2, ev1, E⟩
  · by_cases c7 : x4 = "java/lang/IndexOutOfBoundsException"
    · subst c7
      rw [if_pos rfl] at E
      refine go_callXVc (y := yX11_pay) (n := 15) (as := [vi l1, vi l2]) (st := [vi 0, vr l3]) (pre := []) (x := ⟨0, 10, 13, 18⟩) (suf := [⟨0, 10, 17, 77⟩]) (j := 4) (lv' := [(0, vr l0), (1, vi l1), (2, vi l2), (3, vr l3)]) (OXX11_pay ev1) yw_X11_pay ci_11 ga3 wml_RL_116 wim_X11_pay wse_X11_pay (Nat.le_of_ble_eq_true rfl) rfl ⟨Nat.le_of_ble_eq_true rfl, Nat.le_of_ble_eq_true rfl⟩ (Nat.le_of_ble_eq_true rfl) dL_pay_5 (by cases fa3; rfl) rfl (fun z hz => by cases hz) rfl (by decide) wcx_RL_18 (by decide +kernel) (Or.inl ⟨dL_pay_13, rfl⟩) (Nat.le_of_ble_eq_true rfl) rfl ?_
      refine go_iconst (z := 1) (n := 16) ⟨by decide, by decide⟩ dL_pay_15 rfl ?_
      cases E
      exact go_ireturn rfl dL_pay_16
    rw [if_neg c7] at E
    by_cases c8 : x4 = "java/util/NoSuchElementException"
    · subst c8
      rw [if_pos rfl] at E
      refine go_callXVc (y := yX11_pay) (n := 19) (as := [vi l1, vi l2]) (st := [vi 0, vr l3]) (pre := [⟨0, 10, 13, 18⟩]) (x := ⟨0, 10, 17, 77⟩) (suf := []) (j := 4) (lv' := [(0, vr l0), (1, vi l1), (2, vi l2), (3, vr l3)]) (OXX11_pay ev1) yw_X11_pay ci_11 ga3 wml_RL_116 wim_X11_pay wse_X11_pay (Nat.le_of_ble_eq_true rfl) rfl ⟨Nat.le_of_ble_eq_true rfl, Nat.le_of_ble_eq_true rfl⟩ (Nat.le_of_ble_eq_true rfl) dL_pay_5 (by cases fa3; rfl) rfl (by intro z hz; simp only [List.mem_cons, List.not_mem_nil, or_false] at hz; rcases hz with rfl <;> first | exact ⟨by decide, "java/lang/IndexOutOfBoundsException", wcx_RL_18, by decide +kernel⟩) rfl (by decide) wcx_RL_77 (by decide +kernel) (Or.inl ⟨dL_pay_17, rfl⟩) (Nat.le_of_ble_eq_true rfl) rfl ?_
      refine go_iconst (z := 2) (n := 20) ⟨by decide, by decide⟩ dL_pay_19 rfl ?_
      cases E
      exact go_ireturn rfl dL_pay_20
    rw [if_neg c8] at E
    cases E
  refine go_callXVr (y := yX11_pay) (n := 8) (st := [vi 0, vr l3]) (as := [vi l1, vi l2]) (stk9 := [vi v1, vi 0, vr l3]) (OXX11_pay ev1) yw_X11_pay ci_11 ga3 wml_RL_116 wim_X11_pay wse_X11_pay (Nat.le_of_ble_eq_true rfl) rfl ⟨Nat.le_of_ble_eq_true rfl, Nat.le_of_ble_eq_true rfl⟩ (Nat.le_of_ble_eq_true rfl) dL_pay_5 (by cases fa3; rfl) rfl rfl ?_
  refine go_i2l (n := 9) dL_pay_8 rfl ?_
  replace E := Option.bind_eq_some_iff.mp E; obtain ⟨h6, eh6, E⟩ := E
  refine go_lastore (n := 10) eh6 dL_pay_9 rfl ?_
  refine go_goto (tgt := 21) dL_pay_10 rfl ?_
  refine go_iconst (z := 0) (n := 22) ⟨by decide, by decide⟩ dL_pay_21 rfl ?_
  cases E
  exact go_ireturn rfl dL_pay_22
theorem OXL_pay {F : Nat} {l0 : Option Nat} {l1 : Int} {l2 : Int} {l3 : Option Nat} {h hf : HP} {r : Int} (e : XL_pay F l0 l1 l2 l3 h = some (r, hf)) : Ok ML_pay [vr l0, vi l1, vi l2, vr l3] (some (vi r)) h hf := fun K _ _ _ => SXL_pay l0 l1 l2 l3 h e
theorem yw_X11_plan : YW yX11_plan cX11_plan 3 (some .int) 2 := ⟨bw_of 1684 (by decide +kernel) rfl, bw_of 117 (by decide +kernel) rfl, ⟨by decide +kernel, by decide +kernel, by decide +kernel⟩, by decide +kernel⟩
theorem wml_RL_119 : Cond.methodLink RL 119 yX11_plan ∈ BW := bw_of 1681 (by decide +kernel) rfl
theorem wim_X11_plan : Cond.instanceMethod yX11_plan ∈ BW := bw_of 1682 (by decide +kernel) rfl
theorem wse_X11_plan : Cond.selects RX11 yX11_plan yX11_plan ∈ BW := bw_of 1683 (by decide +kernel) rfl
abbrev ML_plan : MI := (RL, cL_plan, 5, (some .int), 107, some (tableOf [(0, 10, 13, 13)]), "plan")
noncomputable def XL_plan (F : Nat)   (l0 : Option Nat) (l1 : Int) (l2 : Int) (l3 : Option Nat)  (h : HP) : Option (Int × HP) :=
  (xrc h l0 11 6).bind fun a3 =>
  xct (X11_plan F a3 l1 l2 h) (fun x4 h5 =>
    if x4 = "java/lang/IllegalArgumentException" then
      some (1, h5)
    else
      none) fun v1 h2 =>
  (xsJ h2 l3 0 v1).bind fun h6 =>
  some (0, h6)
set_option maxRecDepth 100000 in
theorem SXL_plan {K : Ctx} {F : Nat} {r : Int} {hf : HP}     (l0 : Option Nat) (l1 : Int) (l2 : Int) (l3 : Option Nat)  (h : HP) (E : XL_plan F   l0 l1 l2 l3 h = some (r, hf)) : Go K ML_plan (QM K (some (vi r)) hf) hf 0 [(0, vr l0), (1, vi l1), (2, vi l2), (3, vr l3)] [] h := by
  unfold XL_plan at E
  refine go_aload_n (j := 3) (n := 1) rfl rfl dL_plan_0 rfl ?_
  refine go_iconst (z := 0) (n := 2) ⟨by decide, by decide⟩ dL_plan_1 rfl ?_
  refine go_aload_n (j := 0) (n := 3) rfl rfl dL_plan_2 rfl ?_
  refine go_iload_n (j := 1) (n := 4) rfl rfl dL_plan_3 rfl ?_
  refine go_iload_n (j := 2) (n := 5) rfl rfl dL_plan_4 rfl ?_
  replace E := Option.bind_eq_some_iff.mp E; obtain ⟨a3, ea3, E⟩ := E
  obtain ⟨fa3, ga3⟩ := xrc_some ea3
  replace E := xct_some E; rcases E with ⟨x4, h5, ev1, E⟩ | ⟨v1, h2, ev1, E⟩
  · by_cases c7 : x4 = "java/lang/IllegalArgumentException"
    · subst c7
      rw [if_pos rfl] at E
      refine go_callXVc (y := yX11_plan) (n := 15) (as := [vi l1, vi l2]) (st := [vi 0, vr l3]) (pre := []) (x := ⟨0, 10, 13, 13⟩) (suf := []) (j := 4) (lv' := [(0, vr l0), (1, vi l1), (2, vi l2), (3, vr l3)]) (OXX11_plan ev1) yw_X11_plan ci_11 ga3 wml_RL_119 wim_X11_plan wse_X11_plan (Nat.le_of_ble_eq_true rfl) rfl ⟨Nat.le_of_ble_eq_true rfl, Nat.le_of_ble_eq_true rfl⟩ (Nat.le_of_ble_eq_true rfl) dL_plan_5 (by cases fa3; rfl) rfl (fun z hz => by cases hz) rfl (by decide) wcx_RL_13 (by decide +kernel) (Or.inl ⟨dL_plan_13, rfl⟩) (Nat.le_of_ble_eq_true rfl) rfl ?_
      refine go_iconst (z := 1) (n := 16) ⟨by decide, by decide⟩ dL_plan_15 rfl ?_
      cases E
      exact go_ireturn rfl dL_plan_16
    rw [if_neg c7] at E
    cases E
  refine go_callXVr (y := yX11_plan) (n := 8) (st := [vi 0, vr l3]) (as := [vi l1, vi l2]) (stk9 := [vi v1, vi 0, vr l3]) (OXX11_plan ev1) yw_X11_plan ci_11 ga3 wml_RL_119 wim_X11_plan wse_X11_plan (Nat.le_of_ble_eq_true rfl) rfl ⟨Nat.le_of_ble_eq_true rfl, Nat.le_of_ble_eq_true rfl⟩ (Nat.le_of_ble_eq_true rfl) dL_plan_5 (by cases fa3; rfl) rfl rfl ?_
  refine go_i2l (n := 9) dL_plan_8 rfl ?_
  replace E := Option.bind_eq_some_iff.mp E; obtain ⟨h6, eh6, E⟩ := E
  refine go_lastore (n := 10) eh6 dL_plan_9 rfl ?_
  refine go_goto (tgt := 17) dL_plan_10 rfl ?_
  refine go_iconst (z := 0) (n := 18) ⟨by decide, by decide⟩ dL_plan_17 rfl ?_
  cases E
  exact go_ireturn rfl dL_plan_18
theorem OXL_plan {F : Nat} {l0 : Option Nat} {l1 : Int} {l2 : Int} {l3 : Option Nat} {h hf : HP} {r : Int} (e : XL_plan F l0 l1 l2 l3 h = some (r, hf)) : Ok ML_plan [vr l0, vi l1, vi l2, vr l3] (some (vi r)) h hf := fun K _ _ _ => SXL_plan l0 l1 l2 l3 h e
theorem yw_X11_which : YW yX11_which cX11_which 4 (some .int) 3 := ⟨bw_of 1723 (by decide +kernel) rfl, bw_of 117 (by decide +kernel) rfl, ⟨by decide +kernel, by decide +kernel, by decide +kernel⟩, by decide +kernel⟩
theorem wml_RL_122 : Cond.methodLink RL 122 yX11_which ∈ BW := bw_of 1720 (by decide +kernel) rfl
theorem wim_X11_which : Cond.instanceMethod yX11_which ∈ BW := bw_of 1721 (by decide +kernel) rfl
theorem wse_X11_which : Cond.selects RX11 yX11_which yX11_which ∈ BW := bw_of 1722 (by decide +kernel) rfl
abbrev ML_which : MI := (RL, cL_which, 6, (some .int), 107, some (tableOf [(0, 12, 15, 18), (0, 12, 19, 13)]), "which")
noncomputable def XL_which (F : Nat)   (l0 : Option Nat) (l1 : Int) (l2 : Int) (l3 : Int) (l4 : Option Nat)  (h : HP) : Option (Int × HP) :=
  (xrc h l0 11 6).bind fun a3 =>
  xct (X11_which F a3 l1 l2 l3 h) (fun x4 h5 =>
    if x4 = "java/lang/IndexOutOfBoundsException" then
      some (1, h5)
    else
      if x4 = "java/lang/IllegalArgumentException" then
        some (2, h5)
      else
        none) fun v1 h2 =>
  (xsJ h2 l4 0 v1).bind fun h6 =>
  some (0, h6)
set_option maxRecDepth 100000 in
theorem SXL_which {K : Ctx} {F : Nat} {r : Int} {hf : HP}     (l0 : Option Nat) (l1 : Int) (l2 : Int) (l3 : Int) (l4 : Option Nat)  (h : HP) (E : XL_which F   l0 l1 l2 l3 l4 h = some (r, hf)) : Go K ML_which (QM K (some (vi r)) hf) hf 0 [(0, vr l0), (1, vi l1), (2, vi l2), (3, vi l3), (4, vr l4)] [] h := by
  unfold XL_which at E
  refine go_aload (j := 4) (n := 2) rfl dL_which_0 rfl ?_
  refine go_iconst (z := 0) (n := 3) ⟨by decide, by decide⟩ dL_which_2 rfl ?_
  refine go_aload_n (j := 0) (n := 4) rfl rfl dL_which_3 rfl ?_
  refine go_iload_n (j := 1) (n := 5) rfl rfl dL_which_4 rfl ?_
  refine go_iload_n (j := 2) (n := 6) rfl rfl dL_which_5 rfl ?_
  refine go_iload_n (j := 3) (n := 7) rfl rfl dL_which_6 rfl ?_
  replace E := Option.bind_eq_some_iff.mp E; obtain ⟨a3, ea3, E⟩ := E
  obtain ⟨fa3, ga3⟩ := xrc_some ea3
  replace E := xct_some E; rcases E with ⟨x4, h5, ev1, E⟩ | ⟨v1, h2, ev1, E⟩
  · by_cases c7 : x4 = "java/lang/IndexOutOfBoundsException"
    · subst c7
      rw [if_pos rfl] at E
      refine go_callXVc (y := yX11_which) (n := 17) (as := [vi l1, vi l2, vi l3]) (st := [vi 0, vr l4]) (pre := []) (x := ⟨0, 12, 15, 18⟩) (suf := [⟨0, 12, 19, 13⟩]) (j := 5) (lv' := [(0, vr l0), (1, vi l1), (2, vi l2), (3, vi l3), (4, vr l4)]) (OXX11_which ev1) yw_X11_which ci_11 ga3 wml_RL_122 wim_X11_which wse_X11_which (Nat.le_of_ble_eq_true rfl) rfl ⟨Nat.le_of_ble_eq_true rfl, Nat.le_of_ble_eq_true rfl⟩ (Nat.le_of_ble_eq_true rfl) dL_which_7 (by cases fa3; rfl) rfl (fun z hz => by cases hz) rfl (by decide) wcx_RL_18 (by decide +kernel) (Or.inl ⟨dL_which_15, rfl⟩) (Nat.le_of_ble_eq_true rfl) rfl ?_
      refine go_iconst (z := 1) (n := 18) ⟨by decide, by decide⟩ dL_which_17 rfl ?_
      cases E
      exact go_ireturn rfl dL_which_18
    rw [if_neg c7] at E
    by_cases c8 : x4 = "java/lang/IllegalArgumentException"
    · subst c8
      rw [if_pos rfl] at E
      refine go_callXVc (y := yX11_which) (n := 21) (as := [vi l1, vi l2, vi l3]) (st := [vi 0, vr l4]) (pre := [⟨0, 12, 15, 18⟩]) (x := ⟨0, 12, 19, 13⟩) (suf := []) (j := 5) (lv' := [(0, vr l0), (1, vi l1), (2, vi l2), (3, vi l3), (4, vr l4)]) (OXX11_which ev1) yw_X11_which ci_11 ga3 wml_RL_122 wim_X11_which wse_X11_which (Nat.le_of_ble_eq_true rfl) rfl ⟨Nat.le_of_ble_eq_true rfl, Nat.le_of_ble_eq_true rfl⟩ (Nat.le_of_ble_eq_true rfl) dL_which_7 (by cases fa3; rfl) rfl (by intro z hz; simp only [List.mem_cons, List.not_mem_nil, or_false] at hz; rcases hz with rfl <;> first | exact ⟨by decide, "java/lang/IndexOutOfBoundsException", wcx_RL_18, by decide +kernel⟩) rfl (by decide) wcx_RL_13 (by decide +kernel) (Or.inl ⟨dL_which_19, rfl⟩) (Nat.le_of_ble_eq_true rfl) rfl ?_
      refine go_iconst (z := 2) (n := 22) ⟨by decide, by decide⟩ dL_which_21 rfl ?_
      cases E
      exact go_ireturn rfl dL_which_22
    rw [if_neg c8] at E
    cases E
  refine go_callXVr (y := yX11_which) (n := 10) (st := [vi 0, vr l4]) (as := [vi l1, vi l2, vi l3]) (stk9 := [vi v1, vi 0, vr l4]) (OXX11_which ev1) yw_X11_which ci_11 ga3 wml_RL_122 wim_X11_which wse_X11_which (Nat.le_of_ble_eq_true rfl) rfl ⟨Nat.le_of_ble_eq_true rfl, Nat.le_of_ble_eq_true rfl⟩ (Nat.le_of_ble_eq_true rfl) dL_which_7 (by cases fa3; rfl) rfl rfl ?_
  refine go_i2l (n := 11) dL_which_10 rfl ?_
  replace E := Option.bind_eq_some_iff.mp E; obtain ⟨h6, eh6, E⟩ := E
  refine go_lastore (n := 12) eh6 dL_which_11 rfl ?_
  refine go_goto (tgt := 23) dL_which_12 rfl ?_
  refine go_iconst (z := 0) (n := 24) ⟨by decide, by decide⟩ dL_which_23 rfl ?_
  cases E
  exact go_ireturn rfl dL_which_24
theorem OXL_which {F : Nat} {l0 : Option Nat} {l1 : Int} {l2 : Int} {l3 : Int} {l4 : Option Nat} {h hf : HP} {r : Int} (e : XL_which F l0 l1 l2 l3 l4 h = some (r, hf)) : Ok ML_which [vr l0, vi l1, vi l2, vi l3, vr l4] (some (vi r)) h hf := fun K _ _ _ => SXL_which l0 l1 l2 l3 l4 h e
theorem yw_X11_tear : YW yX11_tear cX11_tear 4 (some .int) 2 := ⟨bw_of 1734 (by decide +kernel) rfl, bw_of 117 (by decide +kernel) rfl, ⟨by decide +kernel, by decide +kernel, by decide +kernel⟩, by decide +kernel⟩
theorem wml_RL_125 : Cond.methodLink RL 125 yX11_tear ∈ BW := bw_of 1731 (by decide +kernel) rfl
theorem wim_X11_tear : Cond.instanceMethod yX11_tear ∈ BW := bw_of 1732 (by decide +kernel) rfl
theorem wse_X11_tear : Cond.selects RX11 yX11_tear yX11_tear ∈ BW := bw_of 1733 (by decide +kernel) rfl
abbrev ML_tear : MI := (RL, cL_tear, 5, (some .int), 13, some (tableOf [(0, 10, 13, 77)]), "tear")
noncomputable def XL_tear (F : Nat)   (l0 : Option Nat) (l1 : Int) (l2 : Int) (l3 : Option Nat)  (h : HP) : Option (Int × HP) :=
  (xrc h l0 11 6).bind fun a3 =>
  xct (X11_tear F a3 l1 l2 h) (fun x4 h5 =>
    if x4 = "java/util/NoSuchElementException" then
      some (1, h5)
    else
      none) fun v1 h2 =>
  (xsJ h2 l3 0 v1).bind fun h6 =>
  some (0, h6)
set_option maxRecDepth 100000 in
theorem SXL_tear {K : Ctx} {F : Nat} {r : Int} {hf : HP}     (l0 : Option Nat) (l1 : Int) (l2 : Int) (l3 : Option Nat)  (h : HP) (E : XL_tear F   l0 l1 l2 l3 h = some (r, hf)) : Go K ML_tear (QM K (some (vi r)) hf) hf 0 [(0, vr l0), (1, vi l1), (2, vi l2), (3, vr l3)] [] h := by
  unfold XL_tear at E
  refine go_aload_n (j := 3) (n := 1) rfl rfl dL_tear_0 rfl ?_
  refine go_iconst (z := 0) (n := 2) ⟨by decide, by decide⟩ dL_tear_1 rfl ?_
  refine go_aload_n (j := 0) (n := 3) rfl rfl dL_tear_2 rfl ?_
  refine go_iload_n (j := 1) (n := 4) rfl rfl dL_tear_3 rfl ?_
  refine go_iload_n (j := 2) (n := 5) rfl rfl dL_tear_4 rfl ?_
  replace E := Option.bind_eq_some_iff.mp E; obtain ⟨a3, ea3, E⟩ := E
  obtain ⟨fa3, ga3⟩ := xrc_some ea3
  replace E := xct_some E; rcases E with ⟨x4, h5, ev1, E⟩ | ⟨v1, h2, ev1, E⟩
  · by_cases c7 : x4 = "java/util/NoSuchElementException"
    · subst c7
      rw [if_pos rfl] at E
      refine go_callXVc (y := yX11_tear) (n := 15) (as := [vi l1, vi l2]) (st := [vi 0, vr l3]) (pre := []) (x := ⟨0, 10, 13, 77⟩) (suf := []) (j := 4) (lv' := [(0, vr l0), (1, vi l1), (2, vi l2), (3, vr l3)]) (OXX11_tear ev1) yw_X11_tear ci_11 ga3 wml_RL_125 wim_X11_tear wse_X11_tear (Nat.le_of_ble_eq_true rfl) rfl ⟨Nat.le_of_ble_eq_true rfl, Nat.le_of_ble_eq_true rfl⟩ (Nat.le_of_ble_eq_true rfl) dL_tear_5 (by cases fa3; rfl) rfl (fun z hz => by cases hz) rfl (by decide) wcx_RL_77 (by decide +kernel) (Or.inl ⟨dL_tear_13, rfl⟩) (Nat.le_of_ble_eq_true rfl) rfl ?_
      refine go_iconst (z := 1) (n := 16) ⟨by decide, by decide⟩ dL_tear_15 rfl ?_
      cases E
      exact go_ireturn rfl dL_tear_16
    rw [if_neg c7] at E
    cases E
  refine go_callXVr (y := yX11_tear) (n := 8) (st := [vi 0, vr l3]) (as := [vi l1, vi l2]) (stk9 := [vi v1, vi 0, vr l3]) (OXX11_tear ev1) yw_X11_tear ci_11 ga3 wml_RL_125 wim_X11_tear wse_X11_tear (Nat.le_of_ble_eq_true rfl) rfl ⟨Nat.le_of_ble_eq_true rfl, Nat.le_of_ble_eq_true rfl⟩ (Nat.le_of_ble_eq_true rfl) dL_tear_5 (by cases fa3; rfl) rfl rfl ?_
  refine go_i2l (n := 9) dL_tear_8 rfl ?_
  replace E := Option.bind_eq_some_iff.mp E; obtain ⟨h6, eh6, E⟩ := E
  refine go_lastore (n := 10) eh6 dL_tear_9 rfl ?_
  refine go_goto (tgt := 17) dL_tear_10 rfl ?_
  refine go_iconst (z := 0) (n := 18) ⟨by decide, by decide⟩ dL_tear_17 rfl ?_
  cases E
  exact go_ireturn rfl dL_tear_18
theorem OXL_tear {F : Nat} {l0 : Option Nat} {l1 : Int} {l2 : Int} {l3 : Option Nat} {h hf : HP} {r : Int} (e : XL_tear F l0 l1 l2 l3 h = some (r, hf)) : Ok ML_tear [vr l0, vi l1, vi l2, vr l3] (some (vi r)) h hf := fun K _ _ _ => SXL_tear l0 l1 l2 l3 h e
