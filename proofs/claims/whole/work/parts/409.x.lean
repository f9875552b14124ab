/-! the methods, decompiled: written by dec.py -/
theorem wk_RX7_58 : Cond.constant RX7 58 (Int32.ofInt 4194304) ∈ BW := bw_of 1551 (by decide +kernel) rfl
theorem wk_RX7_59 : Cond.constant RX7 59 (Int32.ofInt 12582912) ∈ BW := bw_of 1552 (by decide +kernel) rfl
abbrev MX7_testLamps : MI := (RX7, cX7_testLamps, 8, (some .int), 3, none, "testLamps")
noncomputable def X7_testLamps_L180 (F : Nat)  (rc71 : Nat → Int → Int → Int → Int → HP → Option (Int × HP)) (l0 : Nat) (l1 : Int) (l2 : Int) (l4 : Int) (l5 : Int)  (h : HP) : Option (Int × HP) :=
  rc71 l0 l1 l2 l4 (w32 (l5 + 1)) h
set_option maxRecDepth 100000 in
theorem SX7_testLamps_L180 {K : Ctx} {F : Nat} {r : Int} {hf : HP}   (rc71 : Nat → Int → Int → Int → Int → HP → Option (Int × HP)) (hrc71 : ∀ l0 l1 l2 l4 l5 h, rc71 l0 l1 l2 l4 l5 h = some (r, hf) → Go K MX7_testLamps (QM K (some (vi r)) hf) hf 71 [(0, vr (some l0)), (1, vi l1), (2, vi l2), (4, vi l4), (5, vi l5)] [] h) (l0 : Nat) (l1 : Int) (l2 : Int) (l4 : Int) (l5 : Int)  (h : HP) (E : X7_testLamps_L180 F  rc71 l0 l1 l2 l4 l5 h = some (r, hf)) : Go K MX7_testLamps (QM K (some (vi r)) hf) hf 180 [(0, vr (some l0)), (1, vi l1), (2, vi l2), (4, vi l4), (5, vi l5)] [] h := by
  unfold X7_testLamps_L180 at E
  refine go_iinc (j := 4) (n := 183) (lv' := [(5, vi (w32 (l5 + 1))), (0, vr (some l0)), (1, vi l1), (2, vi l2), (4, vi l4)]) rfl dX7_testLamps_180 rfl (Nat.le_of_ble_eq_true rfl) rfl ?_
  refine go_goto (tgt := 71) dX7_testLamps_183 rfl ?_
  refine go_pick (lv' := [(0, vr (some l0)), (1, vi l1), (2, vi l2), (4, vi l4), (5, vi (w32 (l5 + 1)))]) [1, 2, 3, 4, 0] rfl ?_
  exact hrc71 _ _ _ _ _ _ E
noncomputable def X7_testLamps_L178 (F : Nat)  (rc71 : Nat → Int → Int → Int → Int → HP → Option (Int × HP)) (l0 : Nat) (l1 : Int) (l2 : Int) (l4 : Int) (l5 : Int) (s0 : Int) (s1 : Int) (s2 : Int) (s3 : Option Nat) (h : HP) : Option (Int × HP) :=
  (xsI h s3 s2 (xor_ s1 s0)).bind fun h1 =>
  X7_testLamps_L180 F rc71 l0 l1 l2 l4 l5 h1
set_option maxRecDepth 100000 in
theorem SX7_testLamps_L178 {K : Ctx} {F : Nat} {r : Int} {hf : HP}   (rc71 : Nat → Int → Int → Int → Int → HP → Option (Int × HP)) (hrc71 : ∀ l0 l1 l2 l4 l5 h, rc71 l0 l1 l2 l4 l5 h = some (r, hf) → Go K MX7_testLamps (QM K (some (vi r)) hf) hf 71 [(0, vr (some l0)), (1, vi l1), (2, vi l2), (4, vi l4), (5, vi l5)] [] h) (l0 : Nat) (l1 : Int) (l2 : Int) (l4 : Int) (l5 : Int) (s0 : Int) (s1 : Int) (s2 : Int) (s3 : Option Nat) (h : HP) (E : X7_testLamps_L178 F  rc71 l0 l1 l2 l4 l5 s0 s1 s2 s3 h = some (r, hf)) : Go K MX7_testLamps (QM K (some (vi r)) hf) hf 178 [(0, vr (some l0)), (1, vi l1), (2, vi l2), (4, vi l4), (5, vi l5)] [vi s0, vi s1, vi s2, vr s3] h := by
  unfold X7_testLamps_L178 at E
  refine go_ior (n := 179) dX7_testLamps_178 rfl ?_
  replace E := Option.bind_eq_some_iff.mp E; obtain ⟨h1, eh1, E⟩ := E
  refine go_iastore (n := 180) eh1 dX7_testLamps_179 rfl ?_
  exact SX7_testLamps_L180   _ hrc71 _ _ _ _ _  _ E
noncomputable def X7_testLamps_L134 (F : Nat)  (rc71 : Nat → Int → Int → Int → Int → HP → Option (Int × HP)) (l0 : Nat) (l1 : Int) (l2 : Int) (l4 : Int) (l5 : Int) (l6 : Int) (s0 : Int) (h : HP) : Option (Int × HP) :=
  if s0 = 0 then
    X7_testLamps_L180 F rc71 l0 l1 l2 l4 l5 h
  else
    if l6 < l1 then
      X7_testLamps_L180 F rc71 l0 l1 l2 l4 l5 h
    else
      if l2 < l6 then
        X7_testLamps_L180 F rc71 l0 l1 l2 l4 l5 h
      else
        (xgP h (some l0) 7 10 6).bind fun v4 =>
        (xaI h v4 100 l5).bind fun v5 =>
        X7_testLamps_L178 F rc71 l0 l1 l2 l4 l5 (if (xand (xush l4 l6) 1) = 0 then 4194304 else 12582912) v5 l5 v4 h
set_option maxRecDepth 100000 in
theorem SX7_testLamps_L134 {K : Ctx} {F : Nat} {r : Int} {hf : HP}   (rc71 : Nat → Int → Int → Int → Int → HP → Option (Int × HP)) (hrc71 : ∀ l0 l1 l2 l4 l5 h, rc71 l0 l1 l2 l4 l5 h = some (r, hf) → Go K MX7_testLamps (QM K (some (vi r)) hf) hf 71 [(0, vr (some l0)), (1, vi l1), (2, vi l2), (4, vi l4), (5, vi l5)] [] h) (l0 : Nat) (l1 : Int) (l2 : Int) (l4 : Int) (l5 : Int) (l6 : Int) (s0 : Int) (h : HP) (E : X7_testLamps_L134 F  rc71 l0 l1 l2 l4 l5 l6 s0 h = some (r, hf)) : Go K MX7_testLamps (QM K (some (vi r)) hf) hf 134 [(0, vr (some l0)), (1, vi l1), (2, vi l2), (4, vi l4), (5, vi l5), (6, vi l6)] [vi s0] h := by
  unfold X7_testLamps_L134 at E
  refine go_istore (n := 136) (lv' := [(7, vi s0), (0, vr (some l0)), (1, vi l1), (2, vi l2), (4, vi l4), (5, vi l5), (6, vi l6)]) dX7_testLamps_134 rfl (Nat.le_of_ble_eq_true rfl) rfl ?_
  refine go_iload (j := 0) (n := 138) rfl dX7_testLamps_136 rfl ?_
  refine go_if_eq (tgt := 180) (n := 141) dX7_testLamps_138 rfl rfl (fun c1 => ?_) (fun c1 => ?_)
  · rw [if_pos c1] at E
    refine go_pick (lv' := [(0, vr (some l0)), (1, vi l1), (2, vi l2), (4, vi l4), (5, vi l5)]) [1, 2, 3, 4, 5] rfl ?_
    exact SX7_testLamps_L180   _ hrc71 _ _ _ _ _  _ E
  · rw [if_neg c1] at E
    refine go_iload (j := 6) (n := 143) rfl dX7_testLamps_141 rfl ?_
    refine go_iload_n (j := 2) (n := 144) rfl rfl dX7_testLamps_143 rfl ?_
    refine go_icmp_lt (tgt := 180) (n := 147) dX7_testLamps_144 rfl rfl (fun c2 => ?_) (fun c2 => ?_)
    · rw [if_pos c2] at E
      refine go_pick (lv' := [(0, vr (some l0)), (1, vi l1), (2, vi l2), (4, vi l4), (5, vi l5)]) [1, 2, 3, 4, 5] rfl ?_
      exact SX7_testLamps_L180   _ hrc71 _ _ _ _ _  _ E
    · rw [if_neg c2] at E
      refine go_iload (j := 6) (n := 149) rfl dX7_testLamps_147 rfl ?_
      refine go_iload_n (j := 3) (n := 150) rfl rfl dX7_testLamps_149 rfl ?_
      refine go_icmp_gt (tgt := 180) (n := 153) dX7_testLamps_150 rfl rfl (fun c3 => ?_) (fun c3 => ?_)
      · rw [if_pos c3] at E
        refine go_pick (lv' := [(0, vr (some l0)), (1, vi l1), (2, vi l2), (4, vi l4), (5, vi l5)]) [1, 2, 3, 4, 5] rfl ?_
        exact SX7_testLamps_L180   _ hrc71 _ _ _ _ _  _ E
      · rw [if_neg c3] at E
        refine go_aload_n (j := 1) (n := 154) rfl rfl dX7_testLamps_153 rfl ?_
        replace E := Option.bind_eq_some_iff.mp E; obtain ⟨v4, ev4, E⟩ := E
        refine go_getP (n := 157) ev4 fl_RX7_30 rfl dX7_testLamps_154 rfl ?_
        refine go_iload (j := 5) (n := 159) rfl dX7_testLamps_157 rfl ?_
        refine go_dup2 (n := 160) rfl rfl dX7_testLamps_159 rfl ?_
        replace E := Option.bind_eq_some_iff.mp E; obtain ⟨v5, ev5, E⟩ := E
        refine go_iaload (n := 161) ev5 dX7_testLamps_160 rfl ?_
        refine go_iload (j := 4) (n := 163) rfl dX7_testLamps_161 rfl ?_
        refine go_iload (j := 6) (n := 165) rfl dX7_testLamps_163 rfl ?_
        refine go_iushr (n := 166) dX7_testLamps_165 rfl ?_
        refine go_iconst (z := 1) (n := 167) ⟨by decide, by decide⟩ dX7_testLamps_166 rfl ?_
        refine go_iand (n := 168) dX7_testLamps_167 rfl ?_
        refine go_if_eq (tgt := 176) (n := 171) dX7_testLamps_168 rfl rfl (fun c6 => ?_) (fun c6 => ?_)
        · simp only [if_pos c6] at E
          refine go_ldc (z := 4194304) (n := 178) ⟨by decide, by decide⟩ wk_RX7_58 dX7_testLamps_176 rfl ?_
          refine go_pick (lv' := [(0, vr (some l0)), (1, vi l1), (2, vi l2), (4, vi l4), (5, vi l5)]) [1, 2, 3, 4, 5] rfl ?_
          exact SX7_testLamps_L178   _ hrc71 _ _ _ _ _ _ _ _ _ _ E
        · simp only [if_neg c6] at E
          refine go_ldc (z := 12582912) (n := 173) ⟨by decide, by decide⟩ wk_RX7_59 dX7_testLamps_171 rfl ?_
          refine go_goto (tgt := 178) dX7_testLamps_173 rfl ?_
          refine go_pick (lv' := [(0, vr (some l0)), (1, vi l1), (2, vi l2), (4, vi l4), (5, vi l5)]) [1, 2, 3, 4, 5] rfl ?_
          exact SX7_testLamps_L178   _ hrc71 _ _ _ _ _ _ _ _ _ _ E
noncomputable def X7_testLamps_L133 (F : Nat)  (rc71 : Nat → Int → Int → Int → Int → HP → Option (Int × HP)) (l0 : Nat) (l1 : Int) (l2 : Int) (l4 : Int) (l5 : Int) (l6 : Int)  (h : HP) : Option (Int × HP) :=
  X7_testLamps_L134 F rc71 l0 l1 l2 l4 l5 l6 0 h
set_option maxRecDepth 100000 in
theorem SX7_testLamps_L133 {K : Ctx} {F : Nat} {r : Int} {hf : HP}   (rc71 : Nat → Int → Int → Int → Int → HP → Option (Int × HP)) (hrc71 : ∀ l0 l1 l2 l4 l5 h, rc71 l0 l1 l2 l4 l5 h = some (r, hf) → Go K MX7_testLamps (QM K (some (vi r)) hf) hf 71 [(0, vr (some l0)), (1, vi l1), (2, vi l2), (4, vi l4), (5, vi l5)] [] h) (l0 : Nat) (l1 : Int) (l2 : Int) (l4 : Int) (l5 : Int) (l6 : Int)  (h : HP) (E : X7_testLamps_L133 F  rc71 l0 l1 l2 l4 l5 l6 h = some (r, hf)) : Go K MX7_testLamps (QM K (some (vi r)) hf) hf 133 [(0, vr (some l0)), (1, vi l1), (2, vi l2), (4, vi l4), (5, vi l5), (6, vi l6)] [] h := by
  unfold X7_testLamps_L133 at E
  refine go_iconst (z := 0) (n := 134) ⟨by decide, by decide⟩ dX7_testLamps_133 rfl ?_
  exact SX7_testLamps_L134   _ hrc71 _ _ _ _ _ _ _ _ E
noncomputable def X7_testLamps_L71 (F : Nat)   (k : Nat) : Nat → Int → Int → Int → Int → HP → Option (Int × HP) :=
  Nat.rec (motive := fun _ => Nat → Int → Int → Int → Int → HP → Option (Int × HP)) (fun _ _ _ _ _ _ => none) (fun _ rc71 l0 l1 l2 l4 l5 h =>
    (xgI h (some l0) 7 10 7).bind fun v1 =>
    if v1 ≤ l5 then
      some (l4, h)
    else
      if 5120 ≤ l5 then
        some (l4, h)
      else
        (xgP h (some l0) 7 10 6).bind fun v4 =>
        (xaI h v4 100 l5).bind fun v5 =>
        xb (X7_wordIn F v5 h) fun v6 h7 =>
        (xgP h7 (some l0) 7 10 6).bind fun v8 =>
        (xaI h7 v8 100 l5).bind fun v9 =>
        if (xand v9 524288) = 0 then
          X7_testLamps_L133 F rc71 l0 l1 l2 l4 l5 (v6.tmod 16) h7
        else
          (xgP h7 (some l0) 7 10 6).bind fun v11 =>
          (xaI h7 v11 100 l5).bind fun v12 =>
          if (xand v12 4194304) = 0 then
            X7_testLamps_L134 F rc71 l0 l1 l2 l4 l5 (v6.tmod 16) 1 h7
          else
            X7_testLamps_L133 F rc71 l0 l1 l2 l4 l5 (v6.tmod 16) h7) k
theorem X7_testLamps_L71_s (F : Nat)   (k : Nat) (l0 : Nat) (l1 : Int) (l2 : Int) (l4 : Int) (l5 : Int)  (h : HP) : X7_testLamps_L71 F   (k + 1) l0 l1 l2 l4 l5 h =
    (xgI h (some l0) 7 10 7).bind fun v1 =>
    if v1 ≤ l5 then
      some (l4, h)
    else
      if 5120 ≤ l5 then
        some (l4, h)
      else
        (xgP h (some l0) 7 10 6).bind fun v4 =>
        (xaI h v4 100 l5).bind fun v5 =>
        xb (X7_wordIn F v5 h) fun v6 h7 =>
        (xgP h7 (some l0) 7 10 6).bind fun v8 =>
        (xaI h7 v8 100 l5).bind fun v9 =>
        if (xand v9 524288) = 0 then
          X7_testLamps_L133 F (X7_testLamps_L71 F k) l0 l1 l2 l4 l5 (v6.tmod 16) h7
        else
          (xgP h7 (some l0) 7 10 6).bind fun v11 =>
          (xaI h7 v11 100 l5).bind fun v12 =>
          if (xand v12 4194304) = 0 then
            X7_testLamps_L134 F (X7_testLamps_L71 F k) l0 l1 l2 l4 l5 (v6.tmod 16) 1 h7
          else
            X7_testLamps_L133 F (X7_testLamps_L71 F k) l0 l1 l2 l4 l5 (v6.tmod 16) h7 := rfl
set_option maxRecDepth 100000 in
theorem SX7_testLamps_L71 {K : Ctx} {F : Nat} {r : Int} {hf : HP}     : ∀ (k : Nat) (l0 : Nat) (l1 : Int) (l2 : Int) (l4 : Int) (l5 : Int)  (h : HP), X7_testLamps_L71 F   k l0 l1 l2 l4 l5 h = some (r, hf) → Go K MX7_testLamps (QM K (some (vi r)) hf) hf 71 [(0, vr (some l0)), (1, vi l1), (2, vi l2), (4, vi l4), (5, vi l5)] [] h := by
  intro k
  induction k with
  | zero => intro l0 l1 l2 l4 l5 h E; exact nomatch E
  | succ k hrc71 =>
    intro l0 l1 l2 l4 l5 h E
    rw [X7_testLamps_L71_s] at E
    refine go_iload (j := 4) (n := 73) rfl dX7_testLamps_71 rfl ?_
    refine go_aload_n (j := 0) (n := 74) rfl rfl dX7_testLamps_73 rfl ?_
    replace E := Option.bind_eq_some_iff.mp E; obtain ⟨v1, ev1, E⟩ := E
    refine go_getI (n := 77) ev1 fl_RX7_48 rfl dX7_testLamps_74 rfl ?_
    refine go_icmp_ge (tgt := 186) (n := 80) dX7_testLamps_77 rfl rfl (fun c2 => ?_) (fun c2 => ?_)
    · rw [if_pos c2] at E
      refine go_iload (j := 3) (n := 188) rfl dX7_testLamps_186 rfl ?_
      cases E
      exact go_ireturn rfl dX7_testLamps_188
    · rw [if_neg c2] at E
      refine go_iload (j := 4) (n := 82) rfl dX7_testLamps_80 rfl ?_
      refine go_sipush (z := 5120) (n := 85) ⟨by decide, by decide⟩ dX7_testLamps_82 rfl ?_
      refine go_icmp_ge (tgt := 186) (n := 88) dX7_testLamps_85 rfl rfl (fun c3 => ?_) (fun c3 => ?_)
      · rw [if_pos c3] at E
        refine go_iload (j := 3) (n := 188) rfl dX7_testLamps_186 rfl ?_
        cases E
        exact go_ireturn rfl dX7_testLamps_188
      · rw [if_neg c3] at E
        refine go_aload_n (j := 0) (n := 89) rfl rfl dX7_testLamps_88 rfl ?_
        replace E := Option.bind_eq_some_iff.mp E; obtain ⟨v4, ev4, E⟩ := E
        refine go_getP (n := 92) ev4 fl_RX7_30 rfl dX7_testLamps_89 rfl ?_
        refine go_iload (j := 4) (n := 94) rfl dX7_testLamps_92 rfl ?_
        replace E := Option.bind_eq_some_iff.mp E; obtain ⟨v5, ev5, E⟩ := E
        refine go_iaload (n := 95) ev5 dX7_testLamps_94 rfl ?_
        replace E := xb_some E; obtain ⟨v6, h7, ev6, E⟩ := E
        refine go_callS (y := yX7_wordIn) (n := 98) (st := []) (as := [vi v5]) (stk9 := [vi v6]) (OX7_wordIn ev6) yw_X7_wordIn wml_RX7_55 wst_X7_wordIn (Nat.le_of_ble_eq_true rfl) rfl ⟨Nat.le_of_ble_eq_true rfl, Nat.le_of_ble_eq_true rfl⟩ (Nat.le_of_ble_eq_true rfl) dX7_testLamps_95 rfl rfl rfl ?_
        refine go_bipush (z := 16) (n := 100) ⟨by decide, by decide⟩ dX7_testLamps_98 rfl ?_
        refine go_irem (n := 101) (by decide) dX7_testLamps_100 rfl ?_
        refine go_istore (n := 103) (lv' := [(6, vi (v6.tmod 16)), (0, vr (some l0)), (1, vi l1), (2, vi l2), (4, vi l4), (5, vi l5)]) dX7_testLamps_101 rfl (Nat.le_of_ble_eq_true rfl) rfl ?_
        refine go_aload_n (j := 1) (n := 104) rfl rfl dX7_testLamps_103 rfl ?_
        replace E := Option.bind_eq_some_iff.mp E; obtain ⟨v8, ev8, E⟩ := E
        refine go_getP (n := 107) ev8 fl_RX7_30 rfl dX7_testLamps_104 rfl ?_
        refine go_iload (j := 5) (n := 109) rfl dX7_testLamps_107 rfl ?_
        replace E := Option.bind_eq_some_iff.mp E; obtain ⟨v9, ev9, E⟩ := E
        refine go_iaload (n := 110) ev9 dX7_testLamps_109 rfl ?_
        refine go_ldc (z := 524288) (n := 112) ⟨by decide, by decide⟩ wk_RX7_34 dX7_testLamps_110 rfl ?_
        refine go_iand (n := 113) dX7_testLamps_112 rfl ?_
        refine go_if_eq (tgt := 133) (n := 116) dX7_testLamps_113 rfl rfl (fun c10 => ?_) (fun c10 => ?_)
        · rw [if_pos c10] at E
          refine go_pick (lv' := [(0, vr (some l0)), (1, vi l1), (2, vi l2), (4, vi l4), (5, vi l5), (6, vi (v6.tmod 16))]) [1, 2, 3, 4, 5, 0] rfl ?_
          exact SX7_testLamps_L133   _ hrc71 _ _ _ _ _ _  _ E
        · rw [if_neg c10] at E
          refine go_aload_n (j := 1) (n := 117) rfl rfl dX7_testLamps_116 rfl ?_
          replace E := Option.bind_eq_some_iff.mp E; obtain ⟨v11, ev11, E⟩ := E
          refine go_getP (n := 120) ev11 fl_RX7_30 rfl dX7_testLamps_117 rfl ?_
          refine go_iload (j := 5) (n := 122) rfl dX7_testLamps_120 rfl ?_
          replace E := Option.bind_eq_some_iff.mp E; obtain ⟨v12, ev12, E⟩ := E
          refine go_iaload (n := 123) ev12 dX7_testLamps_122 rfl ?_
          refine go_ldc (z := 4194304) (n := 125) ⟨by decide, by decide⟩ wk_RX7_58 dX7_testLamps_123 rfl ?_
          refine go_iand (n := 126) dX7_testLamps_125 rfl ?_
          refine go_if_ne (tgt := 133) (n := 129) dX7_testLamps_126 rfl rfl (fun c13 => ?_) (fun c13 => ?_)
          · rw [if_neg c13] at E
            refine go_pick (lv' := [(0, vr (some l0)), (1, vi l1), (2, vi l2), (4, vi l4), (5, vi l5), (6, vi (v6.tmod 16))]) [1, 2, 3, 4, 5, 0] rfl ?_
            exact SX7_testLamps_L133   _ hrc71 _ _ _ _ _ _  _ E
          · rw [if_pos c13] at E
            refine go_iconst (z := 1) (n := 130) ⟨by decide, by decide⟩ dX7_testLamps_129 rfl ?_
            refine go_goto (tgt := 134) dX7_testLamps_130 rfl ?_
            refine go_pick (lv' := [(0, vr (some l0)), (1, vi l1), (2, vi l2), (4, vi l4), (5, vi l5), (6, vi (v6.tmod 16))]) [1, 2, 3, 4, 5, 0] rfl ?_
            exact SX7_testLamps_L134   _ hrc71 _ _ _ _ _ _ _ _ E
noncomputable def X7_testLamps_L62 (F : Nat)  (rc6 : Nat → Int → Int → Int → Int → Int → HP → Option (Int × HP)) (l0 : Nat) (l1 : Int) (l2 : Int) (l3 : Int) (l4 : Int) (l5 : Int)  (h : HP) : Option (Int × HP) :=
  rc6 l0 l1 l2 l3 l4 (w32 (l5 + 1)) h
set_option maxRecDepth 100000 in
theorem SX7_testLamps_L62 {K : Ctx} {F : Nat} {r : Int} {hf : HP}   (rc6 : Nat → Int → Int → Int → Int → Int → HP → Option (Int × HP)) (hrc6 : ∀ l0 l1 l2 l3 l4 l5 h, rc6 l0 l1 l2 l3 l4 l5 h = some (r, hf) → Go K MX7_testLamps (QM K (some (vi r)) hf) hf 6 [(0, vr (some l0)), (1, vi l1), (2, vi l2), (3, vi l3), (4, vi l4), (5, vi l5)] [] h) (l0 : Nat) (l1 : Int) (l2 : Int) (l3 : Int) (l4 : Int) (l5 : Int)  (h : HP) (E : X7_testLamps_L62 F  rc6 l0 l1 l2 l3 l4 l5 h = some (r, hf)) : Go K MX7_testLamps (QM K (some (vi r)) hf) hf 62 [(0, vr (some l0)), (1, vi l1), (2, vi l2), (3, vi l3), (4, vi l4), (5, vi l5)] [] h := by
  unfold X7_testLamps_L62 at E
  refine go_iinc (j := 5) (n := 65) (lv' := [(5, vi (w32 (l5 + 1))), (0, vr (some l0)), (1, vi l1), (2, vi l2), (3, vi l3), (4, vi l4)]) rfl dX7_testLamps_62 rfl (Nat.le_of_ble_eq_true rfl) rfl ?_
  refine go_goto (tgt := 6) dX7_testLamps_65 rfl ?_
  refine go_pick (lv' := [(0, vr (some l0)), (1, vi l1), (2, vi l2), (3, vi l3), (4, vi l4), (5, vi (w32 (l5 + 1)))]) [1, 2, 3, 4, 5, 0] rfl ?_
  exact hrc6 _ _ _ _ _ _ _ E
noncomputable def X7_testLamps_L6 (F : Nat)   (k : Nat) : Nat → Int → Int → Int → Int → Int → HP → Option (Int × HP) :=
  Nat.rec (motive := fun _ => Nat → Int → Int → Int → Int → Int → HP → Option (Int × HP)) (fun _ _ _ _ _ _ _ => none) (fun _ rc6 l0 l1 l2 l3 l4 l5 h =>
    if 16 ≤ l5 then
      X7_testLamps_L71 F F l0 l1 l2 l4 0 h
    else
      if l5 < l1 then
        X7_testLamps_L62 F rc6 l0 l1 l2 l3 l4 l5 h
      else
        if l2 < l5 then
          X7_testLamps_L62 F rc6 l0 l1 l2 l3 l4 l5 h
        else
          (xrc h (some l0) 7 10).bind fun a6 =>
          xb (X7_hasFailed F a6 l5 l3 h) fun v4 h5 =>
          if v4 = 0 then
            X7_testLamps_L62 F rc6 l0 l1 l2 l3 l4 l5 h5
          else
            (xgP h5 (some l0) 7 10 3).bind fun v8 =>
            (xsI h5 v8 l5 0).bind fun h9 =>
            (xgI h9 (some l0) 7 10 8).bind fun v10 =>
            (xpI h9 (some l0) 7 10 8 (w32 (v10 + 1))).bind fun h11 =>
            X7_testLamps_L62 F rc6 l0 l1 l2 l3 (xor_ l4 (xshl 1 l5)) l5 h11) k
theorem X7_testLamps_L6_s (F : Nat)   (k : Nat) (l0 : Nat) (l1 : Int) (l2 : Int) (l3 : Int) (l4 : Int) (l5 : Int)  (h : HP) : X7_testLamps_L6 F   (k + 1) l0 l1 l2 l3 l4 l5 h =
    if 16 ≤ l5 then
      X7_testLamps_L71 F F l0 l1 l2 l4 0 h
    else
      if l5 < l1 then
        X7_testLamps_L62 F (X7_testLamps_L6 F k) l0 l1 l2 l3 l4 l5 h
      else
        if l2 < l5 then
          X7_testLamps_L62 F (X7_testLamps_L6 F k) l0 l1 l2 l3 l4 l5 h
        else
          (xrc h (some l0) 7 10).bind fun a6 =>
          xb (X7_hasFailed F a6 l5 l3 h) fun v4 h5 =>
          if v4 = 0 then
            X7_testLamps_L62 F (X7_testLamps_L6 F k) l0 l1 l2 l3 l4 l5 h5
          else
            (xgP h5 (some l0) 7 10 3).bind fun v8 =>
            (xsI h5 v8 l5 0).bind fun h9 =>
            (xgI h9 (some l0) 7 10 8).bind fun v10 =>
            (xpI h9 (some l0) 7 10 8 (w32 (v10 + 1))).bind fun h11 =>
            X7_testLamps_L62 F (X7_testLamps_L6 F k) l0 l1 l2 l3 (xor_ l4 (xshl 1 l5)) l5 h11 := rfl
set_option maxRecDepth 100000 in
theorem SX7_testLamps_L6 {K : Ctx} {F : Nat} {r : Int} {hf : HP}     : ∀ (k : Nat) (l0 : Nat) (l1 : Int) (l2 : Int) (l3 : Int) (l4 : Int) (l5 : Int)  (h : HP), X7_testLamps_L6 F   k l0 l1 l2 l3 l4 l5 h = some (r, hf) → Go K MX7_testLamps (QM K (some (vi r)) hf) hf 6 [(0, vr (some l0)), (1, vi l1), (2, vi l2), (3, vi l3), (4, vi l4), (5, vi l5)] [] h := by
  intro k
  induction k with
  | zero => intro l0 l1 l2 l3 l4 l5 h E; exact nomatch E
  | succ k hrc6 =>
    intro l0 l1 l2 l3 l4 l5 h E
    rw [X7_testLamps_L6_s] at E
    refine go_iload (j := 5) (n := 8) rfl dX7_testLamps_6 rfl ?_
    refine go_bipush (z := 16) (n := 10) ⟨by decide, by decide⟩ dX7_testLamps_8 rfl ?_
    refine go_icmp_ge (tgt := 68) (n := 13) dX7_testLamps_10 rfl rfl (fun c1 => ?_) (fun c1 => ?_)
    · rw [if_pos c1] at E
      refine go_iconst (z := 0) (n := 69) ⟨by decide, by decide⟩ dX7_testLamps_68 rfl ?_
      refine go_istore (n := 71) (lv' := [(5, vi 0), (0, vr (some l0)), (1, vi l1), (2, vi l2), (3, vi l3), (4, vi l4)]) dX7_testLamps_69 rfl (Nat.le_of_ble_eq_true rfl) rfl ?_
      refine go_pick (lv' := [(0, vr (some l0)), (1, vi l1), (2, vi l2), (4, vi l4), (5, vi 0)]) [1, 2, 3, 5, 0] rfl ?_
      exact SX7_testLamps_L71     F _ _ _ _ _ _ E
    · rw [if_neg c1] at E
      refine go_iload (j := 5) (n := 15) rfl dX7_testLamps_13 rfl ?_
      refine go_iload_n (j := 1) (n := 16) rfl rfl dX7_testLamps_15 rfl ?_
      refine go_icmp_lt (tgt := 62) (n := 19) dX7_testLamps_16 rfl rfl (fun c2 => ?_) (fun c2 => ?_)
      · rw [if_pos c2] at E
        exact SX7_testLamps_L62   _ hrc6 _ _ _ _ _ _  _ E
      · rw [if_neg c2] at E
        refine go_iload (j := 5) (n := 21) rfl dX7_testLamps_19 rfl ?_
        refine go_iload_n (j := 2) (n := 22) rfl rfl dX7_testLamps_21 rfl ?_
        refine go_icmp_gt (tgt := 62) (n := 25) dX7_testLamps_22 rfl rfl (fun c3 => ?_) (fun c3 => ?_)
        · rw [if_pos c3] at E
          exact SX7_testLamps_L62   _ hrc6 _ _ _ _ _ _  _ E
        · rw [if_neg c3] at E
          refine go_aload_n (j := 0) (n := 26) rfl rfl dX7_testLamps_25 rfl ?_
          refine go_iload (j := 5) (n := 28) rfl dX7_testLamps_26 rfl ?_
          refine go_iload_n (j := 3) (n := 29) rfl rfl dX7_testLamps_28 rfl ?_
          replace E := Option.bind_eq_some_iff.mp E; obtain ⟨a6, ea6, E⟩ := E
          obtain ⟨fa6, ga6⟩ := xrc_some ea6
          replace E := xb_some E; obtain ⟨v4, h5, ev4, E⟩ := E
          refine go_callV (y := yX7_hasFailed) (n := 32) (st := []) (as := [vi l5, vi l3]) (stk9 := [vi v4]) (OX7_hasFailed ev4) yw_X7_hasFailed ci_7 ga6 wml_RX7_44 wim_X7_hasFailed wse_X7_hasFailed (Nat.le_of_ble_eq_true rfl) rfl ⟨Nat.le_of_ble_eq_true rfl, Nat.le_of_ble_eq_true rfl⟩ (Nat.le_of_ble_eq_true rfl) dX7_testLamps_29 rfl (by cases fa6; rfl) rfl ?_
          refine go_if_eq (tgt := 62) (n := 35) dX7_testLamps_32 rfl rfl (fun c7 => ?_) (fun c7 => ?_)
          · rw [if_pos c7] at E
            exact SX7_testLamps_L62   _ hrc6 _ _ _ _ _ _  _ E
          · rw [if_neg c7] at E
            refine go_iload (j := 4) (n := 37) rfl dX7_testLamps_35 rfl ?_
            refine go_iconst (z := 1) (n := 38) ⟨by decide, by decide⟩ dX7_testLamps_37 rfl ?_
            refine go_iload (j := 5) (n := 40) rfl dX7_testLamps_38 rfl ?_
            refine go_ishl (n := 41) dX7_testLamps_40 rfl ?_
            refine go_ior (n := 42) dX7_testLamps_41 rfl ?_
            refine go_istore (n := 44) (lv' := [(4, vi (xor_ l4 (xshl 1 l5))), (0, vr (some l0)), (1, vi l1), (2, vi l2), (3, vi l3), (5, vi l5)]) dX7_testLamps_42 rfl (Nat.le_of_ble_eq_true rfl) rfl ?_
            refine go_aload_n (j := 1) (n := 45) rfl rfl dX7_testLamps_44 rfl ?_
            replace E := Option.bind_eq_some_iff.mp E; obtain ⟨v8, ev8, E⟩ := E
            refine go_getP (n := 48) ev8 fl_RX7_21 rfl dX7_testLamps_45 rfl ?_
            refine go_iload (j := 5) (n := 50) rfl dX7_testLamps_48 rfl ?_
            refine go_iconst (z := 0) (n := 51) ⟨by decide, by decide⟩ dX7_testLamps_50 rfl ?_
            replace E := Option.bind_eq_some_iff.mp E; obtain ⟨h9, eh9, E⟩ := E
            refine go_iastore (n := 52) eh9 dX7_testLamps_51 rfl ?_
            refine go_aload_n (j := 1) (n := 53) rfl rfl dX7_testLamps_52 rfl ?_
            refine go_dup (n := 54) rfl dX7_testLamps_53 rfl ?_
            replace E := Option.bind_eq_some_iff.mp E; obtain ⟨v10, ev10, E⟩ := E
            refine go_getI (n := 57) ev10 fl_RX7_52 rfl dX7_testLamps_54 rfl ?_
            refine go_iconst (z := 1) (n := 58) ⟨by decide, by decide⟩ dX7_testLamps_57 rfl ?_
            refine go_iadd (n := 59) dX7_testLamps_58 rfl ?_
            replace E := Option.bind_eq_some_iff.mp E; obtain ⟨h11, eh11, E⟩ := E
            refine go_putI (n := 62) eh11 fl_RX7_52 rfl dX7_testLamps_59 rfl ?_
            refine go_pick (lv' := [(0, vr (some l0)), (1, vi l1), (2, vi l2), (3, vi l3), (4, vi (xor_ l4 (xshl 1 l5))), (5, vi l5)]) [1, 2, 3, 4, 0, 5] rfl ?_
            exact SX7_testLamps_L62   _ hrc6 _ _ _ _ _ _  _ E
noncomputable def X7_testLamps (F : Nat)   (l0 : Nat) (l1 : Int) (l2 : Int) (l3 : Int)  (h : HP) : Option (Int × HP) :=
  X7_testLamps_L6 F F l0 l1 l2 l3 0 0 h
set_option maxRecDepth 100000 in
theorem SX7_testLamps {K : Ctx} {F : Nat} {r : Int} {hf : HP}     (l0 : Nat) (l1 : Int) (l2 : Int) (l3 : Int)  (h : HP) (E : X7_testLamps F   l0 l1 l2 l3 h = some (r, hf)) : Go K MX7_testLamps (QM K (some (vi r)) hf) hf 0 [(0, vr (some l0)), (1, vi l1), (2, vi l2), (3, vi l3)] [] h := by
  unfold X7_testLamps at E
  refine go_iconst (z := 0) (n := 1) ⟨by decide, by decide⟩ dX7_testLamps_0 rfl ?_
  refine go_istore (n := 3) (lv' := [(4, vi 0), (0, vr (some l0)), (1, vi l1), (2, vi l2), (3, vi l3)]) dX7_testLamps_1 rfl (Nat.le_of_ble_eq_true rfl) rfl ?_
  refine go_iconst (z := 0) (n := 4) ⟨by decide, by decide⟩ dX7_testLamps_3 rfl ?_
  refine go_istore (n := 6) (lv' := [(5, vi 0), (4, vi 0), (0, vr (some l0)), (1, vi l1), (2, vi l2), (3, vi l3)]) dX7_testLamps_4 rfl (Nat.le_of_ble_eq_true rfl) rfl ?_
  refine go_pick (lv' := [(0, vr (some l0)), (1, vi l1), (2, vi l2), (3, vi l3), (4, vi 0), (5, vi 0)]) [2, 3, 4, 5, 1, 0] rfl ?_
  exact SX7_testLamps_L6     F _ _ _ _ _ _ _ E
theorem OX7_testLamps {F : Nat} {l0 : Nat} {l1 : Int} {l2 : Int} {l3 : Int} {h hf : HP} {r : Int} (e : X7_testLamps F l0 l1 l2 l3 h = some (r, hf)) : Ok MX7_testLamps [vr (some l0), vi l1, vi l2, vi l3] (some (vi r)) h hf := fun K _ _ _ => SX7_testLamps l0 l1 l2 l3 h e
theorem yw_X7_testLamps : YW yX7_testLamps cX7_testLamps 8 (some .int) 3 := ⟨bw_of 1550 (by decide +kernel) rfl, bw_of 121 (by decide +kernel) rfl, ⟨by decide +kernel, by decide +kernel, by decide +kernel⟩, by decide +kernel⟩
theorem wml_RX11_199 : Cond.methodLink RX11 199 yX7_testLamps ∈ BW := bw_of 1547 (by decide +kernel) rfl
theorem wim_X7_testLamps : Cond.instanceMethod yX7_testLamps ∈ BW := bw_of 1548 (by decide +kernel) rfl
theorem wse_X7_testLamps : Cond.selects RX7 yX7_testLamps yX7_testLamps ∈ BW := bw_of 1549 (by decide +kernel) rfl
abbrev MX11_test : MI := (RX11, cX11_test, 3, (some .int), 13, some [], "test")
noncomputable def X11_test (F : Nat)   (l0 : Nat) (l1 : Int) (l2 : Int)  (h : HP) : Option ((String ⊕ Int) × HP) :=
  xth (X11_needPlace F l1 16 h) fun v1 h2 =>
  xth (X11_needPlace F l2 16 h2) fun v3 h4 =>
  xth (X11_needNumber F l2 l1 15 h4) fun v5 h6 =>
  (xgP h6 (some l0) 11 6 2).bind fun v7 =>
  (xgP h6 v7 4 12 1).bind fun v8 =>
  (xgP h6 (some l0) 11 6 2).bind fun v9 =>
  (xgI h6 v9 4 12 6).bind fun v10 =>
  (xrc h6 v8 7 10).bind fun a13 =>
  xb (X7_testLamps F a13 l1 l2 v10 h6) fun v11 h12 =>
  some (.inr v11, h12)
set_option maxRecDepth 100000 in
theorem SX11_test {K : Ctx} {F : Nat} {r : String ⊕ Int} {hf : HP}     (l0 : Nat) (l1 : Int) (l2 : Int)  (h : HP) (E : X11_test F   l0 l1 l2 h = some (r, hf)) : Go K MX11_test (QMX K (rI r) hf) hf 0 [(0, vr (some l0)), (1, vi l1), (2, vi l2)] [] h := by
  unfold X11_test at E
  refine go_iload_n (j := 1) (n := 1) rfl rfl dX11_test_0 rfl ?_
  refine go_bipush (z := 16) (n := 3) ⟨by decide, by decide⟩ dX11_test_1 rfl ?_
  replace E := xth_some E; rcases E with ⟨x16, ev1, rfl⟩ | ⟨v1, h2, ev1, E⟩
  · exact go_callXSt (y := yX11_needPlace) (as := [vi l1, vi 16]) (st := []) (OXX11_needPlace ev1) yw_X11_needPlace wml_RX11_54 wst_X11_needPlace (Nat.le_of_ble_eq_true rfl) rfl ⟨Nat.le_of_ble_eq_true rfl, Nat.le_of_ble_eq_true rfl⟩ (Nat.le_of_ble_eq_true rfl) dX11_test_3 rfl rfl
  refine go_callXSr (y := yX11_needPlace) (n := 6) (st := []) (as := [vi l1, vi 16]) (stk9 := []) (OXX11_needPlace ev1) yw_X11_needPlace wml_RX11_54 wst_X11_needPlace (Nat.le_of_ble_eq_true rfl) rfl ⟨Nat.le_of_ble_eq_true rfl, Nat.le_of_ble_eq_true rfl⟩ (Nat.le_of_ble_eq_true rfl) dX11_test_3 rfl rfl rfl ?_
  refine go_iload_n (j := 2) (n := 7) rfl rfl dX11_test_6 rfl ?_
  refine go_bipush (z := 16) (n := 9) ⟨by decide, by decide⟩ dX11_test_7 rfl ?_
  replace E := xth_some E; rcases E with ⟨x15, ev3, rfl⟩ | ⟨v3, h4, ev3, E⟩
  · exact go_callXSt (y := yX11_needPlace) (as := [vi l2, vi 16]) (st := []) (OXX11_needPlace ev3) yw_X11_needPlace wml_RX11_54 wst_X11_needPlace (Nat.le_of_ble_eq_true rfl) rfl ⟨Nat.le_of_ble_eq_true rfl, Nat.le_of_ble_eq_true rfl⟩ (Nat.le_of_ble_eq_true rfl) dX11_test_9 rfl rfl
  refine go_callXSr (y := yX11_needPlace) (n := 12) (st := []) (as := [vi l2, vi 16]) (stk9 := []) (OXX11_needPlace ev3) yw_X11_needPlace wml_RX11_54 wst_X11_needPlace (Nat.le_of_ble_eq_true rfl) rfl ⟨Nat.le_of_ble_eq_true rfl, Nat.le_of_ble_eq_true rfl⟩ (Nat.le_of_ble_eq_true rfl) dX11_test_9 rfl rfl rfl ?_
  refine go_iload_n (j := 2) (n := 13) rfl rfl dX11_test_12 rfl ?_
  refine go_iload_n (j := 1) (n := 14) rfl rfl dX11_test_13 rfl ?_
  refine go_bipush (z := 15) (n := 16) ⟨by decide, by decide⟩ dX11_test_14 rfl ?_
  replace E := xth_some E; rcases E with ⟨x14, ev5, rfl⟩ | ⟨v5, h6, ev5, E⟩
  · exact go_callXSt (y := yX11_needNumber) (as := [vi l2, vi l1, vi 15]) (st := []) (OXX11_needNumber ev5) yw_X11_needNumber wml_RX11_44 wst_X11_needNumber (Nat.le_of_ble_eq_true rfl) rfl ⟨Nat.le_of_ble_eq_true rfl, Nat.le_of_ble_eq_true rfl⟩ (Nat.le_of_ble_eq_true rfl) dX11_test_16 rfl rfl
  refine go_callXSr (y := yX11_needNumber) (n := 19) (st := []) (as := [vi l2, vi l1, vi 15]) (stk9 := []) (OXX11_needNumber ev5) yw_X11_needNumber wml_RX11_44 wst_X11_needNumber (Nat.le_of_ble_eq_true rfl) rfl ⟨Nat.le_of_ble_eq_true rfl, Nat.le_of_ble_eq_true rfl⟩ (Nat.le_of_ble_eq_true rfl) dX11_test_16 rfl rfl rfl ?_
  refine go_aload_n (j := 0) (n := 20) rfl rfl dX11_test_19 rfl ?_
  replace E := Option.bind_eq_some_iff.mp E; obtain ⟨v7, ev7, E⟩ := E
  refine go_getP (n := 23) ev7 fl_RX11_23 rfl dX11_test_20 rfl ?_
  replace E := Option.bind_eq_some_iff.mp E; obtain ⟨v8, ev8, E⟩ := E
  refine go_getP (n := 26) ev8 fl_RX11_60 rfl dX11_test_23 rfl ?_
  refine go_iload_n (j := 1) (n := 27) rfl rfl dX11_test_26 rfl ?_
  refine go_iload_n (j := 2) (n := 28) rfl rfl dX11_test_27 rfl ?_
  refine go_aload_n (j := 0) (n := 29) rfl rfl dX11_test_28 rfl ?_
  replace E := Option.bind_eq_some_iff.mp E; obtain ⟨v9, ev9, E⟩ := E
  refine go_getP (n := 32) ev9 fl_RX11_23 rfl dX11_test_29 rfl ?_
  replace E := Option.bind_eq_some_iff.mp E; obtain ⟨v10, ev10, E⟩ := E
  refine go_getI (n := 35) ev10 fl_RX11_178 rfl dX11_test_32 rfl ?_
  replace E := Option.bind_eq_some_iff.mp E; obtain ⟨a13, ea13, E⟩ := E
  obtain ⟨fa13, ga13⟩ := xrc_some ea13
  replace E := xb_some E; obtain ⟨v11, h12, ev11, E⟩ := E
  refine go_callV (y := yX7_testLamps) (n := 38) (st := []) (as := [vi l1, vi l2, vi v10]) (stk9 := [vi v11]) (OX7_testLamps ev11) yw_X7_testLamps ci_7 ga13 wml_RX11_199 wim_X7_testLamps wse_X7_testLamps (Nat.le_of_ble_eq_true rfl) rfl ⟨Nat.le_of_ble_eq_true rfl, Nat.le_of_ble_eq_true rfl⟩ (Nat.le_of_ble_eq_true rfl) dX11_test_35 rfl (by cases fa13; rfl) rfl ?_
  cases E
  exact go_ret (go_ireturn rfl dX11_test_38)
theorem OXX11_test {F : Nat} {l0 : Nat} {l1 : Int} {l2 : Int} {h hf : HP} {r : String ⊕ Int} (e : X11_test F l0 l1 l2 h = some (r, hf)) : OkX MX11_test [vr (some l0), vi l1, vi l2] (rI r) h hf := fun K _ _ _ => SX11_test l0 l1 l2 h e
theorem fl_RX3_86 : FL RX3 86 2 18 4 false := ⟨RX2, TX2, ci_2, by decide, bw_of 316 (by decide +kernel) rfl, rfl, rfl⟩
theorem wml_RX3_89 : Cond.methodLink RX3 89 yX3_beyondDoubt ∈ BW := bw_of 759 (by decide +kernel) rfl
abbrev MX3_wagesMayBePaid : MI := (RX3, cX3_wagesMayBePaid, 5, (some .boolean), 5, none, "wagesMayBePaid")
noncomputable def X3_wagesMayBePaid_L40 (F : Nat)  (rc5 : Nat → Int → Int → Int → HP → Option (Int × HP)) (l0 : Nat) (l1 : Int) (l3 : Int) (l4 : Int)  (h : HP) : Option (Int × HP) :=
  rc5 l0 l1 l3 (w32 (l4 + 1)) h
set_option maxRecDepth 100000 in
theorem SX3_wagesMayBePaid_L40 {K : Ctx} {F : Nat} {r : Int} {hf : HP}   (rc5 : Nat → Int → Int → Int → HP → Option (Int × HP)) (hrc5 : ∀ l0 l1 l3 l4 h, rc5 l0 l1 l3 l4 h = some (r, hf) → Go K MX3_wagesMayBePaid (QM K (some (vi r)) hf) hf 5 [(0, vr (some l0)), (1, vl l1), (3, vi l3), (4, vi l4)] [] h) (l0 : Nat) (l1 : Int) (l3 : Int) (l4 : Int)  (h : HP) (E : X3_wagesMayBePaid_L40 F  rc5 l0 l1 l3 l4 h = some (r, hf)) : Go K MX3_wagesMayBePaid (QM K (some (vi r)) hf) hf 40 [(0, vr (some l0)), (1, vl l1), (3, vi l3), (4, vi l4)] [] h := by
  unfold X3_wagesMayBePaid_L40 at E
  refine go_iinc (j := 3) (n := 43) (lv' := [(4, vi (w32 (l4 + 1))), (0, vr (some l0)), (1, vl l1), (3, vi l3)]) rfl dX3_wagesMayBePaid_40 rfl (Nat.le_of_ble_eq_true rfl) rfl ?_
  refine go_goto (tgt := 5) dX3_wagesMayBePaid_43 rfl ?_
  refine go_pick (lv' := [(0, vr (some l0)), (1, vl l1), (3, vi l3), (4, vi (w32 (l4 + 1)))]) [1, 2, 3, 0] rfl ?_
  exact hrc5 _ _ _ _ _ E
noncomputable def X3_wagesMayBePaid_L5 (F : Nat)   (k : Nat) : Nat → Int → Int → Int → HP → Option (Int × HP) :=
  Nat.rec (motive := fun _ => Nat → Int → Int → Int → HP → Option (Int × HP)) (fun _ _ _ _ _ => none) (fun _ rc5 l0 l1 l3 l4 h =>
    (xgI h (some l0) 3 7 5).bind fun v1 =>
    if v1 ≤ l4 then
      xz l3 h
    else
      (xrc h (some l0) 3 7).bind fun a6 =>
      xb (X3_at F a6 l4 h) fun v4 h5 =>
      (xgI h5 v4 2 18 4).bind fun v7 =>
      if v7 = 0 then
        X3_wagesMayBePaid_L40 F rc5 l0 l1 l3 l4 h5
      else
        (xrc h5 (some l0) 3 7).bind fun a11 =>
        xb (X3_beyondDoubt F a11 l4 l1 h5) fun v9 h10 =>
        if v9 = 0 then
          some (0, h10)
        else
          X3_wagesMayBePaid_L40 F rc5 l0 l1 1 l4 h10) k
theorem X3_wagesMayBePaid_L5_s (F : Nat)   (k : Nat) (l0 : Nat) (l1 : Int) (l3 : Int) (l4 : Int)  (h : HP) : X3_wagesMayBePaid_L5 F   (k + 1) l0 l1 l3 l4 h =
    (xgI h (some l0) 3 7 5).bind fun v1 =>
    if v1 ≤ l4 then
      xz l3 h
    else
      (xrc h (some l0) 3 7).bind fun a6 =>
      xb (X3_at F a6 l4 h) fun v4 h5 =>
      (xgI h5 v4 2 18 4).bind fun v7 =>
      if v7 = 0 then
        X3_wagesMayBePaid_L40 F (X3_wagesMayBePaid_L5 F k) l0 l1 l3 l4 h5
      else
        (xrc h5 (some l0) 3 7).bind fun a11 =>
        xb (X3_beyondDoubt F a11 l4 l1 h5) fun v9 h10 =>
        if v9 = 0 then
          some (0, h10)
        else
          X3_wagesMayBePaid_L40 F (X3_wagesMayBePaid_L5 F k) l0 l1 1 l4 h10 := rfl
set_option maxRecDepth 100000 in
theorem SX3_wagesMayBePaid_L5 {K : Ctx} {F : Nat} {r : Int} {hf : HP}     : ∀ (k : Nat) (l0 : Nat) (l1 : Int) (l3 : Int) (l4 : Int)  (h : HP), X3_wagesMayBePaid_L5 F   k l0 l1 l3 l4 h = some (r, hf) → Go K MX3_wagesMayBePaid (QM K (some (vi r)) hf) hf 5 [(0, vr (some l0)), (1, vl l1), (3, vi l3), (4, vi l4)] [] h := by
  intro k
  induction k with
  | zero => intro l0 l1 l3 l4 h E; exact nomatch E
  | succ k hrc5 =>
    intro l0 l1 l3 l4 h E
    rw [X3_wagesMayBePaid_L5_s] at E
    refine go_iload (j := 3) (n := 7) rfl dX3_wagesMayBePaid_5 rfl ?_
    refine go_aload_n (j := 0) (n := 8) rfl rfl dX3_wagesMayBePaid_7 rfl ?_
    replace E := Option.bind_eq_some_iff.mp E; obtain ⟨v1, ev1, E⟩ := E
    refine go_getI (n := 11) ev1 fl_RX3_36 rfl dX3_wagesMayBePaid_8 rfl ?_
    refine go_icmp_ge (tgt := 46) (n := 14) dX3_wagesMayBePaid_11 rfl rfl (fun c2 => ?_) (fun c2 => ?_)
    · rw [if_pos c2] at E
      refine go_iload_n (j := 2) (n := 47) rfl rfl dX3_wagesMayBePaid_46 rfl ?_
      unfold xz at E
      split at E
      · next c3 =>
        cases E
        exact go_zreturn rfl c3 dX3_wagesMayBePaid_47
      · cases E
    · rw [if_neg c2] at E
      refine go_aload_n (j := 0) (n := 15) rfl rfl dX3_wagesMayBePaid_14 rfl ?_
      refine go_iload (j := 3) (n := 17) rfl dX3_wagesMayBePaid_15 rfl ?_
      replace E := Option.bind_eq_some_iff.mp E; obtain ⟨a6, ea6, E⟩ := E
      obtain ⟨fa6, ga6⟩ := xrc_some ea6
      replace E := xb_some E; obtain ⟨v4, h5, ev4, E⟩ := E
      refine go_callV (y := yX3_at) (n := 20) (st := []) (as := [vi l4]) (stk9 := [vr v4]) (OX3_at ev4) yw_X3_at ci_3 ga6 wml_RX3_52 wim_X3_at wse_X3_at (Nat.le_of_ble_eq_true rfl) rfl ⟨Nat.le_of_ble_eq_true rfl, Nat.le_of_ble_eq_true rfl⟩ (Nat.le_of_ble_eq_true rfl) dX3_wagesMayBePaid_17 rfl (by cases fa6; rfl) rfl ?_
      replace E := Option.bind_eq_some_iff.mp E; obtain ⟨v7, ev7, E⟩ := E
      refine go_getI (n := 23) ev7 fl_RX3_86 rfl dX3_wagesMayBePaid_20 rfl ?_
      refine go_if_eq (tgt := 40) (n := 26) dX3_wagesMayBePaid_23 rfl rfl (fun c8 => ?_) (fun c8 => ?_)
      · rw [if_pos c8] at E
        exact SX3_wagesMayBePaid_L40   _ hrc5 _ _ _ _  _ E
      · rw [if_neg c8] at E
        refine go_iconst (z := 1) (n := 27) ⟨by decide, by decide⟩ dX3_wagesMayBePaid_26 rfl ?_
        refine go_istore_n (n := 28) (lv' := [(3, vi 1), (0, vr (some l0)), (1, vl l1), (4, vi l4)]) rfl dX3_wagesMayBePaid_27 rfl (Nat.le_of_ble_eq_true rfl) rfl ?_
        refine go_aload_n (j := 1) (n := 29) rfl rfl dX3_wagesMayBePaid_28 rfl ?_
        refine go_iload (j := 3) (n := 31) rfl dX3_wagesMayBePaid_29 rfl ?_
        refine go_lload_n (j := 2) (n := 32) rfl rfl dX3_wagesMayBePaid_31 rfl ?_
        replace E := Option.bind_eq_some_iff.mp E; obtain ⟨a11, ea11, E⟩ := E
        obtain ⟨fa11, ga11⟩ := xrc_some ea11
        replace E := xb_some E; obtain ⟨v9, h10, ev9, E⟩ := E
        refine go_callV (y := yX3_beyondDoubt) (n := 35) (st := []) (as := [vi l4, vl l1]) (stk9 := [vi v9]) (OX3_beyondDoubt ev9) yw_X3_beyondDoubt ci_3 ga11 wml_RX3_89 wim_X3_beyondDoubt wse_X3_beyondDoubt (Nat.le_of_ble_eq_true rfl) rfl ⟨Nat.le_of_ble_eq_true rfl, Nat.le_of_ble_eq_true rfl⟩ (Nat.le_of_ble_eq_true rfl) dX3_wagesMayBePaid_32 rfl (by cases fa11; rfl) rfl ?_
        refine go_if_ne (tgt := 40) (n := 38) dX3_wagesMayBePaid_35 rfl rfl (fun c12 => ?_) (fun c12 => ?_)
        · rw [if_neg c12] at E
          refine go_pick (lv' := [(0, vr (some l0)), (1, vl l1), (3, vi 1), (4, vi l4)]) [1, 2, 0, 3] rfl ?_
          exact SX3_wagesMayBePaid_L40   _ hrc5 _ _ _ _  _ E
        · rw [if_pos c12] at E
          refine go_iconst (z := 0) (n := 39) ⟨by decide, by decide⟩ dX3_wagesMayBePaid_38 rfl ?_
          cases E
          exact go_zreturn rfl (Or.inl rfl) dX3_wagesMayBePaid_39
noncomputable def X3_wagesMayBePaid (F : Nat)   (l0 : Nat) (l1 : Int)  (h : HP) : Option (Int × HP) :=
  X3_wagesMayBePaid_L5 F F l0 l1 0 0 h
set_option maxRecDepth 100000 in
theorem SX3_wagesMayBePaid {K : Ctx} {F : Nat} {r : Int} {hf : HP}     (l0 : Nat) (l1 : Int)  (h : HP) (E : X3_wagesMayBePaid F   l0 l1 h = some (r, hf)) : Go K MX3_wagesMayBePaid (QM K (some (vi r)) hf) hf 0 [(0, vr (some l0)), (1, vl l1)] [] h := by
  unfold X3_wagesMayBePaid at E
  refine go_iconst (z := 0) (n := 1) ⟨by decide, by decide⟩ dX3_wagesMayBePaid_0 rfl ?_
  refine go_istore_n (n := 2) (lv' := [(3, vi 0), (0, vr (some l0)), (1, vl l1)]) rfl dX3_wagesMayBePaid_1 rfl (Nat.le_of_ble_eq_true rfl) rfl ?_
  refine go_iconst (z := 0) (n := 3) ⟨by decide, by decide⟩ dX3_wagesMayBePaid_2 rfl ?_
  refine go_istore (n := 5) (lv' := [(4, vi 0), (3, vi 0), (0, vr (some l0)), (1, vl l1)]) dX3_wagesMayBePaid_3 rfl (Nat.le_of_ble_eq_true rfl) rfl ?_
  refine go_pick (lv' := [(0, vr (some l0)), (1, vl l1), (3, vi 0), (4, vi 0)]) [2, 3, 1, 0] rfl ?_
  exact SX3_wagesMayBePaid_L5     F _ _ _ _ _ E
theorem OX3_wagesMayBePaid {F : Nat} {l0 : Nat} {l1 : Int} {h hf : HP} {r : Int} (e : X3_wagesMayBePaid F l0 l1 h = some (r, hf)) : Ok MX3_wagesMayBePaid [vr (some l0), vl l1] (some (vi r)) h hf := fun K _ _ _ => SX3_wagesMayBePaid l0 l1 h e
abbrev MX5_together : MI := (RX5, cX5_together, 3, (some .int), 3, none, "together")
noncomputable def X5_together_L4 (F : Nat)   (k : Nat) : Nat → Int → Int → HP → Option (Int × HP) :=
  Nat.rec (motive := fun _ => Nat → Int → Int → HP → Option (Int × HP)) (fun _ _ _ _ => none) (fun _ rc4 l0 l1 l2 h =>
    (xgI h (some l0) 5 6 4).bind fun v1 =>
    if v1 ≤ l2 then
      some (l1, h)
    else
      (xrc h (some l0) 5 6).bind fun a5 =>
      xb (X5_due F a5 l2 h) fun v3 h4 =>
      rc4 l0 (w32 (l1 + v3)) (w32 (l2 + 1)) h4) k
theorem X5_together_L4_s (F : Nat)   (k : Nat) (l0 : Nat) (l1 : Int) (l2 : Int)  (h : HP) : X5_together_L4 F   (k + 1) l0 l1 l2 h =
    (xgI h (some l0) 5 6 4).bind fun v1 =>
    if v1 ≤ l2 then
      some (l1, h)
    else
      (xrc h (some l0) 5 6).bind fun a5 =>
      xb (X5_due F a5 l2 h) fun v3 h4 =>
      (X5_together_L4 F k) l0 (w32 (l1 + v3)) (w32 (l2 + 1)) h4 := rfl
set_option maxRecDepth 100000 in
theorem SX5_together_L4 {K : Ctx} {F : Nat} {r : Int} {hf : HP}     : ∀ (k : Nat) (l0 : Nat) (l1 : Int) (l2 : Int)  (h : HP), X5_together_L4 F   k l0 l1 l2 h = some (r, hf) → Go K MX5_together (QM K (some (vi r)) hf) hf 4 [(0, vr (some l0)), (1, vi l1), (2, vi l2)] [] h := by
  intro k
  induction k with
  | zero => intro l0 l1 l2 h E; exact nomatch E
  | succ k hrc4 =>
    intro l0 l1 l2 h E
    rw [X5_together_L4_s] at E
    refine go_iload_n (j := 2) (n := 5) rfl rfl dX5_together_4 rfl ?_
    refine go_aload_n (j := 0) (n := 6) rfl rfl dX5_together_5 rfl ?_
    replace E := Option.bind_eq_some_iff.mp E; obtain ⟨v1, ev1, E⟩ := E
    refine go_getI (n := 9) ev1 fl_RX5_24 rfl dX5_together_6 rfl ?_
    refine go_icmp_ge (tgt := 26) (n := 12) dX5_together_9 rfl rfl (fun c2 => ?_) (fun c2 => ?_)
    · rw [if_pos c2] at E
      refine go_iload_n (j := 1) (n := 27) rfl rfl dX5_together_26 rfl ?_
      cases E
      exact go_ireturn rfl dX5_together_27
    · rw [if_neg c2] at E
      refine go_iload_n (j := 1) (n := 13) rfl rfl dX5_together_12 rfl ?_
      refine go_aload_n (j := 0) (n := 14) rfl rfl dX5_together_13 rfl ?_
      refine go_iload_n (j := 2) (n := 15) rfl rfl dX5_together_14 rfl ?_
      replace E := Option.bind_eq_some_iff.mp E; obtain ⟨a5, ea5, E⟩ := E
      obtain ⟨fa5, ga5⟩ := xrc_some ea5
      replace E := xb_some E; obtain ⟨v3, h4, ev3, E⟩ := E
      refine go_callV (y := yX5_due) (n := 18) (st := [vi l1]) (as := [vi l2]) (stk9 := [vi v3, vi l1]) (OX5_due ev3) yw_X5_due ci_5 ga5 wml_RX5_28 wim_X5_due wse_X5_due (Nat.le_of_ble_eq_true rfl) rfl ⟨Nat.le_of_ble_eq_true rfl, Nat.le_of_ble_eq_true rfl⟩ (Nat.le_of_ble_eq_true rfl) dX5_together_15 rfl (by cases fa5; rfl) rfl ?_
      refine go_iadd (n := 19) dX5_together_18 rfl ?_
      refine go_istore_n (n := 20) (lv' := [(1, vi (w32 (l1 + v3))), (0, vr (some l0)), (2, vi l2)]) rfl dX5_together_19 rfl (Nat.le_of_ble_eq_true rfl) rfl ?_
      refine go_iinc (j := 2) (n := 23) (lv' := [(2, vi (w32 (l2 + 1))), (1, vi (w32 (l1 + v3))), (0, vr (some l0))]) rfl dX5_together_20 rfl (Nat.le_of_ble_eq_true rfl) rfl ?_
      refine go_goto (tgt := 4) dX5_together_23 rfl ?_
      refine go_pick (lv' := [(0, vr (some l0)), (1, vi (w32 (l1 + v3))), (2, vi (w32 (l2 + 1)))]) [2, 1, 0] rfl ?_
      exact hrc4 _ _ _ _ E
noncomputable def X5_together (F : Nat)   (l0 : Nat)  (h : HP) : Option (Int × HP) :=
  X5_together_L4 F F l0 0 0 h
set_option maxRecDepth 100000 in
theorem SX5_together {K : Ctx} {F : Nat} {r : Int} {hf : HP}     (l0 : Nat)  (h : HP) (E : X5_together F   l0 h = some (r, hf)) : Go K MX5_together (QM K (some (vi r)) hf) hf 0 [(0, vr (some l0))] [] h := by
  unfold X5_together at E
  refine go_iconst (z := 0) (n := 1) ⟨by decide, by decide⟩ dX5_together_0 rfl ?_
  refine go_istore_n (n := 2) (lv' := [(1, vi 0), (0, vr (some l0))]) rfl dX5_together_1 rfl (Nat.le_of_ble_eq_true rfl) rfl ?_
  refine go_iconst (z := 0) (n := 3) ⟨by decide, by decide⟩ dX5_together_2 rfl ?_
  refine go_istore_n (n := 4) (lv' := [(2, vi 0), (1, vi 0), (0, vr (some l0))]) rfl dX5_together_3 rfl (Nat.le_of_ble_eq_true rfl) rfl ?_
  refine go_pick (lv' := [(0, vr (some l0)), (1, vi 0), (2, vi 0)]) [2, 1, 0] rfl ?_
  exact SX5_together_L4     F _ _ _ _ E
theorem OX5_together {F : Nat} {l0 : Nat} {h hf : HP} {r : Int} (e : X5_together F l0 h = some (r, hf)) : Ok MX5_together [vr (some l0)] (some (vi r)) h hf := fun K _ _ _ => SX5_together l0 h e
theorem yw_X3_wagesMayBePaid : YW yX3_wagesMayBePaid cX3_wagesMayBePaid 5 (some .boolean) 1 := ⟨bw_of 758 (by decide +kernel) rfl, bw_of 122 (by decide +kernel) rfl, ⟨by decide +kernel, by decide +kernel, by decide +kernel⟩, by decide +kernel⟩
theorem wml_RX11_279 : Cond.methodLink RX11 279 yX3_wagesMayBePaid ∈ BW := bw_of 755 (by decide +kernel) rfl
theorem wim_X3_wagesMayBePaid : Cond.instanceMethod yX3_wagesMayBePaid ∈ BW := bw_of 756 (by decide +kernel) rfl
theorem wse_X3_wagesMayBePaid : Cond.selects RX3 yX3_wagesMayBePaid yX3_wagesMayBePaid ∈ BW := bw_of 757 (by decide +kernel) rfl
theorem yw_X5_together : YW yX5_together cX5_together 3 (some .int) 0 := ⟨bw_of 774 (by decide +kernel) rfl, bw_of 127 (by decide +kernel) rfl, ⟨by decide +kernel, by decide +kernel, by decide +kernel⟩, by decide +kernel⟩
theorem wml_RX11_283 : Cond.methodLink RX11 283 yX5_together ∈ BW := bw_of 771 (by decide +kernel) rfl
theorem wim_X5_together : Cond.instanceMethod yX5_together ∈ BW := bw_of 772 (by decide +kernel) rfl
theorem wse_X5_together : Cond.selects RX5 yX5_together yX5_together ∈ BW := bw_of 773 (by decide +kernel) rfl
abbrev MX11_wages : MI := (RX11, cX11_wages, 1, (some .int), 6, none, "wages")
noncomputable def X11_wages (F : Nat)   (l0 : Nat)  (h : HP) : Option (Int × HP) :=
  (xgP h (some l0) 11 6 2).bind fun v1 =>
  (xgP h v1 4 12 5).bind fun v2 =>
  (xgI h v2 5 6 5).bind fun v3 =>
  if v3 = 0 then
    (xgP h (some l0) 11 6 2).bind fun v5 =>
    (xgP h v5 4 12 2).bind fun v6 =>
    (xgP h (some l0) 11 6 2).bind fun v7 =>
    (xgP h v7 4 12 1).bind fun v8 =>
    (xgP h (some l0) 11 6 2).bind fun v9 =>
    (xgP h v9 4 12 2).bind fun v10 =>
    (xrc h v8 7 10).bind fun a13 =>
    xb (X7_badWords F a13 v10 h) fun v11 h12 =>
    (xrc h12 v6 3 7).bind fun a16 =>
    xb (X3_wagesMayBePaid F a16 v11 h12) fun v14 h15 =>
    if v14 = 0 then
      some ((-1), h15)
    else
      (xgP h15 (some l0) 11 6 2).bind fun v18 =>
      (xgP h15 v18 4 12 5).bind fun v19 =>
      (xpZ h15 v19 5 6 5 1).bind fun h20 =>
      (xgP h20 (some l0) 11 6 2).bind fun v21 =>
      (xgP h20 v21 4 12 5).bind fun v22 =>
      (xrc h20 v22 5 6).bind fun a25 =>
      xb (X5_together F a25 h20) fun v23 h24 =>
      some (v23, h24)
  else
    some ((-1), h)
set_option maxRecDepth 100000 in
theorem SX11_wages {K : Ctx} {F : Nat} {r : Int} {hf : HP}     (l0 : Nat)  (h : HP) (E : X11_wages F   l0 h = some (r, hf)) : Go K MX11_wages (QM K (some (vi r)) hf) hf 0 [(0, vr (some l0))] [] h := by
  unfold X11_wages at E
  refine go_aload_n (j := 0) (n := 1) rfl rfl dX11_wages_0 rfl ?_
  replace E := Option.bind_eq_some_iff.mp E; obtain ⟨v1, ev1, E⟩ := E
  refine go_getP (n := 4) ev1 fl_RX11_23 rfl dX11_wages_1 rfl ?_
  replace E := Option.bind_eq_some_iff.mp E; obtain ⟨v2, ev2, E⟩ := E
  refine go_getP (n := 7) ev2 fl_RX11_256 rfl dX11_wages_4 rfl ?_
  replace E := Option.bind_eq_some_iff.mp E; obtain ⟨v3, ev3, E⟩ := E
  refine go_getI (n := 10) ev3 fl_RX11_268 rfl dX11_wages_7 rfl ?_
  refine go_if_ne (tgt := 43) (n := 13) dX11_wages_10 rfl rfl (fun c4 => ?_) (fun c4 => ?_)
  · rw [if_neg c4] at E
    refine go_iconst (z := (-1)) (n := 44) ⟨by decide, by decide⟩ dX11_wages_43 rfl ?_
    cases E
    exact go_ireturn rfl dX11_wages_44
  · rw [if_pos c4] at E
    refine go_aload_n (j := 0) (n := 14) rfl rfl dX11_wages_13 rfl ?_
    replace E := Option.bind_eq_some_iff.mp E; obtain ⟨v5, ev5, E⟩ := E
    refine go_getP (n := 17) ev5 fl_RX11_23 rfl dX11_wages_14 rfl ?_
    replace E := Option.bind_eq_some_iff.mp E; obtain ⟨v6, ev6, E⟩ := E
    refine go_getP (n := 20) ev6 fl_RX11_101 rfl dX11_wages_17 rfl ?_
    refine go_aload_n (j := 0) (n := 21) rfl rfl dX11_wages_20 rfl ?_
    replace E := Option.bind_eq_some_iff.mp E; obtain ⟨v7, ev7, E⟩ := E
    refine go_getP (n := 24) ev7 fl_RX11_23 rfl dX11_wages_21 rfl ?_
    replace E := Option.bind_eq_some_iff.mp E; obtain ⟨v8, ev8, E⟩ := E
    refine go_getP (n := 27) ev8 fl_RX11_60 rfl dX11_wages_24 rfl ?_
    refine go_aload_n (j := 0) (n := 28) rfl rfl dX11_wages_27 rfl ?_
    replace E := Option.bind_eq_some_iff.mp E; obtain ⟨v9, ev9, E⟩ := E
    refine go_getP (n := 31) ev9 fl_RX11_23 rfl dX11_wages_28 rfl ?_
    replace E := Option.bind_eq_some_iff.mp E; obtain ⟨v10, ev10, E⟩ := E
    refine go_getP (n := 34) ev10 fl_RX11_101 rfl dX11_wages_31 rfl ?_
    replace E := Option.bind_eq_some_iff.mp E; obtain ⟨a13, ea13, E⟩ := E
    obtain ⟨fa13, ga13⟩ := xrc_some ea13
    replace E := xb_some E; obtain ⟨v11, h12, ev11, E⟩ := E
    refine go_callV (y := yX7_badWords) (n := 37) (st := [vr v6]) (as := [vr v10]) (stk9 := [vl v11, vr v6]) (OX7_badWords ev11) yw_X7_badWords ci_7 ga13 wml_RX11_203 wim_X7_badWords wse_X7_badWords (Nat.le_of_ble_eq_true rfl) rfl ⟨Nat.le_of_ble_eq_true rfl, Nat.le_of_ble_eq_true rfl⟩ (Nat.le_of_ble_eq_true rfl) dX11_wages_34 rfl (by cases fa13; rfl) rfl ?_
    replace E := Option.bind_eq_some_iff.mp E; obtain ⟨a16, ea16, E⟩ := E
    obtain ⟨fa16, ga16⟩ := xrc_some ea16
    replace E := xb_some E; obtain ⟨v14, h15, ev14, E⟩ := E
    refine go_callV (y := yX3_wagesMayBePaid) (n := 40) (st := []) (as := [vl v11]) (stk9 := [vi v14]) (OX3_wagesMayBePaid ev14) yw_X3_wagesMayBePaid ci_3 ga16 wml_RX11_279 wim_X3_wagesMayBePaid wse_X3_wagesMayBePaid (Nat.le_of_ble_eq_true rfl) rfl ⟨Nat.le_of_ble_eq_true rfl, Nat.le_of_ble_eq_true rfl⟩ (Nat.le_of_ble_eq_true rfl) dX11_wages_37 rfl (by cases fa16; rfl) rfl ?_
    refine go_if_ne (tgt := 45) (n := 43) dX11_wages_40 rfl rfl (fun c17 => ?_) (fun c17 => ?_)
    · rw [if_neg c17] at E
      refine go_aload_n (j := 0) (n := 46) rfl rfl dX11_wages_45 rfl ?_
      replace E := Option.bind_eq_some_iff.mp E; obtain ⟨v18, ev18, E⟩ := E
      refine go_getP (n := 49) ev18 fl_RX11_23 rfl dX11_wages_46 rfl ?_
      replace E := Option.bind_eq_some_iff.mp E; obtain ⟨v19, ev19, E⟩ := E
      refine go_getP (n := 52) ev19 fl_RX11_256 rfl dX11_wages_49 rfl ?_
      refine go_iconst (z := 1) (n := 53) ⟨by decide, by decide⟩ dX11_wages_52 rfl ?_
      replace E := Option.bind_eq_some_iff.mp E; obtain ⟨h20, eh20, E⟩ := E
      refine go_putZ (n := 56) eh20 fl_RX11_268 rfl dX11_wages_53 rfl ?_
      refine go_aload_n (j := 0) (n := 57) rfl rfl dX11_wages_56 rfl ?_
      replace E := Option.bind_eq_some_iff.mp E; obtain ⟨v21, ev21, E⟩ := E
      refine go_getP (n := 60) ev21 fl_RX11_23 rfl dX11_wages_57 rfl ?_
      replace E := Option.bind_eq_some_iff.mp E; obtain ⟨v22, ev22, E⟩ := E
      refine go_getP (n := 63) ev22 fl_RX11_256 rfl dX11_wages_60 rfl ?_
      replace E := Option.bind_eq_some_iff.mp E; obtain ⟨a25, ea25, E⟩ := E
      obtain ⟨fa25, ga25⟩ := xrc_some ea25
      replace E := xb_some E; obtain ⟨v23, h24, ev23, E⟩ := E
      refine go_callV (y := yX5_together) (n := 66) (st := []) (as := []) (stk9 := [vi v23]) (OX5_together ev23) yw_X5_together ci_5 ga25 wml_RX11_283 wim_X5_together wse_X5_together (Nat.le_of_ble_eq_true rfl) rfl ⟨Nat.le_of_ble_eq_true rfl, Nat.le_of_ble_eq_true rfl⟩ (Nat.le_of_ble_eq_true rfl) dX11_wages_63 rfl (by cases fa25; rfl) rfl ?_
      cases E
      exact go_ireturn rfl dX11_wages_66
    · rw [if_pos c17] at E
      refine go_iconst (z := (-1)) (n := 44) ⟨by decide, by decide⟩ dX11_wages_43 rfl ?_
      cases E
      exact go_ireturn rfl dX11_wages_44
theorem OX11_wages {F : Nat} {l0 : Nat} {h hf : HP} {r : Int} (e : X11_wages F l0 h = some (r, hf)) : Ok MX11_wages [vr (some l0)] (some (vi r)) h hf := fun K _ _ _ => SX11_wages l0 h e
abbrev MX10_note : MI := (RX10, cX10_note, 5, (some .int), 2, none, "note")
noncomputable def X10_note (F : Nat)   (l0 : Nat) (l1 : Int) (l2 : Int) (l3 : Int) (l4 : Int)  (h : HP) : Option (Int × HP) :=
  (xgI h (some l0) 10 10 4).bind fun v1 =>
  if v1 < 0 then
    some ((-1), h)
  else
    (xgI h (some l0) 10 10 4).bind fun v3 =>
    if v3 < 100 then
      (xgP h (some l0) 10 10 0).bind fun v5 =>
      (xgI h (some l0) 10 10 4).bind fun v6 =>
      (xsI h v5 v6 l1).bind fun h7 =>
      (xgP h7 (some l0) 10 10 1).bind fun v8 =>
      (xgI h7 (some l0) 10 10 4).bind fun v9 =>
      (xsI h7 v8 v9 l2).bind fun h10 =>
      (xgP h10 (some l0) 10 10 2).bind fun v11 =>
      (xgI h10 (some l0) 10 10 4).bind fun v12 =>
      (xsI h10 v11 v12 l3).bind fun h13 =>
      (xgP h13 (some l0) 10 10 3).bind fun v14 =>
      (xgI h13 (some l0) 10 10 4).bind fun v15 =>
      (xsI h13 v14 v15 l4).bind fun h16 =>
      (xgI h16 (some l0) 10 10 4).bind fun v17 =>
      (xpI h16 (some l0) 10 10 4 (w32 (v17 + 1))).bind fun h18 =>
      (xgI h18 (some l0) 10 10 4).bind fun v19 =>
      some (v19, h18)
    else
      some ((-1), h)
set_option maxRecDepth 100000 in
theorem SX10_note {K : Ctx} {F : Nat} {r : Int} {hf : HP}     (l0 : Nat) (l1 : Int) (l2 : Int) (l3 : Int) (l4 : Int)  (h : HP) (E : X10_note F   l0 l1 l2 l3 l4 h = some (r, hf)) : Go K MX10_note (QM K (some (vi r)) hf) hf 0 [(0, vr (some l0)), (1, vi l1), (2, vi l2), (3, vi l3), (4, vi l4)] [] h := by
  unfold X10_note at E
  refine go_aload_n (j := 0) (n := 1) rfl rfl dX10_note_0 rfl ?_
  replace E := Option.bind_eq_some_iff.mp E; obtain ⟨v1, ev1, E⟩ := E
  refine go_getI (n := 4) ev1 fl_RX10_24 rfl dX10_note_1 rfl ?_
  refine go_if_lt (tgt := 16) (n := 7) dX10_note_4 rfl rfl (fun c2 => ?_) (fun c2 => ?_)
  · rw [if_pos c2] at E
    refine go_iconst (z := (-1)) (n := 17) ⟨by decide, by decide⟩ dX10_note_16 rfl ?_
    cases E
    exact go_ireturn rfl dX10_note_17
  · rw [if_neg c2] at E
    refine go_aload_n (j := 0) (n := 8) rfl rfl dX10_note_7 rfl ?_
    replace E := Option.bind_eq_some_iff.mp E; obtain ⟨v3, ev3, E⟩ := E
    refine go_getI (n := 11) ev3 fl_RX10_24 rfl dX10_note_8 rfl ?_
    refine go_bipush (z := 100) (n := 13) ⟨by decide, by decide⟩ dX10_note_11 rfl ?_
    refine go_icmp_lt (tgt := 18) (n := 16) dX10_note_13 rfl rfl (fun c4 => ?_) (fun c4 => ?_)
    · rw [if_pos c4] at E
      refine go_aload_n (j := 0) (n := 19) rfl rfl dX10_note_18 rfl ?_
      replace E := Option.bind_eq_some_iff.mp E; obtain ⟨v5, ev5, E⟩ := E
      refine go_getP (n := 22) ev5 fl_RX10_9 rfl dX10_note_19 rfl ?_
      refine go_aload_n (j := 0) (n := 23) rfl rfl dX10_note_22 rfl ?_
      replace E := Option.bind_eq_some_iff.mp E; obtain ⟨v6, ev6, E⟩ := E
      refine go_getI (n := 26) ev6 fl_RX10_24 rfl dX10_note_23 rfl ?_
      refine go_iload_n (j := 1) (n := 27) rfl rfl dX10_note_26 rfl ?_
      replace E := Option.bind_eq_some_iff.mp E; obtain ⟨h7, eh7, E⟩ := E
      refine go_iastore (n := 28) eh7 dX10_note_27 rfl ?_
      refine go_aload_n (j := 0) (n := 29) rfl rfl dX10_note_28 rfl ?_
      replace E := Option.bind_eq_some_iff.mp E; obtain ⟨v8, ev8, E⟩ := E
      refine go_getP (n := 32) ev8 fl_RX10_15 rfl dX10_note_29 rfl ?_
      refine go_aload_n (j := 0) (n := 33) rfl rfl dX10_note_32 rfl ?_
      replace E := Option.bind_eq_some_iff.mp E; obtain ⟨v9, ev9, E⟩ := E
      refine go_getI (n := 36) ev9 fl_RX10_24 rfl dX10_note_33 rfl ?_
      refine go_iload_n (j := 2) (n := 37) rfl rfl dX10_note_36 rfl ?_
      replace E := Option.bind_eq_some_iff.mp E; obtain ⟨h10, eh10, E⟩ := E
      refine go_iastore (n := 38) eh10 dX10_note_37 rfl ?_
      refine go_aload_n (j := 0) (n := 39) rfl rfl dX10_note_38 rfl ?_
      replace E := Option.bind_eq_some_iff.mp E; obtain ⟨v11, ev11, E⟩ := E
      refine go_getP (n := 42) ev11 fl_RX10_18 rfl dX10_note_39 rfl ?_
      refine go_aload_n (j := 0) (n := 43) rfl rfl dX10_note_42 rfl ?_
      replace E := Option.bind_eq_some_iff.mp E; obtain ⟨v12, ev12, E⟩ := E
      refine go_getI (n := 46) ev12 fl_RX10_24 rfl dX10_note_43 rfl ?_
      refine go_iload_n (j := 3) (n := 47) rfl rfl dX10_note_46 rfl ?_
      replace E := Option.bind_eq_some_iff.mp E; obtain ⟨h13, eh13, E⟩ := E
      refine go_iastore (n := 48) eh13 dX10_note_47 rfl ?_
      refine go_aload_n (j := 0) (n := 49) rfl rfl dX10_note_48 rfl ?_
      replace E := Option.bind_eq_some_iff.mp E; obtain ⟨v14, ev14, E⟩ := E
      refine go_getP (n := 52) ev14 fl_RX10_21 rfl dX10_note_49 rfl ?_
      refine go_aload_n (j := 0) (n := 53) rfl rfl dX10_note_52 rfl ?_
      replace E := Option.bind_eq_some_iff.mp E; obtain ⟨v15, ev15, E⟩ := E
      refine go_getI (n := 56) ev15 fl_RX10_24 rfl dX10_note_53 rfl ?_
      refine go_iload (j := 4) (n := 58) rfl dX10_note_56 rfl ?_
      replace E := Option.bind_eq_some_iff.mp E; obtain ⟨h16, eh16, E⟩ := E
      refine go_iastore (n := 59) eh16 dX10_note_58 rfl ?_
      refine go_aload_n (j := 0) (n := 60) rfl rfl dX10_note_59 rfl ?_
      refine go_dup (n := 61) rfl dX10_note_60 rfl ?_
      replace E := Option.bind_eq_some_iff.mp E; obtain ⟨v17, ev17, E⟩ := E
      refine go_getI (n := 64) ev17 fl_RX10_24 rfl dX10_note_61 rfl ?_
      refine go_iconst (z := 1) (n := 65) ⟨by decide, by decide⟩ dX10_note_64 rfl ?_
      refine go_iadd (n := 66) dX10_note_65 rfl ?_
      replace E := Option.bind_eq_some_iff.mp E; obtain ⟨h18, eh18, E⟩ := E
      refine go_putI (n := 69) eh18 fl_RX10_24 rfl dX10_note_66 rfl ?_
      refine go_aload_n (j := 0) (n := 70) rfl rfl dX10_note_69 rfl ?_
      replace E := Option.bind_eq_some_iff.mp E; obtain ⟨v19, ev19, E⟩ := E
      refine go_getI (n := 73) ev19 fl_RX10_24 rfl dX10_note_70 rfl ?_
      cases E
      exact go_ireturn rfl dX10_note_73
    · rw [if_neg c4] at E
      refine go_iconst (z := (-1)) (n := 17) ⟨by decide, by decide⟩ dX10_note_16 rfl ?_
      cases E
      exact go_ireturn rfl dX10_note_17
theorem OX10_note {F : Nat} {l0 : Nat} {l1 : Int} {l2 : Int} {l3 : Int} {l4 : Int} {h hf : HP} {r : Int} (e : X10_note F l0 l1 l2 l3 l4 h = some (r, hf)) : Ok MX10_note [vr (some l0), vi l1, vi l2, vi l3, vi l4] (some (vi r)) h hf := fun K _ _ _ => SX10_note l0 l1 l2 l3 l4 h e
theorem yw_X10_note : YW yX10_note cX10_note 5 (some .int) 4 := ⟨bw_of 1571 (by decide +kernel) rfl, bw_of 124 (by decide +kernel) rfl, ⟨by decide +kernel, by decide +kernel, by decide +kernel⟩, by decide +kernel⟩
theorem wml_RX11_215 : Cond.methodLink RX11 215 yX10_note ∈ BW := bw_of 1568 (by decide +kernel) rfl
theorem wim_X10_note : Cond.instanceMethod yX10_note ∈ BW := bw_of 1569 (by decide +kernel) rfl
theorem wse_X10_note : Cond.selects RX10 yX10_note yX10_note ∈ BW := bw_of 1570 (by decide +kernel) rfl
abbrev MX11_wanted : MI := (RX11, cX11_wanted, 6, (some .int), 13, some [], "wanted")
noncomputable def X11_wanted (F : Nat)   (l0 : Nat) (l1 : Int) (l2 : Int) (l3 : Int) (l4 : Int) (l5 : Int)  (h : HP) : Option ((String ⊕ Int) × HP) :=
  xth (X11_needPlace F l1 4 h) fun v1 h2 =>
  xth (X11_needPlace F l2 4 h2) fun v3 h4 =>
  xth (X11_needNumber F l3 0 6 h4) fun v5 h6 =>
  xth (X11_needNumber F l4 0 9 h6) fun v7 h8 =>
  xth (X11_needNumber F l5 0 99999 h8) fun v9 h10 =>
  (xgP h10 (some l0) 11 6 2).bind fun v11 =>
  (xgP h10 v11 4 12 3).bind fun v12 =>
  (xrc h10 v12 10 10).bind fun a15 =>
  xb (X10_note F a15 (w32 ((w32 (4 * l1)) + l2)) l3 l4 l5 h10) fun v13 h14 =>
  some (.inr v13, h14)
set_option maxRecDepth 100000 in
theorem SX11_wanted {K : Ctx} {F : Nat} {r : String ⊕ Int} {hf : HP}     (l0 : Nat) (l1 : Int) (l2 : Int) (l3 : Int) (l4 : Int) (l5 : Int)  (h : HP) (E : X11_wanted F   l0 l1 l2 l3 l4 l5 h = some (r, hf)) : Go K MX11_wanted (QMX K (rI r) hf) hf 0 [(0, vr (some l0)), (1, vi l1), (2, vi l2), (3, vi l3), (4, vi l4), (5, vi l5)] [] h := by
  unfold X11_wanted at E
  refine go_iload_n (j := 1) (n := 1) rfl rfl dX11_wanted_0 rfl ?_
  refine go_iconst (z := 4) (n := 2) ⟨by decide, by decide⟩ dX11_wanted_1 rfl ?_
  replace E := xth_some E; rcases E with ⟨x20, ev1, rfl⟩ | ⟨v1, h2, ev1, E⟩
  · exact go_callXSt (y := yX11_needPlace) (as := [vi l1, vi 4]) (st := []) (OXX11_needPlace ev1) yw_X11_needPlace wml_RX11_54 wst_X11_needPlace (Nat.le_of_ble_eq_true rfl) rfl ⟨Nat.le_of_ble_eq_true rfl, Nat.le_of_ble_eq_true rfl⟩ (Nat.le_of_ble_eq_true rfl) dX11_wanted_2 rfl rfl
  refine go_callXSr (y := yX11_needPlace) (n := 5) (st := []) (as := [vi l1, vi 4]) (stk9 := []) (OXX11_needPlace ev1) yw_X11_needPlace wml_RX11_54 wst_X11_needPlace (Nat.le_of_ble_eq_true rfl) rfl ⟨Nat.le_of_ble_eq_true rfl, Nat.le_of_ble_eq_true rfl⟩ (Nat.le_of_ble_eq_true rfl) dX11_wanted_2 rfl rfl rfl ?_
  refine go_iload_n (j := 2) (n := 6) rfl rfl dX11_wanted_5 rfl ?_
  refine go_iconst (z := 4) (n := 7) ⟨by decide, by decide⟩ dX11_wanted_6 rfl ?_
  replace E := xth_some E; rcases E with ⟨x19, ev3, rfl⟩ | ⟨v3, h4, ev3, E⟩
  · exact go_callXSt (y := yX11_needPlace) (as := [vi l2, vi 4]) (st := []) (OXX11_needPlace ev3) yw_X11_needPlace wml_RX11_54 wst_X11_needPlace (Nat.le_of_ble_eq_true rfl) rfl ⟨Nat.le_of_ble_eq_true rfl, Nat.le_of_ble_eq_true rfl⟩ (Nat.le_of_ble_eq_true rfl) dX11_wanted_7 rfl rfl
  refine go_callXSr (y := yX11_needPlace) (n := 10) (st := []) (as := [vi l2, vi 4]) (stk9 := []) (OXX11_needPlace ev3) yw_X11_needPlace wml_RX11_54 wst_X11_needPlace (Nat.le_of_ble_eq_true rfl) rfl ⟨Nat.le_of_ble_eq_true rfl, Nat.le_of_ble_eq_true rfl⟩ (Nat.le_of_ble_eq_true rfl) dX11_wanted_7 rfl rfl rfl ?_
  refine go_iload_n (j := 3) (n := 11) rfl rfl dX11_wanted_10 rfl ?_
  refine go_iconst (z := 0) (n := 12) ⟨by decide, by decide⟩ dX11_wanted_11 rfl ?_
  refine go_bipush (z := 6) (n := 14) ⟨by decide, by decide⟩ dX11_wanted_12 rfl ?_
  replace E := xth_some E; rcases E with ⟨x18, ev5, rfl⟩ | ⟨v5, h6, ev5, E⟩
  · exact go_callXSt (y := yX11_needNumber) (as := [vi l3, vi 0, vi 6]) (st := []) (OXX11_needNumber ev5) yw_X11_needNumber wml_RX11_44 wst_X11_needNumber (Nat.le_of_ble_eq_true rfl) rfl ⟨Nat.le_of_ble_eq_true rfl, Nat.le_of_ble_eq_true rfl⟩ (Nat.le_of_ble_eq_true rfl) dX11_wanted_14 rfl rfl
  refine go_callXSr (y := yX11_needNumber) (n := 17) (st := []) (as := [vi l3, vi 0, vi 6]) (stk9 := []) (OXX11_needNumber ev5) yw_X11_needNumber wml_RX11_44 wst_X11_needNumber (Nat.le_of_ble_eq_true rfl) rfl ⟨Nat.le_of_ble_eq_true rfl, Nat.le_of_ble_eq_true rfl⟩ (Nat.le_of_ble_eq_true rfl) dX11_wanted_14 rfl rfl rfl ?_
  refine go_iload (j := 4) (n := 19) rfl dX11_wanted_17 rfl ?_
  refine go_iconst (z := 0) (n := 20) ⟨by decide, by decide⟩ dX11_wanted_19 rfl ?_
  refine go_bipush (z := 9) (n := 22) ⟨by decide, by decide⟩ dX11_wanted_20 rfl ?_
  replace E := xth_some E; rcases E with ⟨x17, ev7, rfl⟩ | ⟨v7, h8, ev7, E⟩
  · exact go_callXSt (y := yX11_needNumber) (as := [vi l4, vi 0, vi 9]) (st := []) (OXX11_needNumber ev7) yw_X11_needNumber wml_RX11_44 wst_X11_needNumber (Nat.le_of_ble_eq_true rfl) rfl ⟨Nat.le_of_ble_eq_true rfl, Nat.le_of_ble_eq_true rfl⟩ (Nat.le_of_ble_eq_true rfl) dX11_wanted_22 rfl rfl
  refine go_callXSr (y := yX11_needNumber) (n := 25) (st := []) (as := [vi l4, vi 0, vi 9]) (stk9 := []) (OXX11_needNumber ev7) yw_X11_needNumber wml_RX11_44 wst_X11_needNumber (Nat.le_of_ble_eq_true rfl) rfl ⟨Nat.le_of_ble_eq_true rfl, Nat.le_of_ble_eq_true rfl⟩ (Nat.le_of_ble_eq_true rfl) dX11_wanted_22 rfl rfl rfl ?_
  refine go_iload (j := 5) (n := 27) rfl dX11_wanted_25 rfl ?_
  refine go_iconst (z := 0) (n := 28) ⟨by decide, by decide⟩ dX11_wanted_27 rfl ?_
  refine go_ldc (z := 99999) (n := 30) ⟨by decide, by decide⟩ wk_RX11_69 dX11_wanted_28 rfl ?_
  replace E := xth_some E; rcases E with ⟨x16, ev9, rfl⟩ | ⟨v9, h10, ev9, E⟩
  · exact go_callXSt (y := yX11_needNumber) (as := [vi l5, vi 0, vi 99999]) (st := []) (OXX11_needNumber ev9) yw_X11_needNumber wml_RX11_44 wst_X11_needNumber (Nat.le_of_ble_eq_true rfl) rfl ⟨Nat.le_of_ble_eq_true rfl, Nat.le_of_ble_eq_true rfl⟩ (Nat.le_of_ble_eq_true rfl) dX11_wanted_30 rfl rfl
  refine go_callXSr (y := yX11_needNumber) (n := 33) (st := []) (as := [vi l5, vi 0, vi 99999]) (stk9 := []) (OXX11_needNumber ev9) yw_X11_needNumber wml_RX11_44 wst_X11_needNumber (Nat.le_of_ble_eq_true rfl) rfl ⟨Nat.le_of_ble_eq_true rfl, Nat.le_of_ble_eq_true rfl⟩ (Nat.le_of_ble_eq_true rfl) dX11_wanted_30 rfl rfl rfl ?_
  refine go_aload_n (j := 0) (n := 34) rfl rfl dX11_wanted_33 rfl ?_
  replace E := Option.bind_eq_some_iff.mp E; obtain ⟨v11, ev11, E⟩ := E
  refine go_getP (n := 37) ev11 fl_RX11_23 rfl dX11_wanted_34 rfl ?_
  replace E := Option.bind_eq_some_iff.mp E; obtain ⟨v12, ev12, E⟩ := E
  refine go_getP (n := 40) ev12 fl_RX11_211 rfl dX11_wanted_37 rfl ?_
  refine go_iconst (z := 4) (n := 41) ⟨by decide, by decide⟩ dX11_wanted_40 rfl ?_
  refine go_iload_n (j := 1) (n := 42) rfl rfl dX11_wanted_41 rfl ?_
  refine go_imul (n := 43) dX11_wanted_42 rfl ?_
  refine go_iload_n (j := 2) (n := 44) rfl rfl dX11_wanted_43 rfl ?_
  refine go_iadd (n := 45) dX11_wanted_44 rfl ?_
  refine go_iload_n (j := 3) (n := 46) rfl rfl dX11_wanted_45 rfl ?_
  refine go_iload (j := 4) (n := 48) rfl dX11_wanted_46 rfl ?_
  refine go_iload (j := 5) (n := 50) rfl dX11_wanted_48 rfl ?_
  replace E := Option.bind_eq_some_iff.mp E; obtain ⟨a15, ea15, E⟩ := E
  obtain ⟨fa15, ga15⟩ := xrc_some ea15
  replace E := xb_some E; obtain ⟨v13, h14, ev13, E⟩ := E
  refine go_callV (y := yX10_note) (n := 53) (st := []) (as := [vi (w32 ((w32 (4 * l1)) + l2)), vi l3, vi l4, vi l5]) (stk9 := [vi v13]) (OX10_note ev13) yw_X10_note ci_10 ga15 wml_RX11_215 wim_X10_note wse_X10_note (Nat.le_of_ble_eq_true rfl) rfl ⟨Nat.le_of_ble_eq_true rfl, Nat.le_of_ble_eq_true rfl⟩ (Nat.le_of_ble_eq_true rfl) dX11_wanted_50 rfl (by cases fa15; rfl) rfl ?_
  cases E
  exact go_ret (go_ireturn rfl dX11_wanted_53)
theorem OXX11_wanted {F : Nat} {l0 : Nat} {l1 : Int} {l2 : Int} {l3 : Int} {l4 : Int} {l5 : Int} {h hf : HP} {r : String ⊕ Int} (e : X11_wanted F l0 l1 l2 l3 l4 l5 h = some (r, hf)) : OkX MX11_wanted [vr (some l0), vi l1, vi l2, vi l3, vi l4, vi l5] (rI r) h hf := fun K _ _ _ => SX11_wanted l0 l1 l2 l3 l4 l5 h e
theorem wml_RX11_160 : Cond.methodLink RX11 160 yX2_hasWay ∈ BW := bw_of 1338 (by decide +kernel) rfl
theorem fl_RX11_164 : FL RX11 164 2 18 10 false := ⟨RX2, TX2, ci_2, by decide, bw_of 335 (by decide +kernel) rfl, rfl, rfl⟩
abbrev MX11_way : MI := (RX11, cX11_way, 4, (some .boolean), 13, some [], "way")
noncomputable def X11_way (F : Nat)   (l0 : Nat) (l1 : Int) (l2 : Int)  (h : HP) : Option ((String ⊕ Int) × HP) :=
  (xgP h (some l0) 11 6 2).bind fun v1 =>
  (xgP h v1 4 12 2).bind fun v2 =>
  (xgI h v2 3 7 5).bind fun v3 =>
  xth (X11_needPlace F l1 v3 h) fun v4 h5 =>
  xth (X11_needNumber F l2 0 2 h5) fun v6 h7 =>
  (xgP h7 (some l0) 11 6 2).bind fun v8 =>
  (xgP h7 v8 4 12 2).bind fun v9 =>
  (xrc h7 v9 3 7).bind fun a12 =>
  xb (X3_at F a12 l1 h7) fun v10 h11 =>
  (xgI h11 v10 2 18 9).bind fun v13 =>
  if v13 = 0 then
    (xgI h11 v10 2 18 13).bind fun v15 =>
    if 0 < v15 then
      some (.inr 0, h11)
    else
      (xrc h11 v10 2 18).bind fun a19 =>
      xb (X2_hasWay F a19 l2 h11) fun v17 h18 =>
      if v17 = 0 then
        some (.inr 0, h18)
      else
        (xpI h18 v10 2 18 10 l2).bind fun h21 =>
        some (.inr 1, h21)
  else
    some (.inr 0, h11)
set_option maxRecDepth 100000 in
theorem SX11_way {K : Ctx} {F : Nat} {r : String ⊕ Int} {hf : HP}     (l0 : Nat) (l1 : Int) (l2 : Int)  (h : HP) (E : X11_way F   l0 l1 l2 h = some (r, hf)) : Go K MX11_way (QMX K (rI r) hf) hf 0 [(0, vr (some l0)), (1, vi l1), (2, vi l2)] [] h := by
  unfold X11_way at E
  refine go_iload_n (j := 1) (n := 1) rfl rfl dX11_way_0 rfl ?_
  refine go_aload_n (j := 0) (n := 2) rfl rfl dX11_way_1 rfl ?_
  replace E := Option.bind_eq_some_iff.mp E; obtain ⟨v1, ev1, E⟩ := E
  refine go_getP (n := 5) ev1 fl_RX11_23 rfl dX11_way_2 rfl ?_
  replace E := Option.bind_eq_some_iff.mp E; obtain ⟨v2, ev2, E⟩ := E
  refine go_getP (n := 8) ev2 fl_RX11_101 rfl dX11_way_5 rfl ?_
  replace E := Option.bind_eq_some_iff.mp E; obtain ⟨v3, ev3, E⟩ := E
  refine go_getI (n := 11) ev3 fl_RX11_105 rfl dX11_way_8 rfl ?_
  replace E := xth_some E; rcases E with ⟨x23, ev4, rfl⟩ | ⟨v4, h5, ev4, E⟩
  · exact go_callXSt (y := yX11_needPlace) (as := [vi l1, vi v3]) (st := []) (OXX11_needPlace ev4) yw_X11_needPlace wml_RX11_54 wst_X11_needPlace (Nat.le_of_ble_eq_true rfl) rfl ⟨Nat.le_of_ble_eq_true rfl, Nat.le_of_ble_eq_true rfl⟩ (Nat.le_of_ble_eq_true rfl) dX11_way_11 rfl rfl
  refine go_callXSr (y := yX11_needPlace) (n := 14) (st := []) (as := [vi l1, vi v3]) (stk9 := []) (OXX11_needPlace ev4) yw_X11_needPlace wml_RX11_54 wst_X11_needPlace (Nat.le_of_ble_eq_true rfl) rfl ⟨Nat.le_of_ble_eq_true rfl, Nat.le_of_ble_eq_true rfl⟩ (Nat.le_of_ble_eq_true rfl) dX11_way_11 rfl rfl rfl ?_
  refine go_iload_n (j := 2) (n := 15) rfl rfl dX11_way_14 rfl ?_
  refine go_iconst (z := 0) (n := 16) ⟨by decide, by decide⟩ dX11_way_15 rfl ?_
  refine go_iconst (z := 2) (n := 17) ⟨by decide, by decide⟩ dX11_way_16 rfl ?_
  replace E := xth_some E; rcases E with ⟨x22, ev6, rfl⟩ | ⟨v6, h7, ev6, E⟩
  · exact go_callXSt (y := yX11_needNumber) (as := [vi l2, vi 0, vi 2]) (st := []) (OXX11_needNumber ev6) yw_X11_needNumber wml_RX11_44 wst_X11_needNumber (Nat.le_of_ble_eq_true rfl) rfl ⟨Nat.le_of_ble_eq_true rfl, Nat.le_of_ble_eq_true rfl⟩ (Nat.le_of_ble_eq_true rfl) dX11_way_17 rfl rfl
  refine go_callXSr (y := yX11_needNumber) (n := 20) (st := []) (as := [vi l2, vi 0, vi 2]) (stk9 := []) (OXX11_needNumber ev6) yw_X11_needNumber wml_RX11_44 wst_X11_needNumber (Nat.le_of_ble_eq_true rfl) rfl ⟨Nat.le_of_ble_eq_true rfl, Nat.le_of_ble_eq_true rfl⟩ (Nat.le_of_ble_eq_true rfl) dX11_way_17 rfl rfl rfl ?_
  refine go_aload_n (j := 0) (n := 21) rfl rfl dX11_way_20 rfl ?_
  replace E := Option.bind_eq_some_iff.mp E; obtain ⟨v8, ev8, E⟩ := E
  refine go_getP (n := 24) ev8 fl_RX11_23 rfl dX11_way_21 rfl ?_
  replace E := Option.bind_eq_some_iff.mp E; obtain ⟨v9, ev9, E⟩ := E
  refine go_getP (n := 27) ev9 fl_RX11_101 rfl dX11_way_24 rfl ?_
  refine go_iload_n (j := 1) (n := 28) rfl rfl dX11_way_27 rfl ?_
  replace E := Option.bind_eq_some_iff.mp E; obtain ⟨a12, ea12, E⟩ := E
  obtain ⟨fa12, ga12⟩ := xrc_some ea12
  replace E := xb_some E; obtain ⟨v10, h11, ev10, E⟩ := E
  refine go_callV (y := yX3_at) (n := 31) (st := []) (as := [vi l1]) (stk9 := [vr v10]) (OX3_at ev10) yw_X3_at ci_3 ga12 wml_RX11_115 wim_X3_at wse_X3_at (Nat.le_of_ble_eq_true rfl) rfl ⟨Nat.le_of_ble_eq_true rfl, Nat.le_of_ble_eq_true rfl⟩ (Nat.le_of_ble_eq_true rfl) dX11_way_28 rfl (by cases fa12; rfl) rfl ?_
  refine go_astore_n (n := 32) (lv' := [(3, vr v10), (0, vr (some l0)), (1, vi l1), (2, vi l2)]) rfl dX11_way_31 rfl (Nat.le_of_ble_eq_true rfl) rfl ?_
  refine go_aload_n (j := 0) (n := 33) rfl rfl dX11_way_32 rfl ?_
  replace E := Option.bind_eq_some_iff.mp E; obtain ⟨v13, ev13, E⟩ := E
  refine go_getI (n := 36) ev13 fl_RX11_154 rfl dX11_way_33 rfl ?_
  refine go_if_ne (tgt := 54) (n := 39) dX11_way_36 rfl rfl (fun c14 => ?_) (fun c14 => ?_)
  · rw [if_neg c14] at E
    refine go_iconst (z := 0) (n := 55) ⟨by decide, by decide⟩ dX11_way_54 rfl ?_
    cases E
    exact go_ret (go_zreturn rfl (Or.inl rfl) dX11_way_55)
  · rw [if_pos c14] at E
    refine go_aload_n (j := 0) (n := 40) rfl rfl dX11_way_39 rfl ?_
    replace E := Option.bind_eq_some_iff.mp E; obtain ⟨v15, ev15, E⟩ := E
    refine go_getI (n := 43) ev15 fl_RX11_157 rfl dX11_way_40 rfl ?_
    refine go_if_gt (tgt := 54) (n := 46) dX11_way_43 rfl rfl (fun c16 => ?_) (fun c16 => ?_)
    · rw [if_pos c16] at E
      refine go_iconst (z := 0) (n := 55) ⟨by decide, by decide⟩ dX11_way_54 rfl ?_
      cases E
      exact go_ret (go_zreturn rfl (Or.inl rfl) dX11_way_55)
    · rw [if_neg c16] at E
      refine go_aload_n (j := 0) (n := 47) rfl rfl dX11_way_46 rfl ?_
      refine go_iload_n (j := 3) (n := 48) rfl rfl dX11_way_47 rfl ?_
      replace E := Option.bind_eq_some_iff.mp E; obtain ⟨a19, ea19, E⟩ := E
      obtain ⟨fa19, ga19⟩ := xrc_some ea19
      replace E := xb_some E; obtain ⟨v17, h18, ev17, E⟩ := E
      refine go_callV (y := yX2_hasWay) (n := 51) (st := []) (as := [vi l2]) (stk9 := [vi v17]) (OX2_hasWay ev17) yw_X2_hasWay ci_2 ga19 wml_RX11_160 wim_X2_hasWay wse_X2_hasWay (Nat.le_of_ble_eq_true rfl) rfl ⟨Nat.le_of_ble_eq_true rfl, Nat.le_of_ble_eq_true rfl⟩ (Nat.le_of_ble_eq_true rfl) dX11_way_48 rfl (by cases fa19; rfl) rfl ?_
      refine go_if_ne (tgt := 56) (n := 54) dX11_way_51 rfl rfl (fun c20 => ?_) (fun c20 => ?_)
      · rw [if_neg c20] at E
        refine go_aload_n (j := 0) (n := 57) rfl rfl dX11_way_56 rfl ?_
        refine go_iload_n (j := 3) (n := 58) rfl rfl dX11_way_57 rfl ?_
        replace E := Option.bind_eq_some_iff.mp E; obtain ⟨h21, eh21, E⟩ := E
        refine go_putI (n := 61) eh21 fl_RX11_164 rfl dX11_way_58 rfl ?_
        refine go_iconst (z := 1) (n := 62) ⟨by decide, by decide⟩ dX11_way_61 rfl ?_
        cases E
        exact go_ret (go_zreturn rfl (Or.inr rfl) dX11_way_62)
      · rw [if_pos c20] at E
        refine go_iconst (z := 0) (n := 55) ⟨by decide, by decide⟩ dX11_way_54 rfl ?_
        cases E
        exact go_ret (go_zreturn rfl (Or.inl rfl) dX11_way_55)
theorem OXX11_way {F : Nat} {l0 : Nat} {l1 : Int} {l2 : Int} {h hf : HP} {r : String ⊕ Int} (e : X11_way F l0 l1 l2 h = some (r, hf)) : OkX MX11_way [vr (some l0), vi l1, vi l2] (rI r) h hf := fun K _ _ _ => SX11_way l0 l1 l2 h e
abbrev MX6_chosen : MI := (RX6, cX6_chosen, 3, (some .int), 2, none, "chosen")
noncomputable def X6_chosen_L2 (F : Nat)   (k : Nat) : Nat → Int → Int → HP → Option (Int × HP) :=
  Nat.rec (motive := fun _ => Nat → Int → Int → HP → Option (Int × HP)) (fun _ _ _ _ => none) (fun _ rc2 l0 l1 l2 h =>
    (xgI h (some l0) 6 15 9).bind fun v1 =>
    if v1 ≤ l2 then
      some ((-1), h)
    else
      if 7 ≤ l2 then
        some ((-1), h)
      else
        (xgP h (some l0) 6 15 0).bind fun v4 =>
        (xaI h v4 100 l2).bind fun v5 =>
        if v5 = l1 then
          (xgP h (some l0) 6 15 2).bind fun v7 =>
          (xaI h v7 100 l2).bind fun v8 =>
          some (v8, h)
        else
          rc2 l0 l1 (w32 (l2 + 1)) h) k
theorem X6_chosen_L2_s (F : Nat)   (k : Nat) (l0 : Nat) (l1 : Int) (l2 : Int)  (h : HP) : X6_chosen_L2 F   (k + 1) l0 l1 l2 h =
    (xgI h (some l0) 6 15 9).bind fun v1 =>
    if v1 ≤ l2 then
      some ((-1), h)
    else
      if 7 ≤ l2 then
        some ((-1), h)
      else
        (xgP h (some l0) 6 15 0).bind fun v4 =>
        (xaI h v4 100 l2).bind fun v5 =>
        if v5 = l1 then
          (xgP h (some l0) 6 15 2).bind fun v7 =>
          (xaI h v7 100 l2).bind fun v8 =>
          some (v8, h)
        else
          (X6_chosen_L2 F k) l0 l1 (w32 (l2 + 1)) h := rfl
set_option maxRecDepth 100000 in
theorem SX6_chosen_L2 {K : Ctx} {F : Nat} {r : Int} {hf : HP}     : ∀ (k : Nat) (l0 : Nat) (l1 : Int) (l2 : Int)  (h : HP), X6_chosen_L2 F   k l0 l1 l2 h = some (r, hf) → Go K MX6_chosen (QM K (some (vi r)) hf) hf 2 [(0, vr (some l0)), (1, vi l1), (2, vi l2)] [] h := by
  intro k
  induction k with
  | zero => intro l0 l1 l2 h E; exact nomatch E
  | succ k hrc2 =>
    intro l0 l1 l2 h E
    rw [X6_chosen_L2_s] at E
    refine go_iload_n (j := 2) (n := 3) rfl rfl dX6_chosen_2 rfl ?_
    refine go_aload_n (j := 0) (n := 4) rfl rfl dX6_chosen_3 rfl ?_
    replace E := Option.bind_eq_some_iff.mp E; obtain ⟨v1, ev1, E⟩ := E
    refine go_getI (n := 7) ev1 fl_RX6_63 rfl dX6_chosen_4 rfl ?_
    refine go_icmp_ge (tgt := 39) (n := 10) dX6_chosen_7 rfl rfl (fun c2 => ?_) (fun c2 => ?_)
    · rw [if_pos c2] at E
      refine go_iconst (z := (-1)) (n := 40) ⟨by decide, by decide⟩ dX6_chosen_39 rfl ?_
      cases E
      exact go_ireturn rfl dX6_chosen_40
    · rw [if_neg c2] at E
      refine go_iload_n (j := 2) (n := 11) rfl rfl dX6_chosen_10 rfl ?_
      refine go_bipush (z := 7) (n := 13) ⟨by decide, by decide⟩ dX6_chosen_11 rfl ?_
      refine go_icmp_ge (tgt := 39) (n := 16) dX6_chosen_13 rfl rfl (fun c3 => ?_) (fun c3 => ?_)
      · rw [if_pos c3] at E
        refine go_iconst (z := (-1)) (n := 40) ⟨by decide, by decide⟩ dX6_chosen_39 rfl ?_
        cases E
        exact go_ireturn rfl dX6_chosen_40
      · rw [if_neg c3] at E
        refine go_aload_n (j := 0) (n := 17) rfl rfl dX6_chosen_16 rfl ?_
        replace E := Option.bind_eq_some_iff.mp E; obtain ⟨v4, ev4, E⟩ := E
        refine go_getP (n := 20) ev4 fl_RX6_9 rfl dX6_chosen_17 rfl ?_
        refine go_iload_n (j := 2) (n := 21) rfl rfl dX6_chosen_20 rfl ?_
        replace E := Option.bind_eq_some_iff.mp E; obtain ⟨v5, ev5, E⟩ := E
        refine go_iaload (n := 22) ev5 dX6_chosen_21 rfl ?_
        refine go_iload_n (j := 1) (n := 23) rfl rfl dX6_chosen_22 rfl ?_
        refine go_icmp_ne (tgt := 33) (n := 26) dX6_chosen_23 rfl rfl (fun c6 => ?_) (fun c6 => ?_)
        · rw [if_neg c6] at E
          refine go_iinc (j := 2) (n := 36) (lv' := [(2, vi (w32 (l2 + 1))), (0, vr (some l0)), (1, vi l1)]) rfl dX6_chosen_33 rfl (Nat.le_of_ble_eq_true rfl) rfl ?_
          refine go_goto (tgt := 2) dX6_chosen_36 rfl ?_
          refine go_pick (lv' := [(0, vr (some l0)), (1, vi l1), (2, vi (w32 (l2 + 1)))]) [1, 2, 0] rfl ?_
          exact hrc2 _ _ _ _ E
        · rw [if_pos c6] at E
          refine go_aload_n (j := 0) (n := 27) rfl rfl dX6_chosen_26 rfl ?_
          replace E := Option.bind_eq_some_iff.mp E; obtain ⟨v7, ev7, E⟩ := E
          refine go_getP (n := 30) ev7 fl_RX6_18 rfl dX6_chosen_27 rfl ?_
          refine go_iload_n (j := 2) (n := 31) rfl rfl dX6_chosen_30 rfl ?_
          replace E := Option.bind_eq_some_iff.mp E; obtain ⟨v8, ev8, E⟩ := E
          refine go_iaload (n := 32) ev8 dX6_chosen_31 rfl ?_
          cases E
          exact go_ireturn rfl dX6_chosen_32
noncomputable def X6_chosen (F : Nat)   (l0 : Nat) (l1 : Int)  (h : HP) : Option (Int × HP) :=
  X6_chosen_L2 F F l0 l1 0 h
set_option maxRecDepth 100000 in
theorem SX6_chosen {K : Ctx} {F : Nat} {r : Int} {hf : HP}     (l0 : Nat) (l1 : Int)  (h : HP) (E : X6_chosen F   l0 l1 h = some (r, hf)) : Go K MX6_chosen (QM K (some (vi r)) hf) hf 0 [(0, vr (some l0)), (1, vi l1)] [] h := by
  unfold X6_chosen at E
  refine go_iconst (z := 0) (n := 1) ⟨by decide, by decide⟩ dX6_chosen_0 rfl ?_
  refine go_istore_n (n := 2) (lv' := [(2, vi 0), (0, vr (some l0)), (1, vi l1)]) rfl dX6_chosen_1 rfl (Nat.le_of_ble_eq_true rfl) rfl ?_
  refine go_pick (lv' := [(0, vr (some l0)), (1, vi l1), (2, vi 0)]) [1, 2, 0] rfl ?_
  exact SX6_chosen_L2     F _ _ _ _ E
theorem OX6_chosen {F : Nat} {l0 : Nat} {l1 : Int} {h hf : HP} {r : Int} (e : X6_chosen F l0 l1 h = some (r, hf)) : Ok MX6_chosen [vr (some l0), vi l1] (some (vi r)) h hf := fun K _ _ _ => SX6_chosen l0 l1 h e
theorem yw_X6_chosen : YW yX6_chosen cX6_chosen 3 (some .int) 1 := ⟨bw_of 1727 (by decide +kernel) rfl, bw_of 128 (by decide +kernel) rfl, ⟨by decide +kernel, by decide +kernel, by decide +kernel⟩, by decide +kernel⟩
theorem wml_RX11_290 : Cond.methodLink RX11 290 yX6_chosen ∈ BW := bw_of 1724 (by decide +kernel) rfl
theorem wim_X6_chosen : Cond.instanceMethod yX6_chosen ∈ BW := bw_of 1725 (by decide +kernel) rfl
theorem wse_X6_chosen : Cond.selects RX6 yX6_chosen yX6_chosen ∈ BW := bw_of 1726 (by decide +kernel) rfl
abbrev MX11_which : MI := (RX11, cX11_which, 4, (some .int), 106, some [], "which")
noncomputable def X11_which (F : Nat)   (l0 : Nat) (l1 : Int) (l2 : Int) (l3 : Int)  (h : HP) : Option ((String ⊕ Int) × HP) :=
  (xgP h (some l0) 11 6 2).bind fun v1 =>
  (xgP h v1 4 12 2).bind fun v2 =>
  (xgI h v2 3 7 5).bind fun v3 =>
  xth (X11_needPlace F l3 v3 h) fun v4 h5 =>
  xth (X11_needNumber F l1 0 1000 h5) fun v6 h7 =>
  xth (X11_needNumber F l2 0 1000 h7) fun v8 h9 =>
  (xgP h9 (some l0) 11 6 5).bind fun v10 =>
  (xgP h9 (some l0) 11 6 2).bind fun v11 =>
  (xgP h9 v11 4 12 2).bind fun v12 =>
  (xrc h9 v10 6 15).bind fun a15 =>
  xb (X6_bestWorth F a15 v12 l1 l2 h9) fun v13 h14 =>
  (xgP h14 (some l0) 11 6 5).bind fun v16 =>
  (xrc h14 v16 6 15).bind fun a19 =>
  xb (X6_chosen F a19 l3 h14) fun v17 h18 =>
  some (.inr v17, h18)
set_option maxRecDepth 100000 in
theorem SX11_which {K : Ctx} {F : Nat} {r : String ⊕ Int} {hf : HP}     (l0 : Nat) (l1 : Int) (l2 : Int) (l3 : Int)  (h : HP) (E : X11_which F   l0 l1 l2 l3 h = some (r, hf)) : Go K MX11_which (QMX K (rI r) hf) hf 0 [(0, vr (some l0)), (1, vi l1), (2, vi l2), (3, vi l3)] [] h := by
  unfold X11_which at E
  refine go_iload_n (j := 3) (n := 1) rfl rfl dX11_which_0 rfl ?_
  refine go_aload_n (j := 0) (n := 2) rfl rfl dX11_which_1 rfl ?_
  replace E := Option.bind_eq_some_iff.mp E; obtain ⟨v1, ev1, E⟩ := E
  refine go_getP (n := 5) ev1 fl_RX11_23 rfl dX11_which_2 rfl ?_
  replace E := Option.bind_eq_some_iff.mp E; obtain ⟨v2, ev2, E⟩ := E
  refine go_getP (n := 8) ev2 fl_RX11_101 rfl dX11_which_5 rfl ?_
  replace E := Option.bind_eq_some_iff.mp E; obtain ⟨v3, ev3, E⟩ := E
  refine go_getI (n := 11) ev3 fl_RX11_105 rfl dX11_which_8 rfl ?_
  replace E := xth_some E; rcases E with ⟨x22, ev4, rfl⟩ | ⟨v4, h5, ev4, E⟩
  · exact go_callXSt (y := yX11_needPlace) (as := [vi l3, vi v3]) (st := []) (OXX11_needPlace ev4) yw_X11_needPlace wml_RX11_54 wst_X11_needPlace (Nat.le_of_ble_eq_true rfl) rfl ⟨Nat.le_of_ble_eq_true rfl, Nat.le_of_ble_eq_true rfl⟩ (Nat.le_of_ble_eq_true rfl) dX11_which_11 rfl rfl
  refine go_callXSr (y := yX11_needPlace) (n := 14) (st := []) (as := [vi l3, vi v3]) (stk9 := []) (OXX11_needPlace ev4) yw_X11_needPlace wml_RX11_54 wst_X11_needPlace (Nat.le_of_ble_eq_true rfl) rfl ⟨Nat.le_of_ble_eq_true rfl, Nat.le_of_ble_eq_true rfl⟩ (Nat.le_of_ble_eq_true rfl) dX11_which_11 rfl rfl rfl ?_
  refine go_iload_n (j := 1) (n := 15) rfl rfl dX11_which_14 rfl ?_
  refine go_iconst (z := 0) (n := 16) ⟨by decide, by decide⟩ dX11_which_15 rfl ?_
  refine go_sipush (z := 1000) (n := 19) ⟨by decide, by decide⟩ dX11_which_16 rfl ?_
  replace E := xth_some E; rcases E with ⟨x21, ev6, rfl⟩ | ⟨v6, h7, ev6, E⟩
  · exact go_callXSt (y := yX11_needNumber) (as := [vi l1, vi 0, vi 1000]) (st := []) (OXX11_needNumber ev6) yw_X11_needNumber wml_RX11_44 wst_X11_needNumber (Nat.le_of_ble_eq_true rfl) rfl ⟨Nat.le_of_ble_eq_true rfl, Nat.le_of_ble_eq_true rfl⟩ (Nat.le_of_ble_eq_true rfl) dX11_which_19 rfl rfl
  refine go_callXSr (y := yX11_needNumber) (n := 22) (st := []) (as := [vi l1, vi 0, vi 1000]) (stk9 := []) (OXX11_needNumber ev6) yw_X11_needNumber wml_RX11_44 wst_X11_needNumber (Nat.le_of_ble_eq_true rfl) rfl ⟨Nat.le_of_ble_eq_true rfl, Nat.le_of_ble_eq_true rfl⟩ (Nat.le_of_ble_eq_true rfl) dX11_which_19 rfl rfl rfl ?_
  refine go_iload_n (j := 2) (n := 23) rfl rfl dX11_which_22 rfl ?_
  refine go_iconst (z := 0) (n := 24) ⟨by decide, by decide⟩ dX11_which_23 rfl ?_
  refine go_sipush (z := 1000) (n := 27) ⟨by decide, by decide⟩ dX11_which_24 rfl ?_
  replace E := xth_some E; rcases E with ⟨x20, ev8, rfl⟩ | ⟨v8, h9, ev8, E⟩
  · exact go_callXSt (y := yX11_needNumber) (as := [vi l2, vi 0, vi 1000]) (st := []) (OXX11_needNumber ev8) yw_X11_needNumber wml_RX11_44 wst_X11_needNumber (Nat.le_of_ble_eq_true rfl) rfl ⟨Nat.le_of_ble_eq_true rfl, Nat.le_of_ble_eq_true rfl⟩ (Nat.le_of_ble_eq_true rfl) dX11_which_27 rfl rfl
  refine go_callXSr (y := yX11_needNumber) (n := 30) (st := []) (as := [vi l2, vi 0, vi 1000]) (stk9 := []) (OXX11_needNumber ev8) yw_X11_needNumber wml_RX11_44 wst_X11_needNumber (Nat.le_of_ble_eq_true rfl) rfl ⟨Nat.le_of_ble_eq_true rfl, Nat.le_of_ble_eq_true rfl⟩ (Nat.le_of_ble_eq_true rfl) dX11_which_27 rfl rfl rfl ?_
  refine go_aload_n (j := 0) (n := 31) rfl rfl dX11_which_30 rfl ?_
  replace E := Option.bind_eq_some_iff.mp E; obtain ⟨v10, ev10, E⟩ := E
  refine go_getP (n := 34) ev10 fl_RX11_33 rfl dX11_which_31 rfl ?_
  refine go_aload_n (j := 0) (n := 35) rfl rfl dX11_which_34 rfl ?_
  replace E := Option.bind_eq_some_iff.mp E; obtain ⟨v11, ev11, E⟩ := E
  refine go_getP (n := 38) ev11 fl_RX11_23 rfl dX11_which_35 rfl ?_
  replace E := Option.bind_eq_some_iff.mp E; obtain ⟨v12, ev12, E⟩ := E
  refine go_getP (n := 41) ev12 fl_RX11_101 rfl dX11_which_38 rfl ?_
  refine go_iload_n (j := 1) (n := 42) rfl rfl dX11_which_41 rfl ?_
  refine go_iload_n (j := 2) (n := 43) rfl rfl dX11_which_42 rfl ?_
  replace E := Option.bind_eq_some_iff.mp E; obtain ⟨a15, ea15, E⟩ := E
  obtain ⟨fa15, ga15⟩ := xrc_some ea15
  replace E := xb_some E; obtain ⟨v13, h14, ev13, E⟩ := E
  refine go_callV (y := yX6_bestWorth) (n := 46) (st := []) (as := [vr v12, vi l1, vi l2]) (stk9 := [vi v13]) (OX6_bestWorth ev13) yw_X6_bestWorth ci_6 ga15 wml_RX11_286 wim_X6_bestWorth wse_X6_bestWorth (Nat.le_of_ble_eq_true rfl) rfl ⟨Nat.le_of_ble_eq_true rfl, Nat.le_of_ble_eq_true rfl⟩ (Nat.le_of_ble_eq_true rfl) dX11_which_43 rfl (by cases fa15; rfl) rfl ?_
  refine go_pop (n := 47) rfl dX11_which_46 rfl ?_
  refine go_aload_n (j := 0) (n := 48) rfl rfl dX11_which_47 rfl ?_
  replace E := Option.bind_eq_some_iff.mp E; obtain ⟨v16, ev16, E⟩ := E
  refine go_getP (n := 51) ev16 fl_RX11_33 rfl dX11_which_48 rfl ?_
  refine go_iload_n (j := 3) (n := 52) rfl rfl dX11_which_51 rfl ?_
  replace E := Option.bind_eq_some_iff.mp E; obtain ⟨a19, ea19, E⟩ := E
  obtain ⟨fa19, ga19⟩ := xrc_some ea19
  replace E := xb_some E; obtain ⟨v17, h18, ev17, E⟩ := E
  refine go_callV (y := yX6_chosen) (n := 55) (st := []) (as := [vi l3]) (stk9 := [vi v17]) (OX6_chosen ev17) yw_X6_chosen ci_6 ga19 wml_RX11_290 wim_X6_chosen wse_X6_chosen (Nat.le_of_ble_eq_true rfl) rfl ⟨Nat.le_of_ble_eq_true rfl, Nat.le_of_ble_eq_true rfl⟩ (Nat.le_of_ble_eq_true rfl) dX11_which_52 rfl (by cases fa19; rfl) rfl ?_
  cases E
  exact go_ret (go_ireturn rfl dX11_which_55)
theorem OXX11_which {F : Nat} {l0 : Nat} {l1 : Int} {l2 : Int} {l3 : Int} {h hf : HP} {r : String ⊕ Int} (e : X11_which F l0 l1 l2 l3 h = some (r, hf)) : OkX MX11_which [vr (some l0), vi l1, vi l2, vi l3] (rI r) h hf := fun K _ _ _ => SX11_which l0 l1 l2 l3 h e
abbrev MX11_word : MI := (RX11, cX11_word, 2, (some .int), 13, some [], "word")
noncomputable def X11_word (F : Nat)   (l0 : Nat) (l1 : Int)  (h : HP) : Option ((String ⊕ Int) × HP) :=
  xth (X11_needPlace F l1 64 h) fun v1 h2 =>
  (xgP h2 (some l0) 11 6 2).bind fun v3 =>
  (xgP h2 v3 4 12 1).bind fun v4 =>
  (xrc h2 v4 7 10).bind fun a7 =>
  xb (X7_wordAt F a7 l1 h2) fun v5 h6 =>
  some (.inr v5, h6)
set_option maxRecDepth 100000 in
theorem SX11_word {K : Ctx} {F : Nat} {r : String ⊕ Int} {hf : HP}     (l0 : Nat) (l1 : Int)  (h : HP) (E : X11_word F   l0 l1 h = some (r, hf)) : Go K MX11_word (QMX K (rI r) hf) hf 0 [(0, vr (some l0)), (1, vi l1)] [] h := by
  unfold X11_word at E
  refine go_iload_n (j := 1) (n := 1) rfl rfl dX11_word_0 rfl ?_
  refine go_bipush (z := 64) (n := 3) ⟨by decide, by decide⟩ dX11_word_1 rfl ?_
  replace E := xth_some E; rcases E with ⟨x8, ev1, rfl⟩ | ⟨v1, h2, ev1, E⟩
  · exact go_callXSt (y := yX11_needPlace) (as := [vi l1, vi 64]) (st := []) (OXX11_needPlace ev1) yw_X11_needPlace wml_RX11_54 wst_X11_needPlace (Nat.le_of_ble_eq_true rfl) rfl ⟨Nat.le_of_ble_eq_true rfl, Nat.le_of_ble_eq_true rfl⟩ (Nat.le_of_ble_eq_true rfl) dX11_word_3 rfl rfl
  refine go_callXSr (y := yX11_needPlace) (n := 6) (st := []) (as := [vi l1, vi 64]) (stk9 := []) (OXX11_needPlace ev1) yw_X11_needPlace wml_RX11_54 wst_X11_needPlace (Nat.le_of_ble_eq_true rfl) rfl ⟨Nat.le_of_ble_eq_true rfl, Nat.le_of_ble_eq_true rfl⟩ (Nat.le_of_ble_eq_true rfl) dX11_word_3 rfl rfl rfl ?_
  refine go_aload_n (j := 0) (n := 7) rfl rfl dX11_word_6 rfl ?_
  replace E := Option.bind_eq_some_iff.mp E; obtain ⟨v3, ev3, E⟩ := E
  refine go_getP (n := 10) ev3 fl_RX11_23 rfl dX11_word_7 rfl ?_
  replace E := Option.bind_eq_some_iff.mp E; obtain ⟨v4, ev4, E⟩ := E
  refine go_getP (n := 13) ev4 fl_RX11_60 rfl dX11_word_10 rfl ?_
  refine go_iload_n (j := 1) (n := 14) rfl rfl dX11_word_13 rfl ?_
  replace E := Option.bind_eq_some_iff.mp E; obtain ⟨a7, ea7, E⟩ := E
  obtain ⟨fa7, ga7⟩ := xrc_some ea7
  replace E := xb_some E; obtain ⟨v5, h6, ev5, E⟩ := E
  refine go_callV (y := yX7_wordAt) (n := 17) (st := []) (as := [vi l1]) (stk9 := [vi v5]) (OX7_wordAt ev5) yw_X7_wordAt ci_7 ga7 wml_RX11_74 wim_X7_wordAt wse_X7_wordAt (Nat.le_of_ble_eq_true rfl) rfl ⟨Nat.le_of_ble_eq_true rfl, Nat.le_of_ble_eq_true rfl⟩ (Nat.le_of_ble_eq_true rfl) dX11_word_14 rfl (by cases fa7; rfl) rfl ?_
  cases E
  exact go_ret (go_ireturn rfl dX11_word_17)
theorem OXX11_word {F : Nat} {l0 : Nat} {l1 : Int} {h hf : HP} {r : String ⊕ Int} (e : X11_word F l0 l1 h = some (r, hf)) : OkX MX11_word [vr (some l0), vi l1] (rI r) h hf := fun K _ _ _ => SX11_word l0 l1 h e
theorem wml_RX11_142 : Cond.methodLink RX11 142 yX2_reads ∈ BW := bw_of 1322 (by decide +kernel) rfl
abbrev MX11_words : MI := (RX11, cX11_words, 4, (some .long), 13, some [], "words")
noncomputable def X11_words (F : Nat)   (l0 : Nat) (l1 : Int) (l2 : Int)  (h : HP) : Option ((String ⊕ Int) × HP) :=
  (xgP h (some l0) 11 6 2).bind fun v1 =>
  (xgP h v1 4 12 2).bind fun v2 =>
  (xgI h v2 3 7 5).bind fun v3 =>
  xth (X11_needPlace F l1 v3 h) fun v4 h5 =>
  (xgP h5 (some l0) 11 6 2).bind fun v6 =>
  (xgP h5 v6 4 12 2).bind fun v7 =>
  (xrc h5 v7 3 7).bind fun a10 =>
  xb (X3_at F a10 l1 h5) fun v8 h9 =>
  if l2 = 0 then
    (xrc h9 v8 2 18).bind fun a14 =>
    xb (X2_reads F a14 h9) fun v12 h13 =>
    some (.inr v12, h13)
  else
    (xrc h9 v8 2 18).bind fun a17 =>
    xb (X2_writes F a17 h9) fun v15 h16 =>
    some (.inr v15, h16)
set_option maxRecDepth 100000 in
theorem SX11_words {K : Ctx} {F : Nat} {r : String ⊕ Int} {hf : HP}     (l0 : Nat) (l1 : Int) (l2 : Int)  (h : HP) (E : X11_words F   l0 l1 l2 h = some (r, hf)) : Go K MX11_words (QMX K (rL r) hf) hf 0 [(0, vr (some l0)), (1, vi l1), (2, vi l2)] [] h := by
  unfold X11_words at E
  refine go_iload_n (j := 1) (n := 1) rfl rfl dX11_words_0 rfl ?_
  refine go_aload_n (j := 0) (n := 2) rfl rfl dX11_words_1 rfl ?_
  replace E := Option.bind_eq_some_iff.mp E; obtain ⟨v1, ev1, E⟩ := E
  refine go_getP (n := 5) ev1 fl_RX11_23 rfl dX11_words_2 rfl ?_
  replace E := Option.bind_eq_some_iff.mp E; obtain ⟨v2, ev2, E⟩ := E
  refine go_getP (n := 8) ev2 fl_RX11_101 rfl dX11_words_5 rfl ?_
  replace E := Option.bind_eq_some_iff.mp E; obtain ⟨v3, ev3, E⟩ := E
  refine go_getI (n := 11) ev3 fl_RX11_105 rfl dX11_words_8 rfl ?_
  replace E := xth_some E; rcases E with ⟨x18, ev4, rfl⟩ | ⟨v4, h5, ev4, E⟩
  · exact go_callXSt (y := yX11_needPlace) (as := [vi l1, vi v3]) (st := []) (OXX11_needPlace ev4) yw_X11_needPlace wml_RX11_54 wst_X11_needPlace (Nat.le_of_ble_eq_true rfl) rfl ⟨Nat.le_of_ble_eq_true rfl, Nat.le_of_ble_eq_true rfl⟩ (Nat.le_of_ble_eq_true rfl) dX11_words_11 rfl rfl
  refine go_callXSr (y := yX11_needPlace) (n := 14) (st := []) (as := [vi l1, vi v3]) (stk9 := []) (OXX11_needPlace ev4) yw_X11_needPlace wml_RX11_54 wst_X11_needPlace (Nat.le_of_ble_eq_true rfl) rfl ⟨Nat.le_of_ble_eq_true rfl, Nat.le_of_ble_eq_true rfl⟩ (Nat.le_of_ble_eq_true rfl) dX11_words_11 rfl rfl rfl ?_
  refine go_aload_n (j := 0) (n := 15) rfl rfl dX11_words_14 rfl ?_
  replace E := Option.bind_eq_some_iff.mp E; obtain ⟨v6, ev6, E⟩ := E
  refine go_getP (n := 18) ev6 fl_RX11_23 rfl dX11_words_15 rfl ?_
  replace E := Option.bind_eq_some_iff.mp E; obtain ⟨v7, ev7, E⟩ := E
  refine go_getP (n := 21) ev7 fl_RX11_101 rfl dX11_words_18 rfl ?_
  refine go_iload_n (j := 1) (n := 22) rfl rfl dX11_words_21 rfl ?_
  replace E := Option.bind_eq_some_iff.mp E; obtain ⟨a10, ea10, E⟩ := E
  obtain ⟨fa10, ga10⟩ := xrc_some ea10
  replace E := xb_some E; obtain ⟨v8, h9, ev8, E⟩ := E
  refine go_callV (y := yX3_at) (n := 25) (st := []) (as := [vi l1]) (stk9 := [vr v8]) (OX3_at ev8) yw_X3_at ci_3 ga10 wml_RX11_115 wim_X3_at wse_X3_at (Nat.le_of_ble_eq_true rfl) rfl ⟨Nat.le_of_ble_eq_true rfl, Nat.le_of_ble_eq_true rfl⟩ (Nat.le_of_ble_eq_true rfl) dX11_words_22 rfl (by cases fa10; rfl) rfl ?_
  refine go_astore_n (n := 26) (lv' := [(3, vr v8), (0, vr (some l0)), (1, vi l1), (2, vi l2)]) rfl dX11_words_25 rfl (Nat.le_of_ble_eq_true rfl) rfl ?_
  refine go_iload_n (j := 3) (n := 27) rfl rfl dX11_words_26 rfl ?_
  refine go_if_eq (tgt := 37) (n := 30) dX11_words_27 rfl rfl (fun c11 => ?_) (fun c11 => ?_)
  · rw [if_pos c11] at E
    refine go_aload_n (j := 0) (n := 38) rfl rfl dX11_words_37 rfl ?_
    replace E := Option.bind_eq_some_iff.mp E; obtain ⟨a14, ea14, E⟩ := E
    obtain ⟨fa14, ga14⟩ := xrc_some ea14
    replace E := xb_some E; obtain ⟨v12, h13, ev12, E⟩ := E
    refine go_callV (y := yX2_reads) (n := 41) (st := []) (as := []) (stk9 := [vl v12]) (OX2_reads ev12) yw_X2_reads ci_2 ga14 wml_RX11_142 wim_X2_reads wse_X2_reads (Nat.le_of_ble_eq_true rfl) rfl ⟨Nat.le_of_ble_eq_true rfl, Nat.le_of_ble_eq_true rfl⟩ (Nat.le_of_ble_eq_true rfl) dX11_words_38 rfl (by cases fa14; rfl) rfl ?_
    cases E
    exact go_ret (go_lreturn rfl dX11_words_41)
  · rw [if_neg c11] at E
    refine go_aload_n (j := 0) (n := 31) rfl rfl dX11_words_30 rfl ?_
    replace E := Option.bind_eq_some_iff.mp E; obtain ⟨a17, ea17, E⟩ := E
    obtain ⟨fa17, ga17⟩ := xrc_some ea17
    replace E := xb_some E; obtain ⟨v15, h16, ev15, E⟩ := E
    refine go_callV (y := yX2_writes) (n := 34) (st := []) (as := []) (stk9 := [vl v15]) (OX2_writes ev15) yw_X2_writes ci_2 ga17 wml_RX11_138 wim_X2_writes wse_X2_writes (Nat.le_of_ble_eq_true rfl) rfl ⟨Nat.le_of_ble_eq_true rfl, Nat.le_of_ble_eq_true rfl⟩ (Nat.le_of_ble_eq_true rfl) dX11_words_31 rfl (by cases fa17; rfl) rfl ?_
    refine go_goto (tgt := 41) dX11_words_34 rfl ?_
    cases E
    exact go_ret (go_lreturn rfl dX11_words_41)
theorem OXX11_words {F : Nat} {l0 : Nat} {l1 : Int} {l2 : Int} {h hf : HP} {r : String ⊕ Int} (e : X11_words F l0 l1 l2 h = some (r, hf)) : OkX MX11_words [vr (some l0), vi l1, vi l2] (rL r) h hf := fun K _ _ _ => SX11_words l0 l1 l2 h e
abbrev MX5_hire : MI := (RX5, cX5_hire, 3, (some .int), 2, none, "hire")
noncomputable def X5_hire (F : Nat)   (l0 : Nat) (l1 : Int) (l2 : Int)  (h : HP) : Option (Int × HP) :=
  (xgI h (some l0) 5 6 4).bind fun v1 =>
  if v1 < 0 then
    some ((-1), h)
  else
    (xgI h (some l0) 5 6 4).bind fun v3 =>
    if v3 < 20 then
      (xgP h (some l0) 5 6 0).bind fun v5 =>
      (xgI h (some l0) 5 6 4).bind fun v6 =>
      (xsI h v5 v6 l1).bind fun h7 =>
      (xgP h7 (some l0) 5 6 1).bind fun v8 =>
      (xgI h7 (some l0) 5 6 4).bind fun v9 =>
      (xsI h7 v8 v9 l2).bind fun h10 =>
      (xgP h10 (some l0) 5 6 2).bind fun v11 =>
      (xgI h10 (some l0) 5 6 4).bind fun v12 =>
      (xsI h10 v11 v12 (-1)).bind fun h13 =>
      (xgP h13 (some l0) 5 6 3).bind fun v14 =>
      (xgI h13 (some l0) 5 6 4).bind fun v15 =>
      (xsI h13 v14 v15 0).bind fun h16 =>
      (xgI h16 (some l0) 5 6 4).bind fun v17 =>
      (xpI h16 (some l0) 5 6 4 (w32 (v17 + 1))).bind fun h18 =>
      (xgI h18 (some l0) 5 6 4).bind fun v19 =>
      some (w32 (v19 - 1), h18)
    else
      some ((-1), h)
set_option maxRecDepth 100000 in
theorem SX5_hire {K : Ctx} {F : Nat} {r : Int} {hf : HP}     (l0 : Nat) (l1 : Int) (l2 : Int)  (h : HP) (E : X5_hire F   l0 l1 l2 h = some (r, hf)) : Go K MX5_hire (QM K (some (vi r)) hf) hf 0 [(0, vr (some l0)), (1, vi l1), (2, vi l2)] [] h := by
  unfold X5_hire at E
  refine go_aload_n (j := 0) (n := 1) rfl rfl dX5_hire_0 rfl ?_
  replace E := Option.bind_eq_some_iff.mp E; obtain ⟨v1, ev1, E⟩ := E
  refine go_getI (n := 4) ev1 fl_RX5_24 rfl dX5_hire_1 rfl ?_
  refine go_if_lt (tgt := 16) (n := 7) dX5_hire_4 rfl rfl (fun c2 => ?_) (fun c2 => ?_)
  · rw [if_pos c2] at E
    refine go_iconst (z := (-1)) (n := 17) ⟨by decide, by decide⟩ dX5_hire_16 rfl ?_
    cases E
    exact go_ireturn rfl dX5_hire_17
  · rw [if_neg c2] at E
    refine go_aload_n (j := 0) (n := 8) rfl rfl dX5_hire_7 rfl ?_
    replace E := Option.bind_eq_some_iff.mp E; obtain ⟨v3, ev3, E⟩ := E
    refine go_getI (n := 11) ev3 fl_RX5_24 rfl dX5_hire_8 rfl ?_
    refine go_bipush (z := 20) (n := 13) ⟨by decide, by decide⟩ dX5_hire_11 rfl ?_
    refine go_icmp_lt (tgt := 18) (n := 16) dX5_hire_13 rfl rfl (fun c4 => ?_) (fun c4 => ?_)
    · rw [if_pos c4] at E
      refine go_aload_n (j := 0) (n := 19) rfl rfl dX5_hire_18 rfl ?_
      replace E := Option.bind_eq_some_iff.mp E; obtain ⟨v5, ev5, E⟩ := E
      refine go_getP (n := 22) ev5 fl_RX5_9 rfl dX5_hire_19 rfl ?_
      refine go_aload_n (j := 0) (n := 23) rfl rfl dX5_hire_22 rfl ?_
      replace E := Option.bind_eq_some_iff.mp E; obtain ⟨v6, ev6, E⟩ := E
      refine go_getI (n := 26) ev6 fl_RX5_24 rfl dX5_hire_23 rfl ?_
      refine go_iload_n (j := 1) (n := 27) rfl rfl dX5_hire_26 rfl ?_
      replace E := Option.bind_eq_some_iff.mp E; obtain ⟨h7, eh7, E⟩ := E
      refine go_iastore (n := 28) eh7 dX5_hire_27 rfl ?_
      refine go_aload_n (j := 0) (n := 29) rfl rfl dX5_hire_28 rfl ?_
      replace E := Option.bind_eq_some_iff.mp E; obtain ⟨v8, ev8, E⟩ := E
      refine go_getP (n := 32) ev8 fl_RX5_15 rfl dX5_hire_29 rfl ?_
      refine go_aload_n (j := 0) (n := 33) rfl rfl dX5_hire_32 rfl ?_
      replace E := Option.bind_eq_some_iff.mp E; obtain ⟨v9, ev9, E⟩ := E
      refine go_getI (n := 36) ev9 fl_RX5_24 rfl dX5_hire_33 rfl ?_
      refine go_iload_n (j := 2) (n := 37) rfl rfl dX5_hire_36 rfl ?_
      replace E := Option.bind_eq_some_iff.mp E; obtain ⟨h10, eh10, E⟩ := E
      refine go_iastore (n := 38) eh10 dX5_hire_37 rfl ?_
      refine go_aload_n (j := 0) (n := 39) rfl rfl dX5_hire_38 rfl ?_
      replace E := Option.bind_eq_some_iff.mp E; obtain ⟨v11, ev11, E⟩ := E
      refine go_getP (n := 42) ev11 fl_RX5_18 rfl dX5_hire_39 rfl ?_
      refine go_aload_n (j := 0) (n := 43) rfl rfl dX5_hire_42 rfl ?_
      replace E := Option.bind_eq_some_iff.mp E; obtain ⟨v12, ev12, E⟩ := E
      refine go_getI (n := 46) ev12 fl_RX5_24 rfl dX5_hire_43 rfl ?_
      refine go_iconst (z := (-1)) (n := 47) ⟨by decide, by decide⟩ dX5_hire_46 rfl ?_
      replace E := Option.bind_eq_some_iff.mp E; obtain ⟨h13, eh13, E⟩ := E
      refine go_iastore (n := 48) eh13 dX5_hire_47 rfl ?_
      refine go_aload_n (j := 0) (n := 49) rfl rfl dX5_hire_48 rfl ?_
      replace E := Option.bind_eq_some_iff.mp E; obtain ⟨v14, ev14, E⟩ := E
      refine go_getP (n := 52) ev14 fl_RX5_21 rfl dX5_hire_49 rfl ?_
      refine go_aload_n (j := 0) (n := 53) rfl rfl dX5_hire_52 rfl ?_
      replace E := Option.bind_eq_some_iff.mp E; obtain ⟨v15, ev15, E⟩ := E
      refine go_getI (n := 56) ev15 fl_RX5_24 rfl dX5_hire_53 rfl ?_
      refine go_iconst (z := 0) (n := 57) ⟨by decide, by decide⟩ dX5_hire_56 rfl ?_
      replace E := Option.bind_eq_some_iff.mp E; obtain ⟨h16, eh16, E⟩ := E
      refine go_iastore (n := 58) eh16 dX5_hire_57 rfl ?_
      refine go_aload_n (j := 0) (n := 59) rfl rfl dX5_hire_58 rfl ?_
      refine go_dup (n := 60) rfl dX5_hire_59 rfl ?_
      replace E := Option.bind_eq_some_iff.mp E; obtain ⟨v17, ev17, E⟩ := E
      refine go_getI (n := 63) ev17 fl_RX5_24 rfl dX5_hire_60 rfl ?_
      refine go_iconst (z := 1) (n := 64) ⟨by decide, by decide⟩ dX5_hire_63 rfl ?_
      refine go_iadd (n := 65) dX5_hire_64 rfl ?_
      replace E := Option.bind_eq_some_iff.mp E; obtain ⟨h18, eh18, E⟩ := E
      refine go_putI (n := 68) eh18 fl_RX5_24 rfl dX5_hire_65 rfl ?_
      refine go_aload_n (j := 0) (n := 69) rfl rfl dX5_hire_68 rfl ?_
      replace E := Option.bind_eq_some_iff.mp E; obtain ⟨v19, ev19, E⟩ := E
      refine go_getI (n := 72) ev19 fl_RX5_24 rfl dX5_hire_69 rfl ?_
      refine go_iconst (z := 1) (n := 73) ⟨by decide, by decide⟩ dX5_hire_72 rfl ?_
      refine go_isub (n := 74) dX5_hire_73 rfl ?_
      cases E
      exact go_ireturn rfl dX5_hire_74
    · rw [if_neg c4] at E
      refine go_iconst (z := (-1)) (n := 17) ⟨by decide, by decide⟩ dX5_hire_16 rfl ?_
      cases E
      exact go_ireturn rfl dX5_hire_17
theorem OX5_hire {F : Nat} {l0 : Nat} {l1 : Int} {l2 : Int} {h hf : HP} {r : Int} (e : X5_hire F l0 l1 l2 h = some (r, hf)) : Ok MX5_hire [vr (some l0), vi l1, vi l2] (some (vi r)) h hf := fun K _ _ _ => SX5_hire l0 l1 l2 h e
theorem yw_X5_hire : YW yX5_hire cX5_hire 3 (some .int) 2 := ⟨bw_of 1654 (by decide +kernel) rfl, bw_of 127 (by decide +kernel) rfl, ⟨by decide +kernel, by decide +kernel, by decide +kernel⟩, by decide +kernel⟩
theorem wml_RX11_265 : Cond.methodLink RX11 265 yX5_hire ∈ BW := bw_of 1651 (by decide +kernel) rfl
theorem wim_X5_hire : Cond.instanceMethod yX5_hire ∈ BW := bw_of 1652 (by decide +kernel) rfl
theorem wse_X5_hire : Cond.selects RX5 yX5_hire yX5_hire ∈ BW := bw_of 1653 (by decide +kernel) rfl
abbrev MX11_worker : MI := (RX11, cX11_worker, 3, (some .int), 13, some [], "worker")
noncomputable def X11_worker (F : Nat)   (l0 : Nat) (l1 : Int) (l2 : Int)  (h : HP) : Option ((String ⊕ Int) × HP) :=
  xth (X11_needNumber F l1 0 99 h) fun v1 h2 =>
  xth (X11_needNumber F l2 0 999 h2) fun v3 h4 =>
  (xgP h4 (some l0) 11 6 2).bind fun v5 =>
  (xgP h4 v5 4 12 5).bind fun v6 =>
  (xgI h4 v6 5 6 4).bind fun v7 =>
  if v7 < 20 then
    (xgP h4 (some l0) 11 6 2).bind fun v9 =>
    (xgP h4 v9 4 12 5).bind fun v10 =>
    (xrc h4 v10 5 6).bind fun a13 =>
    xb (X5_hire F a13 l1 l2 h4) fun v11 h12 =>
    some (.inr v11, h12)
  else
    some (.inl "java/lang/UnsupportedOperationException", exc h4)
set_option maxRecDepth 100000 in
theorem SX11_worker {K : Ctx} {F : Nat} {r : String ⊕ Int} {hf : HP}     (l0 : Nat) (l1 : Int) (l2 : Int)  (h : HP) (E : X11_worker F   l0 l1 l2 h = some (r, hf)) : Go K MX11_worker (QMX K (rI r) hf) hf 0 [(0, vr (some l0)), (1, vi l1), (2, vi l2)] [] h := by
  unfold X11_worker at E
  refine go_iload_n (j := 1) (n := 1) rfl rfl dX11_worker_0 rfl ?_
  refine go_iconst (z := 0) (n := 2) ⟨by decide, by decide⟩ dX11_worker_1 rfl ?_
  refine go_bipush (z := 99) (n := 4) ⟨by decide, by decide⟩ dX11_worker_2 rfl ?_
  replace E := xth_some E; rcases E with ⟨x15, ev1, rfl⟩ | ⟨v1, h2, ev1, E⟩
  · exact go_callXSt (y := yX11_needNumber) (as := [vi l1, vi 0, vi 99]) (st := []) (OXX11_needNumber ev1) yw_X11_needNumber wml_RX11_44 wst_X11_needNumber (Nat.le_of_ble_eq_true rfl) rfl ⟨Nat.le_of_ble_eq_true rfl, Nat.le_of_ble_eq_true rfl⟩ (Nat.le_of_ble_eq_true rfl) dX11_worker_4 rfl rfl
  refine go_callXSr (y := yX11_needNumber) (n := 7) (st := []) (as := [vi l1, vi 0, vi 99]) (stk9 := []) (OXX11_needNumber ev1) yw_X11_needNumber wml_RX11_44 wst_X11_needNumber (Nat.le_of_ble_eq_true rfl) rfl ⟨Nat.le_of_ble_eq_true rfl, Nat.le_of_ble_eq_true rfl⟩ (Nat.le_of_ble_eq_true rfl) dX11_worker_4 rfl rfl rfl ?_
  refine go_iload_n (j := 2) (n := 8) rfl rfl dX11_worker_7 rfl ?_
  refine go_iconst (z := 0) (n := 9) ⟨by decide, by decide⟩ dX11_worker_8 rfl ?_
  refine go_sipush (z := 999) (n := 12) ⟨by decide, by decide⟩ dX11_worker_9 rfl ?_
  replace E := xth_some E; rcases E with ⟨x14, ev3, rfl⟩ | ⟨v3, h4, ev3, E⟩
  · exact go_callXSt (y := yX11_needNumber) (as := [vi l2, vi 0, vi 999]) (st := []) (OXX11_needNumber ev3) yw_X11_needNumber wml_RX11_44 wst_X11_needNumber (Nat.le_of_ble_eq_true rfl) rfl ⟨Nat.le_of_ble_eq_true rfl, Nat.le_of_ble_eq_true rfl⟩ (Nat.le_of_ble_eq_true rfl) dX11_worker_12 rfl rfl
  refine go_callXSr (y := yX11_needNumber) (n := 15) (st := []) (as := [vi l2, vi 0, vi 999]) (stk9 := []) (OXX11_needNumber ev3) yw_X11_needNumber wml_RX11_44 wst_X11_needNumber (Nat.le_of_ble_eq_true rfl) rfl ⟨Nat.le_of_ble_eq_true rfl, Nat.le_of_ble_eq_true rfl⟩ (Nat.le_of_ble_eq_true rfl) dX11_worker_12 rfl rfl rfl ?_
  refine go_aload_n (j := 0) (n := 16) rfl rfl dX11_worker_15 rfl ?_
  replace E := Option.bind_eq_some_iff.mp E; obtain ⟨v5, ev5, E⟩ := E
  refine go_getP (n := 19) ev5 fl_RX11_23 rfl dX11_worker_16 rfl ?_
  replace E := Option.bind_eq_some_iff.mp E; obtain ⟨v6, ev6, E⟩ := E
  refine go_getP (n := 22) ev6 fl_RX11_256 rfl dX11_worker_19 rfl ?_
  replace E := Option.bind_eq_some_iff.mp E; obtain ⟨v7, ev7, E⟩ := E
  refine go_getI (n := 25) ev7 fl_RX11_260 rfl dX11_worker_22 rfl ?_
  refine go_bipush (z := 20) (n := 27) ⟨by decide, by decide⟩ dX11_worker_25 rfl ?_
  refine go_icmp_lt (tgt := 41) (n := 30) dX11_worker_27 rfl rfl (fun c8 => ?_) (fun c8 => ?_)
  · rw [if_pos c8] at E
    refine go_aload_n (j := 0) (n := 42) rfl rfl dX11_worker_41 rfl ?_
    replace E := Option.bind_eq_some_iff.mp E; obtain ⟨v9, ev9, E⟩ := E
    refine go_getP (n := 45) ev9 fl_RX11_23 rfl dX11_worker_42 rfl ?_
    replace E := Option.bind_eq_some_iff.mp E; obtain ⟨v10, ev10, E⟩ := E
    refine go_getP (n := 48) ev10 fl_RX11_256 rfl dX11_worker_45 rfl ?_
    refine go_iload_n (j := 1) (n := 49) rfl rfl dX11_worker_48 rfl ?_
    refine go_iload_n (j := 2) (n := 50) rfl rfl dX11_worker_49 rfl ?_
    replace E := Option.bind_eq_some_iff.mp E; obtain ⟨a13, ea13, E⟩ := E
    obtain ⟨fa13, ga13⟩ := xrc_some ea13
    replace E := xb_some E; obtain ⟨v11, h12, ev11, E⟩ := E
    refine go_callV (y := yX5_hire) (n := 53) (st := []) (as := [vi l1, vi l2]) (stk9 := [vi v11]) (OX5_hire ev11) yw_X5_hire ci_5 ga13 wml_RX11_265 wim_X5_hire wse_X5_hire (Nat.le_of_ble_eq_true rfl) rfl ⟨Nat.le_of_ble_eq_true rfl, Nat.le_of_ble_eq_true rfl⟩ (Nat.le_of_ble_eq_true rfl) dX11_worker_50 rfl (by cases fa13; rfl) rfl ?_
    cases E
    exact go_ret (go_ireturn rfl dX11_worker_53)
  · rw [if_neg c8] at E
    cases E
    exact go_throwW (j := 25) xt_RX11_110_114 rfl rfl rfl (Nat.le_of_ble_eq_true rfl) dX11_worker_30 dX11_worker_33 dX11_worker_34 dX11_worker_37 dX11_worker_40 (Nat.le_of_ble_eq_true rfl)
theorem OXX11_worker {F : Nat} {l0 : Nat} {l1 : Int} {l2 : Int} {h hf : HP} {r : String ⊕ Int} (e : X11_worker F l0 l1 l2 h = some (r, hf)) : OkX MX11_worker [vr (some l0), vi l1, vi l2] (rI r) h hf := fun K _ _ _ => SX11_worker l0 l1 l2 h e
theorem wml_RX12_7 : Cond.methodLink RX12 7 objectInit ∈ BW := bw_of 1751 (by decide +kernel) rfl
theorem wk_RX12_13 : Cond.constant RX12 13 (Int32.ofInt 53357) ∈ BW := bw_of 1752 (by decide +kernel) rfl
theorem ff_RX12_14 : FLF RX12 14 12 31 1 := ⟨TX12, ci_12, by decide, bw_of 1754 (by decide +kernel) rfl, rfl, rfl⟩
theorem ff_RX12_18 : FLF RX12 18 12 31 2 := ⟨TX12, ci_12, by decide, bw_of 1755 (by decide +kernel) rfl, rfl, rfl⟩
theorem wa_byte : Cond.arrayClass .byte ∈ BW := bw_of 954 (by decide +kernel) rfl
theorem ff_RX12_21 : FLF RX12 21 12 31 4 := ⟨TX12, ci_12, by decide, bw_of 1757 (by decide +kernel) rfl, rfl, rfl⟩
theorem fl_RX12_25 : FL RX12 25 12 31 10 false := ⟨RX12, TX12, ci_12, by decide, bw_of 1763 (by decide +kernel) rfl, rfl, rfl⟩
theorem ff_RX12_28 : FLF RX12 28 12 31 11 := ⟨TX12, ci_12, by decide, bw_of 1764 (by decide +kernel) rfl, rfl, rfl⟩
theorem ff_RX12_31 : FLF RX12 31 12 31 12 := ⟨TX12, ci_12, by decide, bw_of 1765 (by decide +kernel) rfl, rfl, rfl⟩
theorem ff_RX12_34 : FLF RX12 34 12 31 16 := ⟨TX12, ci_12, by decide, bw_of 1769 (by decide +kernel) rfl, rfl, rfl⟩
theorem ff_RX12_37 : FLF RX12 37 12 31 17 := ⟨TX12, ci_12, by decide, bw_of 1770 (by decide +kernel) rfl, rfl, rfl⟩
theorem wa_boolean : Cond.arrayClass .boolean ∈ BW := bw_of 1847 (by decide +kernel) rfl
theorem ff_RX12_41 : FLF RX12 41 12 31 18 := ⟨TX12, ci_12, by decide, bw_of 1771 (by decide +kernel) rfl, rfl, rfl⟩
theorem ff_RX12_45 : FLF RX12 45 12 31 24 := ⟨TX12, ci_12, by decide, bw_of 1777 (by decide +kernel) rfl, rfl, rfl⟩
theorem ff_RX12_48 : FLF RX12 48 12 31 25 := ⟨TX12, ci_12, by decide, bw_of 1778 (by decide +kernel) rfl, rfl, rfl⟩
theorem ff_RX12_51 : FLF RX12 51 12 31 29 := ⟨TX12, ci_12, by decide, bw_of 1782 (by decide +kernel) rfl, rfl, rfl⟩
theorem ff_RX12_54 : FLF RX12 54 12 31 30 := ⟨TX12, ci_12, by decide, bw_of 1783 (by decide +kernel) rfl, rfl, rfl⟩
theorem fl_RX12_14 : FL RX12 14 12 31 1 true := ⟨RX12, TX12, ci_12, by decide, bw_of 1754 (by decide +kernel) rfl, rfl, rfl⟩
abbrev MX12_init : MI := (RX12, cX12_init, 3, none, 2, none, "<init>")
noncomputable def X12_init_L121 (F : Nat)  (rc114 : Nat → Int → HP → Option (Unit × HP)) (k : Nat) : Nat → Int → Int → HP → Option (Unit × HP) :=
  Nat.rec (motive := fun _ => Nat → Int → Int → HP → Option (Unit × HP)) (fun _ _ _ _ => none) (fun _ rc121 l0 l1 l2 h =>
    if 3 ≤ l2 then
      rc114 l0 (w32 (l1 + 1)) h
    else
      (xgP h (some l0) 12 31 1).bind fun v2 =>
      (xsI h v2 (w32 ((w32 (11254 + (w32 (4 * l1)))) + l2)) 1).bind fun h3 =>
      rc121 l0 l1 (w32 (l2 + 1)) h3) k
theorem X12_init_L121_s (F : Nat)  (rc114 : Nat → Int → HP → Option (Unit × HP)) (k : Nat) (l0 : Nat) (l1 : Int) (l2 : Int)  (h : HP) : X12_init_L121 F  rc114 (k + 1) l0 l1 l2 h =
    if 3 ≤ l2 then
      rc114 l0 (w32 (l1 + 1)) h
    else
      (xgP h (some l0) 12 31 1).bind fun v2 =>
      (xsI h v2 (w32 ((w32 (11254 + (w32 (4 * l1)))) + l2)) 1).bind fun h3 =>
      (X12_init_L121 F rc114 k) l0 l1 (w32 (l2 + 1)) h3 := rfl
set_option maxRecDepth 100000 in
theorem SX12_init_L121 {K : Ctx} {F : Nat} {r : Unit} {hf : HP}   (rc114 : Nat → Int → HP → Option (Unit × HP)) (hrc114 : ∀ l0 l1 h, rc114 l0 l1 h = some (r, hf) → Go K MX12_init (QM K none hf) hf 114 [(0, vr (some l0)), (1, vi l1)] [] h) : ∀ (k : Nat) (l0 : Nat) (l1 : Int) (l2 : Int)  (h : HP), X12_init_L121 F  rc114 k l0 l1 l2 h = some (r, hf) → Go K MX12_init (QM K none hf) hf 121 [(0, vr (some l0)), (1, vi l1), (2, vi l2)] [] h := by
  intro k
  induction k with
  | zero => intro l0 l1 l2 h E; exact nomatch E
  | succ k hrc121 =>
    intro l0 l1 l2 h E
    rw [X12_init_L121_s] at E
    refine go_iload_n (j := 2) (n := 122) rfl rfl dX12_init_121 rfl ?_
    refine go_iconst (z := 3) (n := 123) ⟨by decide, by decide⟩ dX12_init_122 rfl ?_
    refine go_icmp_ge (tgt := 147) (n := 126) dX12_init_123 rfl rfl (fun c1 => ?_) (fun c1 => ?_)
    · rw [if_pos c1] at E
      refine go_iinc (j := 1) (n := 150) (lv' := [(1, vi (w32 (l1 + 1))), (0, vr (some l0)), (2, vi l2)]) rfl dX12_init_147 rfl (Nat.le_of_ble_eq_true rfl) rfl ?_
      refine go_goto (tgt := 114) dX12_init_150 rfl ?_
      refine go_pick (lv' := [(0, vr (some l0)), (1, vi (w32 (l1 + 1)))]) [1, 0] rfl ?_
      exact hrc114 _ _ _ E
    · rw [if_neg c1] at E
      refine go_aload_n (j := 0) (n := 127) rfl rfl dX12_init_126 rfl ?_
      replace E := Option.bind_eq_some_iff.mp E; obtain ⟨v2, ev2, E⟩ := E
      refine go_getP (n := 130) ev2 fl_RX12_14 rfl dX12_init_127 rfl ?_
      refine go_sipush (z := 11254) (n := 133) ⟨by decide, by decide⟩ dX12_init_130 rfl ?_
      refine go_iconst (z := 4) (n := 134) ⟨by decide, by decide⟩ dX12_init_133 rfl ?_
      refine go_iload_n (j := 1) (n := 135) rfl rfl dX12_init_134 rfl ?_
      refine go_imul (n := 136) dX12_init_135 rfl ?_
      refine go_iadd (n := 137) dX12_init_136 rfl ?_
      refine go_iload_n (j := 2) (n := 138) rfl rfl dX12_init_137 rfl ?_
      refine go_iadd (n := 139) dX12_init_138 rfl ?_
      refine go_iconst (z := 1) (n := 140) ⟨by decide, by decide⟩ dX12_init_139 rfl ?_
      replace E := Option.bind_eq_some_iff.mp E; obtain ⟨h3, eh3, E⟩ := E
      refine go_iastore (n := 141) eh3 dX12_init_140 rfl ?_
      refine go_iinc (j := 2) (n := 144) (lv' := [(2, vi (w32 (l2 + 1))), (0, vr (some l0)), (1, vi l1)]) rfl dX12_init_141 rfl (Nat.le_of_ble_eq_true rfl) rfl ?_
      refine go_goto (tgt := 121) dX12_init_144 rfl ?_
      refine go_pick (lv' := [(0, vr (some l0)), (1, vi l1), (2, vi (w32 (l2 + 1)))]) [1, 2, 0] rfl ?_
      exact hrc121 _ _ _ _ E
noncomputable def X12_init_L114 (F : Nat)   (k : Nat) : Nat → Int → HP → Option (Unit × HP) :=
  Nat.rec (motive := fun _ => Nat → Int → HP → Option (Unit × HP)) (fun _ _ _ => none) (fun _ rc114 l0 l1 h =>
    if 4 ≤ l1 then
      some ((), h)
    else
      X12_init_L121 F rc114 F l0 l1 0 h) k
theorem X12_init_L114_s (F : Nat)   (k : Nat) (l0 : Nat) (l1 : Int)  (h : HP) : X12_init_L114 F   (k + 1) l0 l1 h =
    if 4 ≤ l1 then
      some ((), h)
    else
      X12_init_L121 F (X12_init_L114 F k) F l0 l1 0 h := rfl
set_option maxRecDepth 100000 in
theorem SX12_init_L114 {K : Ctx} {F : Nat} {r : Unit} {hf : HP}     : ∀ (k : Nat) (l0 : Nat) (l1 : Int)  (h : HP), X12_init_L114 F   k l0 l1 h = some (r, hf) → Go K MX12_init (QM K none hf) hf 114 [(0, vr (some l0)), (1, vi l1)] [] h := by
  intro k
  induction k with
  | zero => intro l0 l1 h E; exact nomatch E
  | succ k hrc114 =>
    intro l0 l1 h E
    rw [X12_init_L114_s] at E
    refine go_iload_n (j := 1) (n := 115) rfl rfl dX12_init_114 rfl ?_
    refine go_iconst (z := 4) (n := 116) ⟨by decide, by decide⟩ dX12_init_115 rfl ?_
    refine go_icmp_ge (tgt := 153) (n := 119) dX12_init_116 rfl rfl (fun c1 => ?_) (fun c1 => ?_)
    · rw [if_pos c1] at E
      cases E
      exact go_return rfl dX12_init_153
    · rw [if_neg c1] at E
      refine go_iconst (z := 0) (n := 120) ⟨by decide, by decide⟩ dX12_init_119 rfl ?_
      refine go_istore_n (n := 121) (lv' := [(2, vi 0), (0, vr (some l0)), (1, vi l1)]) rfl dX12_init_120 rfl (Nat.le_of_ble_eq_true rfl) rfl ?_
      refine go_pick (lv' := [(0, vr (some l0)), (1, vi l1), (2, vi 0)]) [1, 2, 0] rfl ?_
      exact SX12_init_L121   _ hrc114 F _ _ _ _ E
noncomputable def X12_init (F : Nat)   (l0 : Nat)  (h : HP) : Option (Unit × HP) :=
  (xna h 100 53357).bind fun h1 =>
  (xpP h1 (some l0) 12 31 1 (some (gn h1))).bind fun h2 =>
  (xna h2 100 53357).bind fun h3 =>
  (xpP h3 (some l0) 12 31 2 (some (gn h3))).bind fun h4 =>
  (xna h4 102 400).bind fun h5 =>
  (xpP h5 (some l0) 12 31 4 (some (gn h5))).bind fun h6 =>
  (xpI h6 (some l0) 12 31 10 (-1)).bind fun h7 =>
  (xna h7 100 5).bind fun h8 =>
  (xpP h8 (some l0) 12 31 11 (some (gn h8))).bind fun h9 =>
  (xna h9 100 882).bind fun h10 =>
  (xpP h10 (some l0) 12 31 12 (some (gn h10))).bind fun h11 =>
  (xna h11 100 12).bind fun h12 =>
  (xpP h12 (some l0) 12 31 16 (some (gn h12))).bind fun h13 =>
  (xna h13 101 400).bind fun h14 =>
  (xpP h14 (some l0) 12 31 17 (some (gn h14))).bind fun h15 =>
  (xna h15 103 64).bind fun h16 =>
  (xpP h16 (some l0) 12 31 18 (some (gn h16))).bind fun h17 =>
  (xna h17 101 3).bind fun h18 =>
  (xpP h18 (some l0) 12 31 24 (some (gn h18))).bind fun h19 =>
  (xna h19 100 7).bind fun h20 =>
  (xpP h20 (some l0) 12 31 25 (some (gn h20))).bind fun h21 =>
  (xna h21 100 12).bind fun h22 =>
  (xpP h22 (some l0) 12 31 29 (some (gn h22))).bind fun h23 =>
  (xna h23 100 2).bind fun h24 =>
  (xpP h24 (some l0) 12 31 30 (some (gn h24))).bind fun h25 =>
  (xgP h25 (some l0) 12 31 1).bind fun v26 =>
  (xsI h25 v26 4 (-1)).bind fun h27 =>
  X12_init_L114 F F l0 0 h27
set_option maxRecDepth 100000 in
theorem SX12_init {K : Ctx} {F : Nat} {r : Unit} {hf : HP}     (l0 : Nat)  (h : HP) (E : X12_init F   l0 h = some (r, hf)) : Go K MX12_init (QM K none hf) hf 0 [(0, vr (some l0))] [] h := by
  unfold X12_init at E
  refine go_aload_n (j := 0) (n := 1) rfl rfl dX12_init_0 rfl ?_
  refine go_objInit (n := 4) wml_RX12_7 w_oinit ⟨_, rfl⟩ (Nat.le_of_ble_eq_true rfl) (Nat.le_of_ble_eq_true rfl) dX12_init_1 rfl ?_
  refine go_aload_n (j := 0) (n := 5) rfl rfl dX12_init_4 rfl ?_
  refine go_ldc (z := 53357) (n := 7) ⟨by decide, by decide⟩ wk_RX12_13 dX12_init_5 rfl ?_
  replace E := Option.bind_eq_some_iff.mp E; obtain ⟨h1, eh1, E⟩ := E
  refine go_newI (n := 9) eh1 dX12_init_7 rfl wa_int ?_
  replace E := Option.bind_eq_some_iff.mp E; obtain ⟨h2, eh2, E⟩ := E
  refine go_putFP (n := 12) eh2 ff_RX12_14 rfl rfl dX12_init_9 rfl ?_
  refine go_aload_n (j := 0) (n := 13) rfl rfl dX12_init_12 rfl ?_
  refine go_ldc (z := 53357) (n := 15) ⟨by decide, by decide⟩ wk_RX12_13 dX12_init_13 rfl ?_
  replace E := Option.bind_eq_some_iff.mp E; obtain ⟨h3, eh3, E⟩ := E
  refine go_newI (n := 17) eh3 dX12_init_15 rfl wa_int ?_
  replace E := Option.bind_eq_some_iff.mp E; obtain ⟨h4, eh4, E⟩ := E
  refine go_putFP (n := 20) eh4 ff_RX12_18 rfl rfl dX12_init_17 rfl ?_
  refine go_aload_n (j := 0) (n := 21) rfl rfl dX12_init_20 rfl ?_
  refine go_sipush (z := 400) (n := 24) ⟨by decide, by decide⟩ dX12_init_21 rfl ?_
  replace E := Option.bind_eq_some_iff.mp E; obtain ⟨h5, eh5, E⟩ := E
  refine go_newB (n := 26) eh5 dX12_init_24 rfl wa_byte ?_
  replace E := Option.bind_eq_some_iff.mp E; obtain ⟨h6, eh6, E⟩ := E
  refine go_putFP (n := 29) eh6 ff_RX12_21 rfl rfl dX12_init_26 rfl ?_
  refine go_aload_n (j := 0) (n := 30) rfl rfl dX12_init_29 rfl ?_
  refine go_iconst (z := (-1)) (n := 31) ⟨by decide, by decide⟩ dX12_init_30 rfl ?_
  replace E := Option.bind_eq_some_iff.mp E; obtain ⟨h7, eh7, E⟩ := E
  refine go_putI (n := 34) eh7 fl_RX12_25 rfl dX12_init_31 rfl ?_
  refine go_aload_n (j := 0) (n := 35) rfl rfl dX12_init_34 rfl ?_
  refine go_iconst (z := 5) (n := 36) ⟨by decide, by decide⟩ dX12_init_35 rfl ?_
  replace E := Option.bind_eq_some_iff.mp E; obtain ⟨h8, eh8, E⟩ := E
  refine go_newI (n := 38) eh8 dX12_init_36 rfl wa_int ?_
  replace E := Option.bind_eq_some_iff.mp E; obtain ⟨h9, eh9, E⟩ := E
  refine go_putFP (n := 41) eh9 ff_RX12_28 rfl rfl dX12_init_38 rfl ?_
  refine go_aload_n (j := 0) (n := 42) rfl rfl dX12_init_41 rfl ?_
  refine go_sipush (z := 882) (n := 45) ⟨by decide, by decide⟩ dX12_init_42 rfl ?_
  replace E := Option.bind_eq_some_iff.mp E; obtain ⟨h10, eh10, E⟩ := E
  refine go_newI (n := 47) eh10 dX12_init_45 rfl wa_int ?_
  replace E := Option.bind_eq_some_iff.mp E; obtain ⟨h11, eh11, E⟩ := E
  refine go_putFP (n := 50) eh11 ff_RX12_31 rfl rfl dX12_init_47 rfl ?_
  refine go_aload_n (j := 0) (n := 51) rfl rfl dX12_init_50 rfl ?_
  refine go_bipush (z := 12) (n := 53) ⟨by decide, by decide⟩ dX12_init_51 rfl ?_
  replace E := Option.bind_eq_some_iff.mp E; obtain ⟨h12, eh12, E⟩ := E
  refine go_newI (n := 55) eh12 dX12_init_53 rfl wa_int ?_
  replace E := Option.bind_eq_some_iff.mp E; obtain ⟨h13, eh13, E⟩ := E
  refine go_putFP (n := 58) eh13 ff_RX12_34 rfl rfl dX12_init_55 rfl ?_
  refine go_aload_n (j := 0) (n := 59) rfl rfl dX12_init_58 rfl ?_
  refine go_sipush (z := 400) (n := 62) ⟨by decide, by decide⟩ dX12_init_59 rfl ?_
  replace E := Option.bind_eq_some_iff.mp E; obtain ⟨h14, eh14, E⟩ := E
  refine go_newJ (n := 64) eh14 dX12_init_62 rfl wa_long ?_
  replace E := Option.bind_eq_some_iff.mp E; obtain ⟨h15, eh15, E⟩ := E
  refine go_putFP (n := 67) eh15 ff_RX12_37 rfl rfl dX12_init_64 rfl ?_
  refine go_aload_n (j := 0) (n := 68) rfl rfl dX12_init_67 rfl ?_
  refine go_bipush (z := 64) (n := 70) ⟨by decide, by decide⟩ dX12_init_68 rfl ?_
  replace E := Option.bind_eq_some_iff.mp E; obtain ⟨h16, eh16, E⟩ := E
  refine go_newZ (n := 72) eh16 dX12_init_70 rfl wa_boolean ?_
  replace E := Option.bind_eq_some_iff.mp E; obtain ⟨h17, eh17, E⟩ := E
  refine go_putFP (n := 75) eh17 ff_RX12_41 rfl rfl dX12_init_72 rfl ?_
  refine go_aload_n (j := 0) (n := 76) rfl rfl dX12_init_75 rfl ?_
  refine go_iconst (z := 3) (n := 77) ⟨by decide, by decide⟩ dX12_init_76 rfl ?_
  replace E := Option.bind_eq_some_iff.mp E; obtain ⟨h18, eh18, E⟩ := E
  refine go_newJ (n := 79) eh18 dX12_init_77 rfl wa_long ?_
  replace E := Option.bind_eq_some_iff.mp E; obtain ⟨h19, eh19, E⟩ := E
  refine go_putFP (n := 82) eh19 ff_RX12_45 rfl rfl dX12_init_79 rfl ?_
  refine go_aload_n (j := 0) (n := 83) rfl rfl dX12_init_82 rfl ?_
  refine go_bipush (z := 7) (n := 85) ⟨by decide, by decide⟩ dX12_init_83 rfl ?_
  replace E := Option.bind_eq_some_iff.mp E; obtain ⟨h20, eh20, E⟩ := E
  refine go_newI (n := 87) eh20 dX12_init_85 rfl wa_int ?_
  replace E := Option.bind_eq_some_iff.mp E; obtain ⟨h21, eh21, E⟩ := E
  refine go_putFP (n := 90) eh21 ff_RX12_48 rfl rfl dX12_init_87 rfl ?_
  refine go_aload_n (j := 0) (n := 91) rfl rfl dX12_init_90 rfl ?_
  refine go_bipush (z := 12) (n := 93) ⟨by decide, by decide⟩ dX12_init_91 rfl ?_
  replace E := Option.bind_eq_some_iff.mp E; obtain ⟨h22, eh22, E⟩ := E
  refine go_newI (n := 95) eh22 dX12_init_93 rfl wa_int ?_
  replace E := Option.bind_eq_some_iff.mp E; obtain ⟨h23, eh23, E⟩ := E
  refine go_putFP (n := 98) eh23 ff_RX12_51 rfl rfl dX12_init_95 rfl ?_
  refine go_aload_n (j := 0) (n := 99) rfl rfl dX12_init_98 rfl ?_
  refine go_iconst (z := 2) (n := 100) ⟨by decide, by decide⟩ dX12_init_99 rfl ?_
  replace E := Option.bind_eq_some_iff.mp E; obtain ⟨h24, eh24, E⟩ := E
  refine go_newI (n := 102) eh24 dX12_init_100 rfl wa_int ?_
  replace E := Option.bind_eq_some_iff.mp E; obtain ⟨h25, eh25, E⟩ := E
  refine go_putFP (n := 105) eh25 ff_RX12_54 rfl rfl dX12_init_102 rfl ?_
  refine go_aload_n (j := 0) (n := 106) rfl rfl dX12_init_105 rfl ?_
  replace E := Option.bind_eq_some_iff.mp E; obtain ⟨v26, ev26, E⟩ := E
  refine go_getP (n := 109) ev26 fl_RX12_14 rfl dX12_init_106 rfl ?_
  refine go_iconst (z := 4) (n := 110) ⟨by decide, by decide⟩ dX12_init_109 rfl ?_
  refine go_iconst (z := (-1)) (n := 111) ⟨by decide, by decide⟩ dX12_init_110 rfl ?_
  replace E := Option.bind_eq_some_iff.mp E; obtain ⟨h27, eh27, E⟩ := E
  refine go_iastore (n := 112) eh27 dX12_init_111 rfl ?_
  refine go_iconst (z := 0) (n := 113) ⟨by decide, by decide⟩ dX12_init_112 rfl ?_
  refine go_istore_n (n := 114) (lv' := [(1, vi 0), (0, vr (some l0))]) rfl dX12_init_113 rfl (Nat.le_of_ble_eq_true rfl) rfl ?_
  refine go_pick (lv' := [(0, vr (some l0)), (1, vi 0)]) [1, 0] rfl ?_
  exact SX12_init_L114     F _ _ _ E
theorem OX12_init {F : Nat} {l0 : Nat} {h hf : HP} {r : Unit} (e : X12_init F l0 h = some (r, hf)) : Ok MX12_init [vr (some l0)] none h hf := fun K _ _ _ => SX12_init l0 h e
theorem fl_RX12_3 : FL RX12 3 12 31 0 false := ⟨RX12, TX12, ci_12, by decide, bw_of 1753 (by decide +kernel) rfl, rfl, rfl⟩
theorem fl_RX12_106 : FL RX12 106 12 31 5 false := ⟨RX12, TX12, ci_12, by decide, bw_of 1758 (by decide +kernel) rfl, rfl, rfl⟩
theorem fl_RX12_28 : FL RX12 28 12 31 11 true := ⟨RX12, TX12, ci_12, by decide, bw_of 1764 (by decide +kernel) rfl, rfl, rfl⟩
theorem fl_RX12_21 : FL RX12 21 12 31 4 true := ⟨RX12, TX12, ci_12, by decide, bw_of 1757 (by decide +kernel) rfl, rfl, rfl⟩
abbrev MX12_feed : MI := (RX12, cX12_feed, 7, (some .int), 2, none, "feed")
noncomputable def X12_feed_L60 (F : Nat)   (k : Nat) : Nat → Int → HP → Option (Int × HP) :=
  Nat.rec (motive := fun _ => Nat → Int → HP → Option (Int × HP)) (fun _ _ _ => none) (fun _ rc60 l0 l6 h =>
    if 20 ≤ l6 then
      (xgI h (some l0) 12 31 5).bind fun v2 =>
      (xpI h (some l0) 12 31 5 (w32 (v2 + 20))).bind fun h3 =>
      (xgI h3 (some l0) 12 31 5).bind fun v4 =>
      some (v4, h3)
    else
      (xgP h (some l0) 12 31 4).bind fun v5 =>
      (xgI h (some l0) 12 31 5).bind fun v6 =>
      (xgP h (some l0) 12 31 11).bind fun v7 =>
      (xaI h v7 100 (w32 (l6.tdiv 4))).bind fun v8 =>
      (xsB h v5 (w32 (v6 + l6)) (wbyte (xshr v8 (w32 (24 - (w32 (8 * (l6.tmod 4)))))))).bind fun h9 =>
      rc60 l0 (w32 (l6 + 1)) h9) k
theorem X12_feed_L60_s (F : Nat)   (k : Nat) (l0 : Nat) (l6 : Int)  (h : HP) : X12_feed_L60 F   (k + 1) l0 l6 h =
    if 20 ≤ l6 then
      (xgI h (some l0) 12 31 5).bind fun v2 =>
      (xpI h (some l0) 12 31 5 (w32 (v2 + 20))).bind fun h3 =>
      (xgI h3 (some l0) 12 31 5).bind fun v4 =>
      some (v4, h3)
    else
      (xgP h (some l0) 12 31 4).bind fun v5 =>
      (xgI h (some l0) 12 31 5).bind fun v6 =>
      (xgP h (some l0) 12 31 11).bind fun v7 =>
      (xaI h v7 100 (w32 (l6.tdiv 4))).bind fun v8 =>
      (xsB h v5 (w32 (v6 + l6)) (wbyte (xshr v8 (w32 (24 - (w32 (8 * (l6.tmod 4)))))))).bind fun h9 =>
      (X12_feed_L60 F k) l0 (w32 (l6 + 1)) h9 := rfl
set_option maxRecDepth 100000 in
theorem SX12_feed_L60 {K : Ctx} {F : Nat} {r : Int} {hf : HP}     : ∀ (k : Nat) (l0 : Nat) (l6 : Int)  (h : HP), X12_feed_L60 F   k l0 l6 h = some (r, hf) → Go K MX12_feed (QM K (some (vi r)) hf) hf 60 [(0, vr (some l0)), (6, vi l6)] [] h := by
  intro k
  induction k with
  | zero => intro l0 l6 h E; exact nomatch E
  | succ k hrc60 =>
    intro l0 l6 h E
    rw [X12_feed_L60_s] at E
    refine go_iload (j := 1) (n := 62) rfl dX12_feed_60 rfl ?_
    refine go_bipush (z := 20) (n := 64) ⟨by decide, by decide⟩ dX12_feed_62 rfl ?_
    refine go_icmp_ge (tgt := 106) (n := 67) dX12_feed_64 rfl rfl (fun c1 => ?_) (fun c1 => ?_)
    · rw [if_pos c1] at E
      refine go_aload_n (j := 0) (n := 107) rfl rfl dX12_feed_106 rfl ?_
      refine go_dup (n := 108) rfl dX12_feed_107 rfl ?_
      replace E := Option.bind_eq_some_iff.mp E; obtain ⟨v2, ev2, E⟩ := E
      refine go_getI (n := 111) ev2 fl_RX12_106 rfl dX12_feed_108 rfl ?_
      refine go_bipush (z := 20) (n := 113) ⟨by decide, by decide⟩ dX12_feed_111 rfl ?_
      refine go_iadd (n := 114) dX12_feed_113 rfl ?_
      replace E := Option.bind_eq_some_iff.mp E; obtain ⟨h3, eh3, E⟩ := E
      refine go_putI (n := 117) eh3 fl_RX12_106 rfl dX12_feed_114 rfl ?_
      refine go_aload_n (j := 0) (n := 118) rfl rfl dX12_feed_117 rfl ?_
      replace E := Option.bind_eq_some_iff.mp E; obtain ⟨v4, ev4, E⟩ := E
      refine go_getI (n := 121) ev4 fl_RX12_106 rfl dX12_feed_118 rfl ?_
      cases E
      exact go_ireturn rfl dX12_feed_121
    · rw [if_neg c1] at E
      refine go_aload_n (j := 0) (n := 68) rfl rfl dX12_feed_67 rfl ?_
      replace E := Option.bind_eq_some_iff.mp E; obtain ⟨v5, ev5, E⟩ := E
      refine go_getP (n := 71) ev5 fl_RX12_21 rfl dX12_feed_68 rfl ?_
      refine go_aload_n (j := 0) (n := 72) rfl rfl dX12_feed_71 rfl ?_
      replace E := Option.bind_eq_some_iff.mp E; obtain ⟨v6, ev6, E⟩ := E
      refine go_getI (n := 75) ev6 fl_RX12_106 rfl dX12_feed_72 rfl ?_
      refine go_iload (j := 1) (n := 77) rfl dX12_feed_75 rfl ?_
      refine go_iadd (n := 78) dX12_feed_77 rfl ?_
      refine go_aload_n (j := 0) (n := 79) rfl rfl dX12_feed_78 rfl ?_
      replace E := Option.bind_eq_some_iff.mp E; obtain ⟨v7, ev7, E⟩ := E
      refine go_getP (n := 82) ev7 fl_RX12_28 rfl dX12_feed_79 rfl ?_
      refine go_iload (j := 1) (n := 84) rfl dX12_feed_82 rfl ?_
      refine go_iconst (z := 4) (n := 85) ⟨by decide, by decide⟩ dX12_feed_84 rfl ?_
      refine go_idiv (n := 86) (by decide) dX12_feed_85 rfl ?_
      replace E := Option.bind_eq_some_iff.mp E; obtain ⟨v8, ev8, E⟩ := E
      refine go_iaload (n := 87) ev8 dX12_feed_86 rfl ?_
      refine go_bipush (z := 24) (n := 89) ⟨by decide, by decide⟩ dX12_feed_87 rfl ?_
      refine go_bipush (z := 8) (n := 91) ⟨by decide, by decide⟩ dX12_feed_89 rfl ?_
      refine go_iload (j := 1) (n := 93) rfl dX12_feed_91 rfl ?_
      refine go_iconst (z := 4) (n := 94) ⟨by decide, by decide⟩ dX12_feed_93 rfl ?_
      refine go_irem (n := 95) (by decide) dX12_feed_94 rfl ?_
      refine go_imul (n := 96) dX12_feed_95 rfl ?_
      refine go_isub (n := 97) dX12_feed_96 rfl ?_
      refine go_ishr (n := 98) dX12_feed_97 rfl ?_
      refine go_i2b (n := 99) dX12_feed_98 rfl ?_
      replace E := Option.bind_eq_some_iff.mp E; obtain ⟨h9, eh9, E⟩ := E
      refine go_bastoreB (n := 100) eh9 dX12_feed_99 rfl ?_
      refine go_iinc (j := 1) (n := 103) (lv' := [(6, vi (w32 (l6 + 1))), (0, vr (some l0))]) rfl dX12_feed_100 rfl (Nat.le_of_ble_eq_true rfl) rfl ?_
      refine go_goto (tgt := 60) dX12_feed_103 rfl ?_
      refine go_pick (lv' := [(0, vr (some l0)), (6, vi (w32 (l6 + 1)))]) [1, 0] rfl ?_
      exact hrc60 _ _ _ E
noncomputable def X12_feed (F : Nat)   (l0 : Nat) (l1 : Int) (l2 : Int) (l3 : Int) (l4 : Int) (l5 : Int)  (h : HP) : Option (Int × HP) :=
  (xpI h (some l0) 12 31 0 0).bind fun h1 =>
  (xgI h1 (some l0) 12 31 5).bind fun v2 =>
  if (w32 (v2 + 20)) ≤ 400 then
    (xgP h1 (some l0) 12 31 11).bind fun v4 =>
    (xsI h1 v4 0 l1).bind fun h5 =>
    (xgP h5 (some l0) 12 31 11).bind fun v6 =>
    (xsI h5 v6 1 l2).bind fun h7 =>
    (xgP h7 (some l0) 12 31 11).bind fun v8 =>
    (xsI h7 v8 2 l3).bind fun h9 =>
    (xgP h9 (some l0) 12 31 11).bind fun v10 =>
    (xsI h9 v10 3 l4).bind fun h11 =>
    (xgP h11 (some l0) 12 31 11).bind fun v12 =>
    (xsI h11 v12 4 l5).bind fun h13 =>
    X12_feed_L60 F F l0 0 h13
  else
    some ((-1), h1)
set_option maxRecDepth 100000 in
theorem SX12_feed {K : Ctx} {F : Nat} {r : Int} {hf : HP}     (l0 : Nat) (l1 : Int) (l2 : Int) (l3 : Int) (l4 : Int) (l5 : Int)  (h : HP) (E : X12_feed F   l0 l1 l2 l3 l4 l5 h = some (r, hf)) : Go K MX12_feed (QM K (some (vi r)) hf) hf 0 [(0, vr (some l0)), (1, vi l1), (2, vi l2), (3, vi l3), (4, vi l4), (5, vi l5)] [] h := by
  unfold X12_feed at E
  refine go_aload_n (j := 0) (n := 1) rfl rfl dX12_feed_0 rfl ?_
  refine go_iconst (z := 0) (n := 2) ⟨by decide, by decide⟩ dX12_feed_1 rfl ?_
  replace E := Option.bind_eq_some_iff.mp E; obtain ⟨h1, eh1, E⟩ := E
  refine go_putI (n := 5) eh1 fl_RX12_3 rfl dX12_feed_2 rfl ?_
  refine go_aload_n (j := 0) (n := 6) rfl rfl dX12_feed_5 rfl ?_
  replace E := Option.bind_eq_some_iff.mp E; obtain ⟨v2, ev2, E⟩ := E
  refine go_getI (n := 9) ev2 fl_RX12_106 rfl dX12_feed_6 rfl ?_
  refine go_bipush (z := 20) (n := 11) ⟨by decide, by decide⟩ dX12_feed_9 rfl ?_
  refine go_iadd (n := 12) dX12_feed_11 rfl ?_
  refine go_sipush (z := 400) (n := 15) ⟨by decide, by decide⟩ dX12_feed_12 rfl ?_
  refine go_icmp_le (tgt := 20) (n := 18) dX12_feed_15 rfl rfl (fun c3 => ?_) (fun c3 => ?_)
  · rw [if_pos c3] at E
    refine go_aload_n (j := 0) (n := 21) rfl rfl dX12_feed_20 rfl ?_
    replace E := Option.bind_eq_some_iff.mp E; obtain ⟨v4, ev4, E⟩ := E
    refine go_getP (n := 24) ev4 fl_RX12_28 rfl dX12_feed_21 rfl ?_
    refine go_iconst (z := 0) (n := 25) ⟨by decide, by decide⟩ dX12_feed_24 rfl ?_
    refine go_iload_n (j := 1) (n := 26) rfl rfl dX12_feed_25 rfl ?_
    replace E := Option.bind_eq_some_iff.mp E; obtain ⟨h5, eh5, E⟩ := E
    refine go_iastore (n := 27) eh5 dX12_feed_26 rfl ?_
    refine go_aload_n (j := 0) (n := 28) rfl rfl dX12_feed_27 rfl ?_
    replace E := Option.bind_eq_some_iff.mp E; obtain ⟨v6, ev6, E⟩ := E
    refine go_getP (n := 31) ev6 fl_RX12_28 rfl dX12_feed_28 rfl ?_
    refine go_iconst (z := 1) (n := 32) ⟨by decide, by decide⟩ dX12_feed_31 rfl ?_
    refine go_iload_n (j := 2) (n := 33) rfl rfl dX12_feed_32 rfl ?_
    replace E := Option.bind_eq_some_iff.mp E; obtain ⟨h7, eh7, E⟩ := E
    refine go_iastore (n := 34) eh7 dX12_feed_33 rfl ?_
    refine go_aload_n (j := 0) (n := 35) rfl rfl dX12_feed_34 rfl ?_
    replace E := Option.bind_eq_some_iff.mp E; obtain ⟨v8, ev8, E⟩ := E
    refine go_getP (n := 38) ev8 fl_RX12_28 rfl dX12_feed_35 rfl ?_
    refine go_iconst (z := 2) (n := 39) ⟨by decide, by decide⟩ dX12_feed_38 rfl ?_
    refine go_iload_n (j := 3) (n := 40) rfl rfl dX12_feed_39 rfl ?_
    replace E := Option.bind_eq_some_iff.mp E; obtain ⟨h9, eh9, E⟩ := E
    refine go_iastore (n := 41) eh9 dX12_feed_40 rfl ?_
    refine go_aload_n (j := 0) (n := 42) rfl rfl dX12_feed_41 rfl ?_
    replace E := Option.bind_eq_some_iff.mp E; obtain ⟨v10, ev10, E⟩ := E
    refine go_getP (n := 45) ev10 fl_RX12_28 rfl dX12_feed_42 rfl ?_
    refine go_iconst (z := 3) (n := 46) ⟨by decide, by decide⟩ dX12_feed_45 rfl ?_
    refine go_iload (j := 4) (n := 48) rfl dX12_feed_46 rfl ?_
    replace E := Option.bind_eq_some_iff.mp E; obtain ⟨h11, eh11, E⟩ := E
    refine go_iastore (n := 49) eh11 dX12_feed_48 rfl ?_
    refine go_aload_n (j := 0) (n := 50) rfl rfl dX12_feed_49 rfl ?_
    replace E := Option.bind_eq_some_iff.mp E; obtain ⟨v12, ev12, E⟩ := E
    refine go_getP (n := 53) ev12 fl_RX12_28 rfl dX12_feed_50 rfl ?_
    refine go_iconst (z := 4) (n := 54) ⟨by decide, by decide⟩ dX12_feed_53 rfl ?_
    refine go_iload (j := 5) (n := 56) rfl dX12_feed_54 rfl ?_
    replace E := Option.bind_eq_some_iff.mp E; obtain ⟨h13, eh13, E⟩ := E
    refine go_iastore (n := 57) eh13 dX12_feed_56 rfl ?_
    refine go_iconst (z := 0) (n := 58) ⟨by decide, by decide⟩ dX12_feed_57 rfl ?_
    refine go_istore (n := 60) (lv' := [(6, vi 0), (0, vr (some l0)), (1, vi l1), (2, vi l2), (3, vi l3), (4, vi l4), (5, vi l5)]) dX12_feed_58 rfl (Nat.le_of_ble_eq_true rfl) rfl ?_
    refine go_pick (lv' := [(0, vr (some l0)), (6, vi 0)]) [1, 0] rfl ?_
    exact SX12_feed_L60     F _ _ _ E
  · rw [if_neg c3] at E
    refine go_iconst (z := (-1)) (n := 19) ⟨by decide, by decide⟩ dX12_feed_18 rfl ?_
    cases E
    exact go_ireturn rfl dX12_feed_19
theorem OX12_feed {F : Nat} {l0 : Nat} {l1 : Int} {l2 : Int} {l3 : Int} {l4 : Int} {l5 : Int} {h hf : HP} {r : Int} (e : X12_feed F l0 l1 l2 l3 l4 l5 h = some (r, hf)) : Ok MX12_feed [vr (some l0), vi l1, vi l2, vi l3, vi l4, vi l5] (some (vi r)) h hf := fun K _ _ _ => SX12_feed l0 l1 l2 l3 l4 l5 h e
abbrev MX12_end : MI := (RX12, cX12_end, 2, (some .boolean), 2, none, "end")
noncomputable def X12_end (F : Nat)   (l0 : Nat) (l1 : Int)  (h : HP) : Option (Int × HP) :=
  (xpI h (some l0) 12 31 0 0).bind fun h1 =>
  if l1 < 0 then
    some (0, h1)
  else
    (xgI h1 (some l0) 12 31 5).bind fun v3 =>
    if l1 ≤ v3 then
      (xpI h1 (some l0) 12 31 5 l1).bind fun h5 =>
      some (1, h5)
    else
      some (0, h1)
set_option maxRecDepth 100000 in
theorem SX12_end {K : Ctx} {F : Nat} {r : Int} {hf : HP}     (l0 : Nat) (l1 : Int)  (h : HP) (E : X12_end F   l0 l1 h = some (r, hf)) : Go K MX12_end (QM K (some (vi r)) hf) hf 0 [(0, vr (some l0)), (1, vi l1)] [] h := by
  unfold X12_end at E
  refine go_aload_n (j := 0) (n := 1) rfl rfl dX12_end_0 rfl ?_
  refine go_iconst (z := 0) (n := 2) ⟨by decide, by decide⟩ dX12_end_1 rfl ?_
  replace E := Option.bind_eq_some_iff.mp E; obtain ⟨h1, eh1, E⟩ := E
  refine go_putI (n := 5) eh1 fl_RX12_3 rfl dX12_end_2 rfl ?_
  refine go_iload_n (j := 1) (n := 6) rfl rfl dX12_end_5 rfl ?_
  refine go_if_lt (tgt := 17) (n := 9) dX12_end_6 rfl rfl (fun c2 => ?_) (fun c2 => ?_)
  · rw [if_pos c2] at E
    refine go_iconst (z := 0) (n := 18) ⟨by decide, by decide⟩ dX12_end_17 rfl ?_
    cases E
    exact go_zreturn rfl (Or.inl rfl) dX12_end_18
  · rw [if_neg c2] at E
    refine go_iload_n (j := 1) (n := 10) rfl rfl dX12_end_9 rfl ?_
    refine go_aload_n (j := 0) (n := 11) rfl rfl dX12_end_10 rfl ?_
    replace E := Option.bind_eq_some_iff.mp E; obtain ⟨v3, ev3, E⟩ := E
    refine go_getI (n := 14) ev3 fl_RX12_106 rfl dX12_end_11 rfl ?_
    refine go_icmp_le (tgt := 19) (n := 17) dX12_end_14 rfl rfl (fun c4 => ?_) (fun c4 => ?_)
    · rw [if_pos c4] at E
      refine go_aload_n (j := 0) (n := 20) rfl rfl dX12_end_19 rfl ?_
      refine go_iload_n (j := 1) (n := 21) rfl rfl dX12_end_20 rfl ?_
      replace E := Option.bind_eq_some_iff.mp E; obtain ⟨h5, eh5, E⟩ := E
      refine go_putI (n := 24) eh5 fl_RX12_106 rfl dX12_end_21 rfl ?_
      refine go_iconst (z := 1) (n := 25) ⟨by decide, by decide⟩ dX12_end_24 rfl ?_
      cases E
      exact go_zreturn rfl (Or.inr rfl) dX12_end_25
    · rw [if_neg c4] at E
      refine go_iconst (z := 0) (n := 18) ⟨by decide, by decide⟩ dX12_end_17 rfl ?_
      cases E
      exact go_zreturn rfl (Or.inl rfl) dX12_end_18
theorem OX12_end {F : Nat} {l0 : Nat} {l1 : Int} {h hf : HP} {r : Int} (e : X12_end F l0 l1 h = some (r, hf)) : Ok MX12_end [vr (some l0), vi l1] (some (vi r)) h hf := fun K _ _ _ => SX12_end l0 l1 h e
abbrev MX12_in : MI := (RX12, cX12_in, 3, (some .boolean), 2, none, "in")
noncomputable def X12_in (F : Nat)   (l0 : Int) (l1 : Int) (l2 : Int)  (h : HP) : Option (Int × HP) :=
  some (if l0 < l1 then 0 else if l2 < l0 then 0 else 1, h)
set_option maxRecDepth 100000 in
theorem SX12_in {K : Ctx} {F : Nat} {r : Int} {hf : HP}     (l0 : Int) (l1 : Int) (l2 : Int)  (h : HP) (E : X12_in F   l0 l1 l2 h = some (r, hf)) : Go K MX12_in (QM K (some (vi r)) hf) hf 0 [(0, vi l0), (1, vi l1), (2, vi l2)] [] h := by
  unfold X12_in at E
  refine go_iload_n (j := 0) (n := 1) rfl rfl dX12_in_0 rfl ?_
  refine go_iload_n (j := 1) (n := 2) rfl rfl dX12_in_1 rfl ?_
  refine go_icmp_lt (tgt := 14) (n := 5) dX12_in_2 rfl rfl (fun c1 => ?_) (fun c1 => ?_)
  · simp only [if_pos c1] at E
    refine go_iconst (z := 0) (n := 15) ⟨by decide, by decide⟩ dX12_in_14 rfl ?_
    cases E
    exact go_zreturn rfl (Or.inl rfl) dX12_in_15
  · simp only [if_neg c1] at E
    refine go_iload_n (j := 0) (n := 6) rfl rfl dX12_in_5 rfl ?_
    refine go_iload_n (j := 2) (n := 7) rfl rfl dX12_in_6 rfl ?_
    refine go_icmp_gt (tgt := 14) (n := 10) dX12_in_7 rfl rfl (fun c2 => ?_) (fun c2 => ?_)
    · simp only [if_pos c2] at E
      refine go_iconst (z := 0) (n := 15) ⟨by decide, by decide⟩ dX12_in_14 rfl ?_
      cases E
      exact go_zreturn rfl (Or.inl rfl) dX12_in_15
    · simp only [if_neg c2] at E
      refine go_iconst (z := 1) (n := 11) ⟨by decide, by decide⟩ dX12_in_10 rfl ?_
      refine go_goto (tgt := 15) dX12_in_11 rfl ?_
      cases E
      exact go_zreturn rfl (Or.inr rfl) dX12_in_15
theorem OX12_in {F : Nat} {l0 : Int} {l1 : Int} {l2 : Int} {h hf : HP} {r : Int} (e : X12_in F l0 l1 l2 h = some (r, hf)) : Ok MX12_in [vi l0, vi l1, vi l2] (some (vi r)) h hf := fun K _ _ _ => SX12_in l0 l1 l2 h e
abbrev MX12_throwsIf : MI := (RX12, cX12_throwsIf, 3, (some .boolean), 2, none, "throwsIf")
noncomputable def X12_throwsIf (F : Nat)   (l0 : Nat) (l1 : Int) (l2 : Int)  (h : HP) : Option (Int × HP) :=
  if l1 = 0 then
    xz l1 h
  else
    (xpI h (some l0) 12 31 0 l2).bind fun h3 =>
    xz l1 h3
set_option maxRecDepth 100000 in
theorem SX12_throwsIf {K : Ctx} {F : Nat} {r : Int} {hf : HP}     (l0 : Nat) (l1 : Int) (l2 : Int)  (h : HP) (E : X12_throwsIf F   l0 l1 l2 h = some (r, hf)) : Go K MX12_throwsIf (QM K (some (vi r)) hf) hf 0 [(0, vr (some l0)), (1, vi l1), (2, vi l2)] [] h := by
  unfold X12_throwsIf at E
  refine go_iload_n (j := 1) (n := 1) rfl rfl dX12_throwsIf_0 rfl ?_
  refine go_if_eq (tgt := 9) (n := 4) dX12_throwsIf_1 rfl rfl (fun c1 => ?_) (fun c1 => ?_)
  · rw [if_pos c1] at E
    refine go_iload_n (j := 1) (n := 10) rfl rfl dX12_throwsIf_9 rfl ?_
    unfold xz at E
    split at E
    · next c2 =>
      cases E
      exact go_zreturn rfl c2 dX12_throwsIf_10
    · cases E
  · rw [if_neg c1] at E
    refine go_aload_n (j := 0) (n := 5) rfl rfl dX12_throwsIf_4 rfl ?_
    refine go_iload_n (j := 2) (n := 6) rfl rfl dX12_throwsIf_5 rfl ?_
    replace E := Option.bind_eq_some_iff.mp E; obtain ⟨h3, eh3, E⟩ := E
    refine go_putI (n := 9) eh3 fl_RX12_3 rfl dX12_throwsIf_6 rfl ?_
    refine go_iload_n (j := 1) (n := 10) rfl rfl dX12_throwsIf_9 rfl ?_
    unfold xz at E
    split at E
    · next c4 =>
      cases E
      exact go_zreturn rfl c4 dX12_throwsIf_10
    · cases E
theorem OX12_throwsIf {F : Nat} {l0 : Nat} {l1 : Int} {l2 : Int} {h hf : HP} {r : Int} (e : X12_throwsIf F l0 l1 l2 h = some (r, hf)) : Ok MX12_throwsIf [vr (some l0), vi l1, vi l2] (some (vi r)) h hf := fun K _ _ _ => SX12_throwsIf l0 l1 l2 h e
theorem yw_X12_in : YW yX12_in cX12_in 3 (some .boolean) 3 := ⟨bw_of 1862 (by decide +kernel) rfl, bw_of 129 (by decide +kernel) rfl, ⟨by decide +kernel, by decide +kernel, by decide +kernel⟩, by decide +kernel⟩
theorem wml_RX12_61 : Cond.methodLink RX12 61 yX12_in ∈ BW := bw_of 1860 (by decide +kernel) rfl
theorem wst_X12_in : Cond.static yX12_in ∈ BW := bw_of 1861 (by decide +kernel) rfl
theorem yw_X12_throwsIf : YW yX12_throwsIf cX12_throwsIf 3 (some .boolean) 2 := ⟨bw_of 1866 (by decide +kernel) rfl, bw_of 129 (by decide +kernel) rfl, ⟨by decide +kernel, by decide +kernel, by decide +kernel⟩, by decide +kernel⟩
theorem wml_RX12_65 : Cond.methodLink RX12 65 yX12_throwsIf ∈ BW := bw_of 1863 (by decide +kernel) rfl
theorem wim_X12_throwsIf : Cond.instanceMethod yX12_throwsIf ∈ BW := bw_of 1865 (by decide +kernel) rfl
theorem wse_X12_throwsIf : Cond.selects RX12 yX12_throwsIf yX12_throwsIf ∈ BW := bw_of 57 (by decide +kernel) rfl
abbrev MX12_day : MI := (RX12, cX12_day, 3, none, 3, none, "day")
noncomputable def X12_day_L31 (F : Nat)   (l0 : Nat) (l1 : Int) (l2 : Int) (s0 : Int) (s1 : Option Nat) (h : HP) : Option (Unit × HP) :=
  (xrc h s1 12 31).bind fun a3 =>
  xb (X12_throwsIf F a3 s0 1 h) fun v1 h2 =>
  if v1 = 0 then
    (xgP h2 (some l0) 12 31 1).bind fun v5 =>
    (xsI h2 v5 1 l1).bind fun h6 =>
    (xgP h6 (some l0) 12 31 1).bind fun v7 =>
    (xsI h6 v7 2 l2).bind fun h8 =>
    some ((), h8)
  else
    some ((), h2)
set_option maxRecDepth 100000 in
theorem SX12_day_L31 {K : Ctx} {F : Nat} {r : Unit} {hf : HP}     (l0 : Nat) (l1 : Int) (l2 : Int) (s0 : Int) (s1 : Option Nat) (h : HP) (E : X12_day_L31 F   l0 l1 l2 s0 s1 h = some (r, hf)) : Go K MX12_day (QM K none hf) hf 31 [(0, vr (some l0)), (1, vi l1), (2, vi l2)] [vi s0, vr s1] h := by
  unfold X12_day_L31 at E
  refine go_iconst (z := 1) (n := 32) ⟨by decide, by decide⟩ dX12_day_31 rfl ?_
  replace E := Option.bind_eq_some_iff.mp E; obtain ⟨a3, ea3, E⟩ := E
  obtain ⟨fa3, ga3⟩ := xrc_some ea3
  replace E := xb_some E; obtain ⟨v1, h2, ev1, E⟩ := E
  refine go_callV (y := yX12_throwsIf) (n := 35) (st := []) (as := [vi s0, vi 1]) (stk9 := [vi v1]) (OX12_throwsIf ev1) yw_X12_throwsIf ci_12 ga3 wml_RX12_65 wim_X12_throwsIf wse_X12_throwsIf (Nat.le_of_ble_eq_true rfl) rfl ⟨Nat.le_of_ble_eq_true rfl, Nat.le_of_ble_eq_true rfl⟩ (Nat.le_of_ble_eq_true rfl) dX12_day_32 rfl (by cases fa3; rfl) rfl ?_
  refine go_if_eq (tgt := 39) (n := 38) dX12_day_35 rfl rfl (fun c4 => ?_) (fun c4 => ?_)
  · rw [if_pos c4] at E
    refine go_aload_n (j := 0) (n := 40) rfl rfl dX12_day_39 rfl ?_
    replace E := Option.bind_eq_some_iff.mp E; obtain ⟨v5, ev5, E⟩ := E
    refine go_getP (n := 43) ev5 fl_RX12_14 rfl dX12_day_40 rfl ?_
    refine go_iconst (z := 1) (n := 44) ⟨by decide, by decide⟩ dX12_day_43 rfl ?_
    refine go_iload_n (j := 1) (n := 45) rfl rfl dX12_day_44 rfl ?_
    replace E := Option.bind_eq_some_iff.mp E; obtain ⟨h6, eh6, E⟩ := E
    refine go_iastore (n := 46) eh6 dX12_day_45 rfl ?_
    refine go_aload_n (j := 0) (n := 47) rfl rfl dX12_day_46 rfl ?_
    replace E := Option.bind_eq_some_iff.mp E; obtain ⟨v7, ev7, E⟩ := E
    refine go_getP (n := 50) ev7 fl_RX12_14 rfl dX12_day_47 rfl ?_
    refine go_iconst (z := 2) (n := 51) ⟨by decide, by decide⟩ dX12_day_50 rfl ?_
    refine go_iload_n (j := 2) (n := 52) rfl rfl dX12_day_51 rfl ?_
    replace E := Option.bind_eq_some_iff.mp E; obtain ⟨h8, eh8, E⟩ := E
    refine go_iastore (n := 53) eh8 dX12_day_52 rfl ?_
    cases E
    exact go_return rfl dX12_day_53
  · rw [if_neg c4] at E
    cases E
    exact go_return rfl dX12_day_38
noncomputable def X12_day_L26 (F : Nat)   (l0 : Nat) (l1 : Int) (l2 : Int) (s0 : Option Nat) (h : HP) : Option (Unit × HP) :=
  X12_day_L31 F l0 l1 l2 1 s0 h
set_option maxRecDepth 100000 in
theorem SX12_day_L26 {K : Ctx} {F : Nat} {r : Unit} {hf : HP}     (l0 : Nat) (l1 : Int) (l2 : Int) (s0 : Option Nat) (h : HP) (E : X12_day_L26 F   l0 l1 l2 s0 h = some (r, hf)) : Go K MX12_day (QM K none hf) hf 26 [(0, vr (some l0)), (1, vi l1), (2, vi l2)] [vr s0] h := by
  unfold X12_day_L26 at E
  refine go_iconst (z := 1) (n := 27) ⟨by decide, by decide⟩ dX12_day_26 rfl ?_
  refine go_goto (tgt := 31) dX12_day_27 rfl ?_
  exact SX12_day_L31     _ _ _ _ _ _ E
noncomputable def X12_day (F : Nat)   (l0 : Nat) (l1 : Int) (l2 : Int)  (h : HP) : Option (Unit × HP) :=
  (xpI h (some l0) 12 31 0 0).bind fun h1 =>
  xb (X12_in F l1 0 6 h1) fun v2 h3 =>
  if v2 = 0 then
    X12_day_L26 F l0 l1 l2 (some l0) h3
  else
    xb (X12_in F l2 0 9 h3) fun v5 h6 =>
    if v5 = 0 then
      X12_day_L26 F l0 l1 l2 (some l0) h6
    else
      X12_day_L31 F l0 l1 l2 0 (some l0) h6
set_option maxRecDepth 100000 in
theorem SX12_day {K : Ctx} {F : Nat} {r : Unit} {hf : HP}     (l0 : Nat) (l1 : Int) (l2 : Int)  (h : HP) (E : X12_day F   l0 l1 l2 h = some (r, hf)) : Go K MX12_day (QM K none hf) hf 0 [(0, vr (some l0)), (1, vi l1), (2, vi l2)] [] h := by
  unfold X12_day at E
  refine go_aload_n (j := 0) (n := 1) rfl rfl dX12_day_0 rfl ?_
  refine go_iconst (z := 0) (n := 2) ⟨by decide, by decide⟩ dX12_day_1 rfl ?_
  replace E := Option.bind_eq_some_iff.mp E; obtain ⟨h1, eh1, E⟩ := E
  refine go_putI (n := 5) eh1 fl_RX12_3 rfl dX12_day_2 rfl ?_
  refine go_aload_n (j := 0) (n := 6) rfl rfl dX12_day_5 rfl ?_
  refine go_iload_n (j := 1) (n := 7) rfl rfl dX12_day_6 rfl ?_
  refine go_iconst (z := 0) (n := 8) ⟨by decide, by decide⟩ dX12_day_7 rfl ?_
  refine go_bipush (z := 6) (n := 10) ⟨by decide, by decide⟩ dX12_day_8 rfl ?_
  replace E := xb_some E; obtain ⟨v2, h3, ev2, E⟩ := E
  refine go_callS (y := yX12_in) (n := 13) (st := [vr (some l0)]) (as := [vi l1, vi 0, vi 6]) (stk9 := [vi v2, vr (some l0)]) (OX12_in ev2) yw_X12_in wml_RX12_61 wst_X12_in (Nat.le_of_ble_eq_true rfl) rfl ⟨Nat.le_of_ble_eq_true rfl, Nat.le_of_ble_eq_true rfl⟩ (Nat.le_of_ble_eq_true rfl) dX12_day_10 rfl rfl rfl ?_
  refine go_if_eq (tgt := 26) (n := 16) dX12_day_13 rfl rfl (fun c4 => ?_) (fun c4 => ?_)
  · rw [if_pos c4] at E
    exact SX12_day_L26     _ _ _ _ _ E
  · rw [if_neg c4] at E
    refine go_iload_n (j := 2) (n := 17) rfl rfl dX12_day_16 rfl ?_
    refine go_iconst (z := 0) (n := 18) ⟨by decide, by decide⟩ dX12_day_17 rfl ?_
    refine go_bipush (z := 9) (n := 20) ⟨by decide, by decide⟩ dX12_day_18 rfl ?_
    replace E := xb_some E; obtain ⟨v5, h6, ev5, E⟩ := E
    refine go_callS (y := yX12_in) (n := 23) (st := [vr (some l0)]) (as := [vi l2, vi 0, vi 9]) (stk9 := [vi v5, vr (some l0)]) (OX12_in ev5) yw_X12_in wml_RX12_61 wst_X12_in (Nat.le_of_ble_eq_true rfl) rfl ⟨Nat.le_of_ble_eq_true rfl, Nat.le_of_ble_eq_true rfl⟩ (Nat.le_of_ble_eq_true rfl) dX12_day_20 rfl rfl rfl ?_
    refine go_if_ne (tgt := 30) (n := 26) dX12_day_23 rfl rfl (fun c7 => ?_) (fun c7 => ?_)
    · rw [if_neg c7] at E
      refine go_iconst (z := 0) (n := 31) ⟨by decide, by decide⟩ dX12_day_30 rfl ?_
      exact SX12_day_L31     _ _ _ _ _ _ E
    · rw [if_pos c7] at E
      exact SX12_day_L26     _ _ _ _ _ E
theorem OX12_day {F : Nat} {l0 : Nat} {l1 : Int} {l2 : Int} {h hf : HP} {r : Unit} (e : X12_day F l0 l1 l2 h = some (r, hf)) : Ok MX12_day [vr (some l0), vi l1, vi l2] none h hf := fun K _ _ _ => SX12_day l0 l1 l2 h e
abbrev MX12_thrown : MI := (RX12, cX12_thrown, 1, (some .int), 2, none, "thrown")
noncomputable def X12_thrown (F : Nat)   (l0 : Nat)  (h : HP) : Option (Int × HP) :=
  (xgI h (some l0) 12 31 0).bind fun v1 =>
  some (v1, h)
set_option maxRecDepth 100000 in
theorem SX12_thrown {K : Ctx} {F : Nat} {r : Int} {hf : HP}     (l0 : Nat)  (h : HP) (E : X12_thrown F   l0 h = some (r, hf)) : Go K MX12_thrown (QM K (some (vi r)) hf) hf 0 [(0, vr (some l0))] [] h := by
  unfold X12_thrown at E
  refine go_aload_n (j := 0) (n := 1) rfl rfl dX12_thrown_0 rfl ?_
  replace E := Option.bind_eq_some_iff.mp E; obtain ⟨v1, ev1, E⟩ := E
  refine go_getI (n := 4) ev1 fl_RX12_3 rfl dX12_thrown_1 rfl ?_
  cases E
  exact go_ireturn rfl dX12_thrown_4
theorem OX12_thrown {F : Nat} {l0 : Nat} {h hf : HP} {r : Int} (e : X12_thrown F l0 h = some (r, hf)) : Ok MX12_thrown [vr (some l0)] (some (vi r)) h hf := fun K _ _ _ => SX12_thrown l0 h e
abbrev MX12_noWord : MI := (RX12, cX12_noWord, 1, (some .boolean), 3, none, "noWord")
noncomputable def X12_noWord (F : Nat)   (l0 : Int)  (h : HP) : Option (Int × HP) :=
  xb (X12_in F l0 0 63 h) fun v1 h2 =>
  some (if v1 = 0 then 1 else 0, h2)
set_option maxRecDepth 100000 in
theorem SX12_noWord {K : Ctx} {F : Nat} {r : Int} {hf : HP}     (l0 : Int)  (h : HP) (E : X12_noWord F   l0 h = some (r, hf)) : Go K MX12_noWord (QM K (some (vi r)) hf) hf 0 [(0, vi l0)] [] h := by
  unfold X12_noWord at E
  refine go_iload_n (j := 0) (n := 1) rfl rfl dX12_noWord_0 rfl ?_
  refine go_iconst (z := 0) (n := 2) ⟨by decide, by decide⟩ dX12_noWord_1 rfl ?_
  refine go_bipush (z := 63) (n := 4) ⟨by decide, by decide⟩ dX12_noWord_2 rfl ?_
  replace E := xb_some E; obtain ⟨v1, h2, ev1, E⟩ := E
  refine go_callS (y := yX12_in) (n := 7) (st := []) (as := [vi l0, vi 0, vi 63]) (stk9 := [vi v1]) (OX12_in ev1) yw_X12_in wml_RX12_61 wst_X12_in (Nat.le_of_ble_eq_true rfl) rfl ⟨Nat.le_of_ble_eq_true rfl, Nat.le_of_ble_eq_true rfl⟩ (Nat.le_of_ble_eq_true rfl) dX12_noWord_4 rfl rfl rfl ?_
  refine go_if_ne (tgt := 14) (n := 10) dX12_noWord_7 rfl rfl (fun c3 => ?_) (fun c3 => ?_)
  · simp only [if_neg c3] at E
    refine go_iconst (z := 0) (n := 15) ⟨by decide, by decide⟩ dX12_noWord_14 rfl ?_
    cases E
    exact go_zreturn rfl (Or.inl rfl) dX12_noWord_15
  · simp only [if_pos c3] at E
    refine go_iconst (z := 1) (n := 11) ⟨by decide, by decide⟩ dX12_noWord_10 rfl ?_
    refine go_goto (tgt := 15) dX12_noWord_11 rfl ?_
    cases E
    exact go_zreturn rfl (Or.inr rfl) dX12_noWord_15
theorem OX12_noWord {F : Nat} {l0 : Int} {h hf : HP} {r : Int} (e : X12_noWord F l0 h = some (r, hf)) : Ok MX12_noWord [vi l0] (some (vi r)) h hf := fun K _ _ _ => SX12_noWord l0 h e
