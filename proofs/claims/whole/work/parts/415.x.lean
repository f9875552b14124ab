/-! the methods, decompiled: written by dec.py -/
theorem fl_RX12_41 : FL RX12 41 12 31 18 true := ⟨RX12, TX12, ci_12, by decide, bw_of 1771 (by decide +kernel) rfl, rfl, rfl⟩
abbrev MX12_bad : MI := (RX12, cX12_bad, 5, (some .long), 5, none, "bad")
noncomputable def X12_bad_L192 (F : Nat)  (rc166 : Nat → Int → Int → HP → Option (Int × HP)) (l0 : Nat) (l4 : Int) (s0 : Int) (s1 : Int) (h : HP) : Option (Int × HP) :=
  rc166 l0 (yor s1 s0) (w32 (l4 + 1)) h
set_option maxRecDepth 100000 in
theorem SX12_bad_L192 {K : Ctx} {F : Nat} {r : Int} {hf : HP}   (rc166 : Nat → Int → Int → HP → Option (Int × HP)) (hrc166 : ∀ l0 l2 l4 h, rc166 l0 l2 l4 h = some (r, hf) → Go K MX12_bad (QM K (some (vl r)) hf) hf 166 [(0, vr (some l0)), (2, vl l2), (4, vi l4)] [] h) (l0 : Nat) (l4 : Int) (s0 : Int) (s1 : Int) (h : HP) (E : X12_bad_L192 F  rc166 l0 l4 s0 s1 h = some (r, hf)) : Go K MX12_bad (QM K (some (vl r)) hf) hf 192 [(0, vr (some l0)), (4, vi l4)] [vl s0, vl s1] h := by
  unfold X12_bad_L192 at E
  refine go_lor (n := 193) dX12_bad_192 rfl ?_
  refine go_lstore_n (n := 194) (lv' := [(2, vl (yor s1 s0)), (0, vr (some l0)), (4, vi l4)]) rfl dX12_bad_193 rfl (Nat.le_of_ble_eq_true rfl) rfl ?_
  refine go_iinc (j := 2) (n := 197) (lv' := [(4, vi (w32 (l4 + 1))), (2, vl (yor s1 s0)), (0, vr (some l0))]) rfl dX12_bad_194 rfl (Nat.le_of_ble_eq_true rfl) rfl ?_
  refine go_goto (tgt := 166) dX12_bad_197 rfl ?_
  refine go_pick (lv' := [(0, vr (some l0)), (2, vl (yor s1 s0)), (4, vi (w32 (l4 + 1)))]) [2, 1, 0] rfl ?_
  exact hrc166 _ _ _ _ E
noncomputable def X12_bad_L166 (F : Nat)   (k : Nat) : Nat → Int → Int → HP → Option (Int × HP) :=
  Nat.rec (motive := fun _ => Nat → Int → Int → HP → Option (Int × HP)) (fun _ _ _ _ => none) (fun _ rc166 l0 l2 l4 h =>
    if 64 ≤ l4 then
      some (l2, h)
    else
      (xgP h (some l0) 12 31 18).bind fun v2 =>
      (xaI h v2 103 l4).bind fun v3 =>
      X12_bad_L192 F rc166 l0 l4 (if v3 = 0 then 0 else yshl 1 l4) l2 h) k
theorem X12_bad_L166_s (F : Nat)   (k : Nat) (l0 : Nat) (l2 : Int) (l4 : Int)  (h : HP) : X12_bad_L166 F   (k + 1) l0 l2 l4 h =
    if 64 ≤ l4 then
      some (l2, h)
    else
      (xgP h (some l0) 12 31 18).bind fun v2 =>
      (xaI h v2 103 l4).bind fun v3 =>
      X12_bad_L192 F (X12_bad_L166 F k) l0 l4 (if v3 = 0 then 0 else yshl 1 l4) l2 h := rfl
set_option maxRecDepth 100000 in
theorem SX12_bad_L166 {K : Ctx} {F : Nat} {r : Int} {hf : HP}     : ∀ (k : Nat) (l0 : Nat) (l2 : Int) (l4 : Int)  (h : HP), X12_bad_L166 F   k l0 l2 l4 h = some (r, hf) → Go K MX12_bad (QM K (some (vl r)) hf) hf 166 [(0, vr (some l0)), (2, vl l2), (4, vi l4)] [] h := by
  intro k
  induction k with
  | zero => intro l0 l2 l4 h E; exact nomatch E
  | succ k hrc166 =>
    intro l0 l2 l4 h E
    rw [X12_bad_L166_s] at E
    refine go_iload (j := 2) (n := 168) rfl dX12_bad_166 rfl ?_
    refine go_bipush (z := 64) (n := 170) ⟨by decide, by decide⟩ dX12_bad_168 rfl ?_
    refine go_icmp_ge (tgt := 200) (n := 173) dX12_bad_170 rfl rfl (fun c1 => ?_) (fun c1 => ?_)
    · rw [if_pos c1] at E
      refine go_lload_n (j := 1) (n := 201) rfl rfl dX12_bad_200 rfl ?_
      cases E
      exact go_lreturn rfl dX12_bad_201
    · rw [if_neg c1] at E
      refine go_lload_n (j := 1) (n := 174) rfl rfl dX12_bad_173 rfl ?_
      refine go_aload_n (j := 0) (n := 175) rfl rfl dX12_bad_174 rfl ?_
      replace E := Option.bind_eq_some_iff.mp E; obtain ⟨v2, ev2, E⟩ := E
      refine go_getP (n := 178) ev2 fl_RX12_41 rfl dX12_bad_175 rfl ?_
      refine go_iload (j := 2) (n := 180) rfl dX12_bad_178 rfl ?_
      replace E := Option.bind_eq_some_iff.mp E; obtain ⟨v3, ev3, E⟩ := E
      refine go_baload (n := 181) (Or.inr rfl) ev3 dX12_bad_180 rfl ?_
      refine go_if_eq (tgt := 191) (n := 184) dX12_bad_181 rfl rfl (fun c4 => ?_) (fun c4 => ?_)
      · simp only [if_pos c4] at E
        refine go_lconst (w := 0) (n := 192) rfl dX12_bad_191 rfl ?_
        refine go_pick (lv' := [(0, vr (some l0)), (4, vi l4)]) [0, 2] rfl ?_
        exact SX12_bad_L192   _ hrc166 _ _ _ _ _ E
      · simp only [if_neg c4] at E
        refine go_lconst (w := 1) (n := 185) rfl dX12_bad_184 rfl ?_
        refine go_iload (j := 2) (n := 187) rfl dX12_bad_185 rfl ?_
        refine go_lshl (n := 188) dX12_bad_187 rfl ?_
        refine go_goto (tgt := 192) dX12_bad_188 rfl ?_
        refine go_pick (lv' := [(0, vr (some l0)), (4, vi l4)]) [0, 2] rfl ?_
        exact SX12_bad_L192   _ hrc166 _ _ _ _ _ E
noncomputable def X12_bad_L154 (F : Nat)  (rc25 : Nat → Int → Int → HP → Option (Int × HP)) (l0 : Nat) (l1 : Int) (l2 : Int) (s0 : Int) (s1 : Int) (s2 : Option Nat) (h : HP) : Option (Int × HP) :=
  (xsZ h s2 s1 s0).bind fun h1 =>
  rc25 l0 l1 (w32 (l2 + 1)) h1
set_option maxRecDepth 100000 in
theorem SX12_bad_L154 {K : Ctx} {F : Nat} {r : Int} {hf : HP}   (rc25 : Nat → Int → Int → HP → Option (Int × HP)) (hrc25 : ∀ l0 l1 l2 h, rc25 l0 l1 l2 h = some (r, hf) → Go K MX12_bad (QM K (some (vl r)) hf) hf 25 [(0, vr (some l0)), (1, vi l1), (2, vi l2)] [] h) (l0 : Nat) (l1 : Int) (l2 : Int) (s0 : Int) (s1 : Int) (s2 : Option Nat) (h : HP) (E : X12_bad_L154 F  rc25 l0 l1 l2 s0 s1 s2 h = some (r, hf)) : Go K MX12_bad (QM K (some (vl r)) hf) hf 154 [(0, vr (some l0)), (1, vi l1), (2, vi l2)] [vi s0, vi s1, vr s2] h := by
  unfold X12_bad_L154 at E
  replace E := Option.bind_eq_some_iff.mp E; obtain ⟨h1, eh1, E⟩ := E
  refine go_bastoreZ (n := 155) eh1 dX12_bad_154 rfl ?_
  refine go_iinc (j := 2) (n := 158) (lv' := [(2, vi (w32 (l2 + 1))), (0, vr (some l0)), (1, vi l1)]) rfl dX12_bad_155 rfl (Nat.le_of_ble_eq_true rfl) rfl ?_
  refine go_goto (tgt := 25) dX12_bad_158 rfl ?_
  refine go_pick (lv' := [(0, vr (some l0)), (1, vi l1), (2, vi (w32 (l2 + 1)))]) [1, 2, 0] rfl ?_
  exact hrc25 _ _ _ _ E
noncomputable def X12_bad_L149 (F : Nat)  (rc25 : Nat → Int → Int → HP → Option (Int × HP)) (l0 : Nat) (l1 : Int) (l2 : Int) (s0 : Int) (s1 : Option Nat) (h : HP) : Option (Int × HP) :=
  X12_bad_L154 F rc25 l0 l1 l2 1 s0 s1 h
set_option maxRecDepth 100000 in
theorem SX12_bad_L149 {K : Ctx} {F : Nat} {r : Int} {hf : HP}   (rc25 : Nat → Int → Int → HP → Option (Int × HP)) (hrc25 : ∀ l0 l1 l2 h, rc25 l0 l1 l2 h = some (r, hf) → Go K MX12_bad (QM K (some (vl r)) hf) hf 25 [(0, vr (some l0)), (1, vi l1), (2, vi l2)] [] h) (l0 : Nat) (l1 : Int) (l2 : Int) (s0 : Int) (s1 : Option Nat) (h : HP) (E : X12_bad_L149 F  rc25 l0 l1 l2 s0 s1 h = some (r, hf)) : Go K MX12_bad (QM K (some (vl r)) hf) hf 149 [(0, vr (some l0)), (1, vi l1), (2, vi l2)] [vi s0, vr s1] h := by
  unfold X12_bad_L149 at E
  refine go_iconst (z := 1) (n := 150) ⟨by decide, by decide⟩ dX12_bad_149 rfl ?_
  refine go_goto (tgt := 154) dX12_bad_150 rfl ?_
  exact SX12_bad_L154   _ hrc25 _ _ _ _ _ _ _ E
noncomputable def X12_bad_L153 (F : Nat)  (rc25 : Nat → Int → Int → HP → Option (Int × HP)) (l0 : Nat) (l1 : Int) (l2 : Int) (s0 : Int) (s1 : Option Nat) (h : HP) : Option (Int × HP) :=
  X12_bad_L154 F rc25 l0 l1 l2 0 s0 s1 h
set_option maxRecDepth 100000 in
theorem SX12_bad_L153 {K : Ctx} {F : Nat} {r : Int} {hf : HP}   (rc25 : Nat → Int → Int → HP → Option (Int × HP)) (hrc25 : ∀ l0 l1 l2 h, rc25 l0 l1 l2 h = some (r, hf) → Go K MX12_bad (QM K (some (vl r)) hf) hf 25 [(0, vr (some l0)), (1, vi l1), (2, vi l2)] [] h) (l0 : Nat) (l1 : Int) (l2 : Int) (s0 : Int) (s1 : Option Nat) (h : HP) (E : X12_bad_L153 F  rc25 l0 l1 l2 s0 s1 h = some (r, hf)) : Go K MX12_bad (QM K (some (vl r)) hf) hf 153 [(0, vr (some l0)), (1, vi l1), (2, vi l2)] [vi s0, vr s1] h := by
  unfold X12_bad_L153 at E
  refine go_iconst (z := 0) (n := 154) ⟨by decide, by decide⟩ dX12_bad_153 rfl ?_
  exact SX12_bad_L154   _ hrc25 _ _ _ _ _ _ _ E
noncomputable def X12_bad_L120 (F : Nat)  (rc25 : Nat → Int → Int → HP → Option (Int × HP)) (l0 : Nat) (l1 : Int) (l2 : Int) (l3 : Int)  (h : HP) : Option (Int × HP) :=
  (xgP h (some l0) 12 31 18).bind fun v1 =>
  (xrc h (some l0) 12 31).bind fun a4 =>
  xb (X12_of F a4 l2 1 h) fun v2 h3 =>
  if l1 = 0 then
    if (l3.tmod 2) = 1 then
      if (w32 (l3.tdiv 8)) = 1 then
        X12_bad_L149 F rc25 l0 l1 l2 v2 v1 h3
      else
        X12_bad_L153 F rc25 l0 l1 l2 v2 v1 h3
    else
      X12_bad_L153 F rc25 l0 l1 l2 v2 v1 h3
  else
    X12_bad_L149 F rc25 l0 l1 l2 v2 v1 h3
set_option maxRecDepth 100000 in
theorem SX12_bad_L120 {K : Ctx} {F : Nat} {r : Int} {hf : HP}   (rc25 : Nat → Int → Int → HP → Option (Int × HP)) (hrc25 : ∀ l0 l1 l2 h, rc25 l0 l1 l2 h = some (r, hf) → Go K MX12_bad (QM K (some (vl r)) hf) hf 25 [(0, vr (some l0)), (1, vi l1), (2, vi l2)] [] h) (l0 : Nat) (l1 : Int) (l2 : Int) (l3 : Int)  (h : HP) (E : X12_bad_L120 F  rc25 l0 l1 l2 l3 h = some (r, hf)) : Go K MX12_bad (QM K (some (vl r)) hf) hf 120 [(0, vr (some l0)), (1, vi l1), (2, vi l2), (3, vi l3)] [] h := by
  unfold X12_bad_L120 at E
  refine go_aload_n (j := 0) (n := 121) rfl rfl dX12_bad_120 rfl ?_
  replace E := Option.bind_eq_some_iff.mp E; obtain ⟨v1, ev1, E⟩ := E
  refine go_getP (n := 124) ev1 fl_RX12_41 rfl dX12_bad_121 rfl ?_
  refine go_aload_n (j := 0) (n := 125) rfl rfl dX12_bad_124 rfl ?_
  refine go_iload_n (j := 2) (n := 126) rfl rfl dX12_bad_125 rfl ?_
  refine go_iconst (z := 1) (n := 127) ⟨by decide, by decide⟩ dX12_bad_126 rfl ?_
  replace E := Option.bind_eq_some_iff.mp E; obtain ⟨a4, ea4, E⟩ := E
  obtain ⟨fa4, ga4⟩ := xrc_some ea4
  replace E := xb_some E; obtain ⟨v2, h3, ev2, E⟩ := E
  refine go_callV (y := yX12_of) (n := 130) (st := [vr v1]) (as := [vi l2, vi 1]) (stk9 := [vi v2, vr v1]) (OX12_of ev2) yw_X12_of ci_12 ga4 wml_RX12_100 wim_X12_of wse_X12_of (Nat.le_of_ble_eq_true rfl) rfl ⟨Nat.le_of_ble_eq_true rfl, Nat.le_of_ble_eq_true rfl⟩ (Nat.le_of_ble_eq_true rfl) dX12_bad_127 rfl (by cases fa4; rfl) rfl ?_
  refine go_iload_n (j := 1) (n := 131) rfl rfl dX12_bad_130 rfl ?_
  refine go_if_ne (tgt := 149) (n := 134) dX12_bad_131 rfl rfl (fun c5 => ?_) (fun c5 => ?_)
  · rw [if_neg c5] at E
    refine go_pick (lv' := [(0, vr (some l0)), (1, vi l1), (2, vi l2)]) [0, 1, 2] rfl ?_
    exact SX12_bad_L149   _ hrc25 _ _ _ _ _ _ E
  · rw [if_pos c5] at E
    refine go_iload_n (j := 3) (n := 135) rfl rfl dX12_bad_134 rfl ?_
    refine go_iconst (z := 2) (n := 136) ⟨by decide, by decide⟩ dX12_bad_135 rfl ?_
    refine go_irem (n := 137) (by decide) dX12_bad_136 rfl ?_
    refine go_iconst (z := 1) (n := 138) ⟨by decide, by decide⟩ dX12_bad_137 rfl ?_
    refine go_icmp_ne (tgt := 153) (n := 141) dX12_bad_138 rfl rfl (fun c6 => ?_) (fun c6 => ?_)
    · rw [if_neg c6] at E
      refine go_pick (lv' := [(0, vr (some l0)), (1, vi l1), (2, vi l2)]) [0, 1, 2] rfl ?_
      exact SX12_bad_L153   _ hrc25 _ _ _ _ _ _ E
    · rw [if_pos c6] at E
      refine go_iload_n (j := 3) (n := 142) rfl rfl dX12_bad_141 rfl ?_
      refine go_bipush (z := 8) (n := 144) ⟨by decide, by decide⟩ dX12_bad_142 rfl ?_
      refine go_idiv (n := 145) (by decide) dX12_bad_144 rfl ?_
      refine go_iconst (z := 1) (n := 146) ⟨by decide, by decide⟩ dX12_bad_145 rfl ?_
      refine go_icmp_ne (tgt := 153) (n := 149) dX12_bad_146 rfl rfl (fun c7 => ?_) (fun c7 => ?_)
      · rw [if_neg c7] at E
        refine go_pick (lv' := [(0, vr (some l0)), (1, vi l1), (2, vi l2)]) [0, 1, 2] rfl ?_
        exact SX12_bad_L153   _ hrc25 _ _ _ _ _ _ E
      · rw [if_pos c7] at E
        refine go_pick (lv' := [(0, vr (some l0)), (1, vi l1), (2, vi l2)]) [0, 1, 2] rfl ?_
        exact SX12_bad_L149   _ hrc25 _ _ _ _ _ _ E
noncomputable def X12_bad_L113 (F : Nat)  (rc25 : Nat → Int → Int → HP → Option (Int × HP)) (rc56 : Nat → Int → Int → Int → Int → HP → Option (Int × HP)) (l0 : Nat) (l2 : Int) (l3 : Int) (l4 : Int) (s0 : Int) (h : HP) : Option (Int × HP) :=
  rc56 l0 s0 l2 l3 (w32 (l4 + 1)) h
set_option maxRecDepth 100000 in
theorem SX12_bad_L113 {K : Ctx} {F : Nat} {r : Int} {hf : HP}   (rc25 : Nat → Int → Int → HP → Option (Int × HP)) (rc56 : Nat → Int → Int → Int → Int → HP → Option (Int × HP)) (hrc25 : ∀ l0 l1 l2 h, rc25 l0 l1 l2 h = some (r, hf) → Go K MX12_bad (QM K (some (vl r)) hf) hf 25 [(0, vr (some l0)), (1, vi l1), (2, vi l2)] [] h) (hrc56 : ∀ l0 l1 l2 l3 l4 h, rc56 l0 l1 l2 l3 l4 h = some (r, hf) → Go K MX12_bad (QM K (some (vl r)) hf) hf 56 [(0, vr (some l0)), (1, vi l1), (2, vi l2), (3, vi l3), (4, vi l4)] [] h) (l0 : Nat) (l2 : Int) (l3 : Int) (l4 : Int) (s0 : Int) (h : HP) (E : X12_bad_L113 F  rc25 rc56 l0 l2 l3 l4 s0 h = some (r, hf)) : Go K MX12_bad (QM K (some (vl r)) hf) hf 113 [(0, vr (some l0)), (2, vi l2), (3, vi l3), (4, vi l4)] [vi s0] h := by
  unfold X12_bad_L113 at E
  refine go_istore_n (n := 114) (lv' := [(1, vi s0), (0, vr (some l0)), (2, vi l2), (3, vi l3), (4, vi l4)]) rfl dX12_bad_113 rfl (Nat.le_of_ble_eq_true rfl) rfl ?_
  refine go_iinc (j := 4) (n := 117) (lv' := [(4, vi (w32 (l4 + 1))), (1, vi s0), (0, vr (some l0)), (2, vi l2), (3, vi l3)]) rfl dX12_bad_114 rfl (Nat.le_of_ble_eq_true rfl) rfl ?_
  refine go_goto (tgt := 56) dX12_bad_117 rfl ?_
  refine go_pick (lv' := [(0, vr (some l0)), (1, vi s0), (2, vi l2), (3, vi l3), (4, vi (w32 (l4 + 1)))]) [2, 1, 3, 4, 0] rfl ?_
  exact hrc56 _ _ _ _ _ _ E
noncomputable def X12_bad_L108 (F : Nat)  (rc25 : Nat → Int → Int → HP → Option (Int × HP)) (rc56 : Nat → Int → Int → Int → Int → HP → Option (Int × HP)) (l0 : Nat) (l2 : Int) (l3 : Int) (l4 : Int)  (h : HP) : Option (Int × HP) :=
  X12_bad_L113 F rc25 rc56 l0 l2 l3 l4 1 h
set_option maxRecDepth 100000 in
theorem SX12_bad_L108 {K : Ctx} {F : Nat} {r : Int} {hf : HP}   (rc25 : Nat → Int → Int → HP → Option (Int × HP)) (rc56 : Nat → Int → Int → Int → Int → HP → Option (Int × HP)) (hrc25 : ∀ l0 l1 l2 h, rc25 l0 l1 l2 h = some (r, hf) → Go K MX12_bad (QM K (some (vl r)) hf) hf 25 [(0, vr (some l0)), (1, vi l1), (2, vi l2)] [] h) (hrc56 : ∀ l0 l1 l2 l3 l4 h, rc56 l0 l1 l2 l3 l4 h = some (r, hf) → Go K MX12_bad (QM K (some (vl r)) hf) hf 56 [(0, vr (some l0)), (1, vi l1), (2, vi l2), (3, vi l3), (4, vi l4)] [] h) (l0 : Nat) (l2 : Int) (l3 : Int) (l4 : Int)  (h : HP) (E : X12_bad_L108 F  rc25 rc56 l0 l2 l3 l4 h = some (r, hf)) : Go K MX12_bad (QM K (some (vl r)) hf) hf 108 [(0, vr (some l0)), (2, vi l2), (3, vi l3), (4, vi l4)] [] h := by
  unfold X12_bad_L108 at E
  refine go_iconst (z := 1) (n := 109) ⟨by decide, by decide⟩ dX12_bad_108 rfl ?_
  refine go_goto (tgt := 113) dX12_bad_109 rfl ?_
  exact SX12_bad_L113   _ _ hrc25 hrc56 _ _ _ _ _ _ E
noncomputable def X12_bad_L112 (F : Nat)  (rc25 : Nat → Int → Int → HP → Option (Int × HP)) (rc56 : Nat → Int → Int → Int → Int → HP → Option (Int × HP)) (l0 : Nat) (l2 : Int) (l3 : Int) (l4 : Int)  (h : HP) : Option (Int × HP) :=
  X12_bad_L113 F rc25 rc56 l0 l2 l3 l4 0 h
set_option maxRecDepth 100000 in
theorem SX12_bad_L112 {K : Ctx} {F : Nat} {r : Int} {hf : HP}   (rc25 : Nat → Int → Int → HP → Option (Int × HP)) (rc56 : Nat → Int → Int → Int → Int → HP → Option (Int × HP)) (hrc25 : ∀ l0 l1 l2 h, rc25 l0 l1 l2 h = some (r, hf) → Go K MX12_bad (QM K (some (vl r)) hf) hf 25 [(0, vr (some l0)), (1, vi l1), (2, vi l2)] [] h) (hrc56 : ∀ l0 l1 l2 l3 l4 h, rc56 l0 l1 l2 l3 l4 h = some (r, hf) → Go K MX12_bad (QM K (some (vl r)) hf) hf 56 [(0, vr (some l0)), (1, vi l1), (2, vi l2), (3, vi l3), (4, vi l4)] [] h) (l0 : Nat) (l2 : Int) (l3 : Int) (l4 : Int)  (h : HP) (E : X12_bad_L112 F  rc25 rc56 l0 l2 l3 l4 h = some (r, hf)) : Go K MX12_bad (QM K (some (vl r)) hf) hf 112 [(0, vr (some l0)), (2, vi l2), (3, vi l3), (4, vi l4)] [] h := by
  unfold X12_bad_L112 at E
  refine go_iconst (z := 0) (n := 113) ⟨by decide, by decide⟩ dX12_bad_112 rfl ?_
  exact SX12_bad_L113   _ _ hrc25 hrc56 _ _ _ _ _ _ E
noncomputable def X12_bad_L56 (F : Nat)  (rc25 : Nat → Int → Int → HP → Option (Int × HP)) (k : Nat) : Nat → Int → Int → Int → Int → HP → Option (Int × HP) :=
  Nat.rec (motive := fun _ => Nat → Int → Int → Int → Int → HP → Option (Int × HP)) (fun _ _ _ _ _ _ => none) (fun _ rc56 l0 l1 l2 l3 l4 h =>
    if 64 ≤ l4 then
      X12_bad_L120 F rc25 l0 l1 l2 l3 h
    else
      if ((w32 (l3.tdiv 2)).tmod 2) = 1 then
        if l1 = 0 then
          (xgP h (some l0) 12 31 18).bind fun v4 =>
          (xaI h v4 103 l4).bind fun v5 =>
          if v5 = 0 then
            X12_bad_L112 F rc25 rc56 l0 l2 l3 l4 h
          else
            (xrc h (some l0) 12 31).bind fun a9 =>
            xb (X12_of F a9 l2 4 h) fun v7 h8 =>
            (xrc h8 (some l0) 12 31).bind fun a12 =>
            xb (X12_bitsOf F a12 v7 17 h8) fun v10 h11 =>
            if (xcmp (yand (yshr v10 l4) 1) 1) = 0 then
              X12_bad_L108 F rc25 rc56 l0 l2 l3 l4 h11
            else
              X12_bad_L112 F rc25 rc56 l0 l2 l3 l4 h11
        else
          X12_bad_L108 F rc25 rc56 l0 l2 l3 l4 h
      else
        X12_bad_L120 F rc25 l0 l1 l2 l3 h) k
theorem X12_bad_L56_s (F : Nat)  (rc25 : Nat → Int → Int → HP → Option (Int × HP)) (k : Nat) (l0 : Nat) (l1 : Int) (l2 : Int) (l3 : Int) (l4 : Int)  (h : HP) : X12_bad_L56 F  rc25 (k + 1) l0 l1 l2 l3 l4 h =
    if 64 ≤ l4 then
      X12_bad_L120 F rc25 l0 l1 l2 l3 h
    else
      if ((w32 (l3.tdiv 2)).tmod 2) = 1 then
        if l1 = 0 then
          (xgP h (some l0) 12 31 18).bind fun v4 =>
          (xaI h v4 103 l4).bind fun v5 =>
          if v5 = 0 then
            X12_bad_L112 F rc25 (X12_bad_L56 F rc25 k) l0 l2 l3 l4 h
          else
            (xrc h (some l0) 12 31).bind fun a9 =>
            xb (X12_of F a9 l2 4 h) fun v7 h8 =>
            (xrc h8 (some l0) 12 31).bind fun a12 =>
            xb (X12_bitsOf F a12 v7 17 h8) fun v10 h11 =>
            if (xcmp (yand (yshr v10 l4) 1) 1) = 0 then
              X12_bad_L108 F rc25 (X12_bad_L56 F rc25 k) l0 l2 l3 l4 h11
            else
              X12_bad_L112 F rc25 (X12_bad_L56 F rc25 k) l0 l2 l3 l4 h11
        else
          X12_bad_L108 F rc25 (X12_bad_L56 F rc25 k) l0 l2 l3 l4 h
      else
        X12_bad_L120 F rc25 l0 l1 l2 l3 h := rfl
set_option maxRecDepth 100000 in
theorem SX12_bad_L56 {K : Ctx} {F : Nat} {r : Int} {hf : HP}   (rc25 : Nat → Int → Int → HP → Option (Int × HP)) (hrc25 : ∀ l0 l1 l2 h, rc25 l0 l1 l2 h = some (r, hf) → Go K MX12_bad (QM K (some (vl r)) hf) hf 25 [(0, vr (some l0)), (1, vi l1), (2, vi l2)] [] h) : ∀ (k : Nat) (l0 : Nat) (l1 : Int) (l2 : Int) (l3 : Int) (l4 : Int)  (h : HP), X12_bad_L56 F  rc25 k l0 l1 l2 l3 l4 h = some (r, hf) → Go K MX12_bad (QM K (some (vl r)) hf) hf 56 [(0, vr (some l0)), (1, vi l1), (2, vi l2), (3, vi l3), (4, vi l4)] [] h := by
  intro k
  induction k with
  | zero => intro l0 l1 l2 l3 l4 h E; exact nomatch E
  | succ k hrc56 =>
    intro l0 l1 l2 l3 l4 h E
    rw [X12_bad_L56_s] at E
    refine go_iload (j := 4) (n := 58) rfl dX12_bad_56 rfl ?_
    refine go_bipush (z := 64) (n := 60) ⟨by decide, by decide⟩ dX12_bad_58 rfl ?_
    refine go_icmp_ge (tgt := 120) (n := 63) dX12_bad_60 rfl rfl (fun c1 => ?_) (fun c1 => ?_)
    · rw [if_pos c1] at E
      refine go_pick (lv' := [(0, vr (some l0)), (1, vi l1), (2, vi l2), (3, vi l3)]) [0, 1, 2, 3] rfl ?_
      exact SX12_bad_L120   _ hrc25 _ _ _ _  _ E
    · rw [if_neg c1] at E
      refine go_iload_n (j := 3) (n := 64) rfl rfl dX12_bad_63 rfl ?_
      refine go_iconst (z := 2) (n := 65) ⟨by decide, by decide⟩ dX12_bad_64 rfl ?_
      refine go_idiv (n := 66) (by decide) dX12_bad_65 rfl ?_
      refine go_iconst (z := 2) (n := 67) ⟨by decide, by decide⟩ dX12_bad_66 rfl ?_
      refine go_irem (n := 68) (by decide) dX12_bad_67 rfl ?_
      refine go_iconst (z := 1) (n := 69) ⟨by decide, by decide⟩ dX12_bad_68 rfl ?_
      refine go_icmp_ne (tgt := 120) (n := 72) dX12_bad_69 rfl rfl (fun c2 => ?_) (fun c2 => ?_)
      · rw [if_neg c2] at E
        refine go_pick (lv' := [(0, vr (some l0)), (1, vi l1), (2, vi l2), (3, vi l3)]) [0, 1, 2, 3] rfl ?_
        exact SX12_bad_L120   _ hrc25 _ _ _ _  _ E
      · rw [if_pos c2] at E
        refine go_iload_n (j := 1) (n := 73) rfl rfl dX12_bad_72 rfl ?_
        refine go_if_ne (tgt := 108) (n := 76) dX12_bad_73 rfl rfl (fun c3 => ?_) (fun c3 => ?_)
        · rw [if_neg c3] at E
          refine go_pick (lv' := [(0, vr (some l0)), (2, vi l2), (3, vi l3), (4, vi l4)]) [0, 2, 3, 4] rfl ?_
          exact SX12_bad_L108   _ _ hrc25 hrc56 _ _ _ _  _ E
        · rw [if_pos c3] at E
          refine go_aload_n (j := 0) (n := 77) rfl rfl dX12_bad_76 rfl ?_
          replace E := Option.bind_eq_some_iff.mp E; obtain ⟨v4, ev4, E⟩ := E
          refine go_getP (n := 80) ev4 fl_RX12_41 rfl dX12_bad_77 rfl ?_
          refine go_iload (j := 4) (n := 82) rfl dX12_bad_80 rfl ?_
          replace E := Option.bind_eq_some_iff.mp E; obtain ⟨v5, ev5, E⟩ := E
          refine go_baload (n := 83) (Or.inr rfl) ev5 dX12_bad_82 rfl ?_
          refine go_if_eq (tgt := 112) (n := 86) dX12_bad_83 rfl rfl (fun c6 => ?_) (fun c6 => ?_)
          · rw [if_pos c6] at E
            refine go_pick (lv' := [(0, vr (some l0)), (2, vi l2), (3, vi l3), (4, vi l4)]) [0, 2, 3, 4] rfl ?_
            exact SX12_bad_L112   _ _ hrc25 hrc56 _ _ _ _  _ E
          · rw [if_neg c6] at E
            refine go_aload_n (j := 0) (n := 87) rfl rfl dX12_bad_86 rfl ?_
            refine go_aload_n (j := 0) (n := 88) rfl rfl dX12_bad_87 rfl ?_
            refine go_iload_n (j := 2) (n := 89) rfl rfl dX12_bad_88 rfl ?_
            refine go_iconst (z := 4) (n := 90) ⟨by decide, by decide⟩ dX12_bad_89 rfl ?_
            replace E := Option.bind_eq_some_iff.mp E; obtain ⟨a9, ea9, E⟩ := E
            obtain ⟨fa9, ga9⟩ := xrc_some ea9
            replace E := xb_some E; obtain ⟨v7, h8, ev7, E⟩ := E
            refine go_callV (y := yX12_of) (n := 93) (st := [vr (some l0)]) (as := [vi l2, vi 4]) (stk9 := [vi v7, vr (some l0)]) (OX12_of ev7) yw_X12_of ci_12 ga9 wml_RX12_100 wim_X12_of wse_X12_of (Nat.le_of_ble_eq_true rfl) rfl ⟨Nat.le_of_ble_eq_true rfl, Nat.le_of_ble_eq_true rfl⟩ (Nat.le_of_ble_eq_true rfl) dX12_bad_90 rfl (by cases fa9; rfl) rfl ?_
            refine go_bipush (z := 17) (n := 95) ⟨by decide, by decide⟩ dX12_bad_93 rfl ?_
            replace E := Option.bind_eq_some_iff.mp E; obtain ⟨a12, ea12, E⟩ := E
            obtain ⟨fa12, ga12⟩ := xrc_some ea12
            replace E := xb_some E; obtain ⟨v10, h11, ev10, E⟩ := E
            refine go_callV (y := yX12_bitsOf) (n := 98) (st := []) (as := [vi v7, vi 17]) (stk9 := [vl v10]) (OX12_bitsOf ev10) yw_X12_bitsOf ci_12 ga12 wml_RX12_255 wim_X12_bitsOf wse_X12_bitsOf (Nat.le_of_ble_eq_true rfl) rfl ⟨Nat.le_of_ble_eq_true rfl, Nat.le_of_ble_eq_true rfl⟩ (Nat.le_of_ble_eq_true rfl) dX12_bad_95 rfl (by cases fa12; rfl) rfl ?_
            refine go_iload (j := 4) (n := 100) rfl dX12_bad_98 rfl ?_
            refine go_lshr (n := 101) dX12_bad_100 rfl ?_
            refine go_lconst (w := 1) (n := 102) rfl dX12_bad_101 rfl ?_
            refine go_land (n := 103) dX12_bad_102 rfl ?_
            refine go_lconst (w := 1) (n := 104) rfl dX12_bad_103 rfl ?_
            refine go_lcmp (n := 105) dX12_bad_104 rfl ?_
            refine go_if_ne (tgt := 112) (n := 108) dX12_bad_105 rfl rfl (fun c13 => ?_) (fun c13 => ?_)
            · rw [if_neg c13] at E
              refine go_pick (lv' := [(0, vr (some l0)), (2, vi l2), (3, vi l3), (4, vi l4)]) [0, 2, 3, 4] rfl ?_
              exact SX12_bad_L112   _ _ hrc25 hrc56 _ _ _ _  _ E
            · rw [if_pos c13] at E
              refine go_pick (lv' := [(0, vr (some l0)), (2, vi l2), (3, vi l3), (4, vi l4)]) [0, 2, 3, 4] rfl ?_
              exact SX12_bad_L108   _ _ hrc25 hrc56 _ _ _ _  _ E
noncomputable def X12_bad_L25 (F : Nat)   (k : Nat) : Nat → Int → Int → HP → Option (Int × HP) :=
  Nat.rec (motive := fun _ => Nat → Int → Int → HP → Option (Int × HP)) (fun _ _ _ _ => none) (fun _ rc25 l0 l1 l2 h =>
    (xrc h (some l0) 12 31).bind fun a3 =>
    xb (X12_writings F a3 h) fun v1 h2 =>
    if v1 ≤ l2 then
      X12_bad_L166 F F l0 0 0 h2
    else
      (xrc h2 (some l0) 12 31).bind fun a7 =>
      xb (X12_of F a7 l2 6 h2) fun v5 h6 =>
      (xrc h6 (some l0) 12 31).bind fun a10 =>
      xb (X12_of F a10 l2 5 h6) fun v8 h9 =>
      if v8 = l2 then
        X12_bad_L56 F rc25 F l0 0 l2 v5 0 h9
      else
        X12_bad_L120 F rc25 l0 l1 l2 v5 h9) k
theorem X12_bad_L25_s (F : Nat)   (k : Nat) (l0 : Nat) (l1 : Int) (l2 : Int)  (h : HP) : X12_bad_L25 F   (k + 1) l0 l1 l2 h =
    (xrc h (some l0) 12 31).bind fun a3 =>
    xb (X12_writings F a3 h) fun v1 h2 =>
    if v1 ≤ l2 then
      X12_bad_L166 F F l0 0 0 h2
    else
      (xrc h2 (some l0) 12 31).bind fun a7 =>
      xb (X12_of F a7 l2 6 h2) fun v5 h6 =>
      (xrc h6 (some l0) 12 31).bind fun a10 =>
      xb (X12_of F a10 l2 5 h6) fun v8 h9 =>
      if v8 = l2 then
        X12_bad_L56 F (X12_bad_L25 F k) F l0 0 l2 v5 0 h9
      else
        X12_bad_L120 F (X12_bad_L25 F k) l0 l1 l2 v5 h9 := rfl
set_option maxRecDepth 100000 in
theorem SX12_bad_L25 {K : Ctx} {F : Nat} {r : Int} {hf : HP}     : ∀ (k : Nat) (l0 : Nat) (l1 : Int) (l2 : Int)  (h : HP), X12_bad_L25 F   k l0 l1 l2 h = some (r, hf) → Go K MX12_bad (QM K (some (vl r)) hf) hf 25 [(0, vr (some l0)), (1, vi l1), (2, vi l2)] [] h := by
  intro k
  induction k with
  | zero => intro l0 l1 l2 h E; exact nomatch E
  | succ k hrc25 =>
    intro l0 l1 l2 h E
    rw [X12_bad_L25_s] at E
    refine go_iload_n (j := 2) (n := 26) rfl rfl dX12_bad_25 rfl ?_
    refine go_aload_n (j := 0) (n := 27) rfl rfl dX12_bad_26 rfl ?_
    replace E := Option.bind_eq_some_iff.mp E; obtain ⟨a3, ea3, E⟩ := E
    obtain ⟨fa3, ga3⟩ := xrc_some ea3
    replace E := xb_some E; obtain ⟨v1, h2, ev1, E⟩ := E
    refine go_callV (y := yX12_writings) (n := 30) (st := [vi l2]) (as := []) (stk9 := [vi v1, vi l2]) (OX12_writings ev1) yw_X12_writings ci_12 ga3 wml_RX12_79 wim_X12_writings wse_X12_writings (Nat.le_of_ble_eq_true rfl) rfl ⟨Nat.le_of_ble_eq_true rfl, Nat.le_of_ble_eq_true rfl⟩ (Nat.le_of_ble_eq_true rfl) dX12_bad_27 rfl (by cases fa3; rfl) rfl ?_
    refine go_icmp_ge (tgt := 161) (n := 33) dX12_bad_30 rfl rfl (fun c4 => ?_) (fun c4 => ?_)
    · rw [if_pos c4] at E
      refine go_lconst (w := 0) (n := 162) rfl dX12_bad_161 rfl ?_
      refine go_lstore_n (n := 163) (lv' := [(2, vl 0), (0, vr (some l0)), (1, vi l1)]) rfl dX12_bad_162 rfl (Nat.le_of_ble_eq_true rfl) rfl ?_
      refine go_iconst (z := 0) (n := 164) ⟨by decide, by decide⟩ dX12_bad_163 rfl ?_
      refine go_istore (n := 166) (lv' := [(4, vi 0), (2, vl 0), (0, vr (some l0)), (1, vi l1)]) dX12_bad_164 rfl (Nat.le_of_ble_eq_true rfl) rfl ?_
      refine go_pick (lv' := [(0, vr (some l0)), (2, vl 0), (4, vi 0)]) [2, 1, 0] rfl ?_
      exact SX12_bad_L166     F _ _ _ _ E
    · rw [if_neg c4] at E
      refine go_aload_n (j := 0) (n := 34) rfl rfl dX12_bad_33 rfl ?_
      refine go_iload_n (j := 2) (n := 35) rfl rfl dX12_bad_34 rfl ?_
      refine go_bipush (z := 6) (n := 37) ⟨by decide, by decide⟩ dX12_bad_35 rfl ?_
      replace E := Option.bind_eq_some_iff.mp E; obtain ⟨a7, ea7, E⟩ := E
      obtain ⟨fa7, ga7⟩ := xrc_some ea7
      replace E := xb_some E; obtain ⟨v5, h6, ev5, E⟩ := E
      refine go_callV (y := yX12_of) (n := 40) (st := []) (as := [vi l2, vi 6]) (stk9 := [vi v5]) (OX12_of ev5) yw_X12_of ci_12 ga7 wml_RX12_100 wim_X12_of wse_X12_of (Nat.le_of_ble_eq_true rfl) rfl ⟨Nat.le_of_ble_eq_true rfl, Nat.le_of_ble_eq_true rfl⟩ (Nat.le_of_ble_eq_true rfl) dX12_bad_37 rfl (by cases fa7; rfl) rfl ?_
      refine go_istore_n (n := 41) (lv' := [(3, vi v5), (0, vr (some l0)), (1, vi l1), (2, vi l2)]) rfl dX12_bad_40 rfl (Nat.le_of_ble_eq_true rfl) rfl ?_
      refine go_aload_n (j := 1) (n := 42) rfl rfl dX12_bad_41 rfl ?_
      refine go_iload_n (j := 3) (n := 43) rfl rfl dX12_bad_42 rfl ?_
      refine go_iconst (z := 5) (n := 44) ⟨by decide, by decide⟩ dX12_bad_43 rfl ?_
      replace E := Option.bind_eq_some_iff.mp E; obtain ⟨a10, ea10, E⟩ := E
      obtain ⟨fa10, ga10⟩ := xrc_some ea10
      replace E := xb_some E; obtain ⟨v8, h9, ev8, E⟩ := E
      refine go_callV (y := yX12_of) (n := 47) (st := []) (as := [vi l2, vi 5]) (stk9 := [vi v8]) (OX12_of ev8) yw_X12_of ci_12 ga10 wml_RX12_100 wim_X12_of wse_X12_of (Nat.le_of_ble_eq_true rfl) rfl ⟨Nat.le_of_ble_eq_true rfl, Nat.le_of_ble_eq_true rfl⟩ (Nat.le_of_ble_eq_true rfl) dX12_bad_44 rfl (by cases fa10; rfl) rfl ?_
      refine go_iload_n (j := 3) (n := 48) rfl rfl dX12_bad_47 rfl ?_
      refine go_icmp_ne (tgt := 120) (n := 51) dX12_bad_48 rfl rfl (fun c11 => ?_) (fun c11 => ?_)
      · rw [if_neg c11] at E
        refine go_pick (lv' := [(0, vr (some l0)), (1, vi l1), (2, vi l2), (3, vi v5)]) [1, 2, 3, 0] rfl ?_
        exact SX12_bad_L120   _ hrc25 _ _ _ _  _ E
      · rw [if_pos c11] at E
        refine go_iconst (z := 0) (n := 52) ⟨by decide, by decide⟩ dX12_bad_51 rfl ?_
        refine go_istore_n (n := 53) (lv' := [(1, vi 0), (3, vi v5), (0, vr (some l0)), (2, vi l2)]) rfl dX12_bad_52 rfl (Nat.le_of_ble_eq_true rfl) rfl ?_
        refine go_iconst (z := 0) (n := 54) ⟨by decide, by decide⟩ dX12_bad_53 rfl ?_
        refine go_istore (n := 56) (lv' := [(4, vi 0), (1, vi 0), (3, vi v5), (0, vr (some l0)), (2, vi l2)]) dX12_bad_54 rfl (Nat.le_of_ble_eq_true rfl) rfl ?_
        refine go_pick (lv' := [(0, vr (some l0)), (1, vi 0), (2, vi l2), (3, vi v5), (4, vi 0)]) [3, 1, 4, 2, 0] rfl ?_
        exact SX12_bad_L56   _ hrc25 F _ _ _ _ _ _ E
noncomputable def X12_bad_L2 (F : Nat)   (k : Nat) : Nat → Int → HP → Option (Int × HP) :=
  Nat.rec (motive := fun _ => Nat → Int → HP → Option (Int × HP)) (fun _ _ _ => none) (fun _ rc2 l0 l1 h =>
    if 64 ≤ l1 then
      X12_bad_L25 F F l0 0 0 h
    else
      (xgP h (some l0) 12 31 18).bind fun v2 =>
      (xsZ h v2 l1 0).bind fun h3 =>
      rc2 l0 (w32 (l1 + 1)) h3) k
theorem X12_bad_L2_s (F : Nat)   (k : Nat) (l0 : Nat) (l1 : Int)  (h : HP) : X12_bad_L2 F   (k + 1) l0 l1 h =
    if 64 ≤ l1 then
      X12_bad_L25 F F l0 0 0 h
    else
      (xgP h (some l0) 12 31 18).bind fun v2 =>
      (xsZ h v2 l1 0).bind fun h3 =>
      (X12_bad_L2 F k) l0 (w32 (l1 + 1)) h3 := rfl
set_option maxRecDepth 100000 in
theorem SX12_bad_L2 {K : Ctx} {F : Nat} {r : Int} {hf : HP}     : ∀ (k : Nat) (l0 : Nat) (l1 : Int)  (h : HP), X12_bad_L2 F   k l0 l1 h = some (r, hf) → Go K MX12_bad (QM K (some (vl r)) hf) hf 2 [(0, vr (some l0)), (1, vi l1)] [] h := by
  intro k
  induction k with
  | zero => intro l0 l1 h E; exact nomatch E
  | succ k hrc2 =>
    intro l0 l1 h E
    rw [X12_bad_L2_s] at E
    refine go_iload_n (j := 1) (n := 3) rfl rfl dX12_bad_2 rfl ?_
    refine go_bipush (z := 64) (n := 5) ⟨by decide, by decide⟩ dX12_bad_3 rfl ?_
    refine go_icmp_ge (tgt := 21) (n := 8) dX12_bad_5 rfl rfl (fun c1 => ?_) (fun c1 => ?_)
    · rw [if_pos c1] at E
      refine go_iconst (z := 0) (n := 22) ⟨by decide, by decide⟩ dX12_bad_21 rfl ?_
      refine go_istore_n (n := 23) (lv' := [(1, vi 0), (0, vr (some l0))]) rfl dX12_bad_22 rfl (Nat.le_of_ble_eq_true rfl) rfl ?_
      refine go_iconst (z := 0) (n := 24) ⟨by decide, by decide⟩ dX12_bad_23 rfl ?_
      refine go_istore_n (n := 25) (lv' := [(2, vi 0), (1, vi 0), (0, vr (some l0))]) rfl dX12_bad_24 rfl (Nat.le_of_ble_eq_true rfl) rfl ?_
      refine go_pick (lv' := [(0, vr (some l0)), (1, vi 0), (2, vi 0)]) [2, 1, 0] rfl ?_
      exact SX12_bad_L25     F _ _ _ _ E
    · rw [if_neg c1] at E
      refine go_aload_n (j := 0) (n := 9) rfl rfl dX12_bad_8 rfl ?_
      replace E := Option.bind_eq_some_iff.mp E; obtain ⟨v2, ev2, E⟩ := E
      refine go_getP (n := 12) ev2 fl_RX12_41 rfl dX12_bad_9 rfl ?_
      refine go_iload_n (j := 1) (n := 13) rfl rfl dX12_bad_12 rfl ?_
      refine go_iconst (z := 0) (n := 14) ⟨by decide, by decide⟩ dX12_bad_13 rfl ?_
      replace E := Option.bind_eq_some_iff.mp E; obtain ⟨h3, eh3, E⟩ := E
      refine go_bastoreZ (n := 15) eh3 dX12_bad_14 rfl ?_
      refine go_iinc (j := 1) (n := 18) (lv' := [(1, vi (w32 (l1 + 1))), (0, vr (some l0))]) rfl dX12_bad_15 rfl (Nat.le_of_ble_eq_true rfl) rfl ?_
      refine go_goto (tgt := 2) dX12_bad_18 rfl ?_
      refine go_pick (lv' := [(0, vr (some l0)), (1, vi (w32 (l1 + 1)))]) [1, 0] rfl ?_
      exact hrc2 _ _ _ E
noncomputable def X12_bad (F : Nat)   (l0 : Nat)  (h : HP) : Option (Int × HP) :=
  X12_bad_L2 F F l0 0 h
set_option maxRecDepth 100000 in
theorem SX12_bad {K : Ctx} {F : Nat} {r : Int} {hf : HP}     (l0 : Nat)  (h : HP) (E : X12_bad F   l0 h = some (r, hf)) : Go K MX12_bad (QM K (some (vl r)) hf) hf 0 [(0, vr (some l0))] [] h := by
  unfold X12_bad at E
  refine go_iconst (z := 0) (n := 1) ⟨by decide, by decide⟩ dX12_bad_0 rfl ?_
  refine go_istore_n (n := 2) (lv' := [(1, vi 0), (0, vr (some l0))]) rfl dX12_bad_1 rfl (Nat.le_of_ble_eq_true rfl) rfl ?_
  refine go_pick (lv' := [(0, vr (some l0)), (1, vi 0)]) [1, 0] rfl ?_
  exact SX12_bad_L2     F _ _ _ E
theorem OX12_bad {F : Nat} {l0 : Nat} {h hf : HP} {r : Int} (e : X12_bad F l0 h = some (r, hf)) : Ok MX12_bad [vr (some l0)] (some (vl r)) h hf := fun K _ _ _ => SX12_bad l0 h e
theorem yw_X12_bad : YW yX12_bad cX12_bad 5 (some .long) 0 := ⟨bw_of 2190 (by decide +kernel) rfl, bw_of 129 (by decide +kernel) rfl, ⟨by decide +kernel, by decide +kernel, by decide +kernel⟩, by decide +kernel⟩
theorem wml_RX12_320 : Cond.methodLink RX12 320 yX12_bad ∈ BW := bw_of 2187 (by decide +kernel) rfl
theorem wim_X12_bad : Cond.instanceMethod yX12_bad ∈ BW := bw_of 2189 (by decide +kernel) rfl
theorem wse_X12_bad : Cond.selects RX12 yX12_bad yX12_bad ∈ BW := bw_of 102 (by decide +kernel) rfl
abbrev MX12_doubted : MI := (RX12, cX12_doubted, 1, (some .long), 6, none, "doubted")
noncomputable def X12_doubted (F : Nat)   (l0 : Nat)  (h : HP) : Option (Int × HP) :=
  (xpI h (some l0) 12 31 0 0).bind fun h1 =>
  (xrc h1 (some l0) 12 31).bind fun a4 =>
  xb (X12_bad F a4 h1) fun v2 h3 =>
  some (v2, h3)
set_option maxRecDepth 100000 in
theorem SX12_doubted {K : Ctx} {F : Nat} {r : Int} {hf : HP}     (l0 : Nat)  (h : HP) (E : X12_doubted F   l0 h = some (r, hf)) : Go K MX12_doubted (QM K (some (vl r)) hf) hf 0 [(0, vr (some l0))] [] h := by
  unfold X12_doubted at E
  refine go_aload_n (j := 0) (n := 1) rfl rfl dX12_doubted_0 rfl ?_
  refine go_iconst (z := 0) (n := 2) ⟨by decide, by decide⟩ dX12_doubted_1 rfl ?_
  replace E := Option.bind_eq_some_iff.mp E; obtain ⟨h1, eh1, E⟩ := E
  refine go_putI (n := 5) eh1 fl_RX12_3 rfl dX12_doubted_2 rfl ?_
  refine go_aload_n (j := 0) (n := 6) rfl rfl dX12_doubted_5 rfl ?_
  replace E := Option.bind_eq_some_iff.mp E; obtain ⟨a4, ea4, E⟩ := E
  obtain ⟨fa4, ga4⟩ := xrc_some ea4
  replace E := xb_some E; obtain ⟨v2, h3, ev2, E⟩ := E
  refine go_callV (y := yX12_bad) (n := 9) (st := []) (as := []) (stk9 := [vl v2]) (OX12_bad ev2) yw_X12_bad ci_12 ga4 wml_RX12_320 wim_X12_bad wse_X12_bad (Nat.le_of_ble_eq_true rfl) rfl ⟨Nat.le_of_ble_eq_true rfl, Nat.le_of_ble_eq_true rfl⟩ (Nat.le_of_ble_eq_true rfl) dX12_doubted_6 rfl (by cases fa4; rfl) rfl ?_
  cases E
  exact go_lreturn rfl dX12_doubted_9
theorem OX12_doubted {F : Nat} {l0 : Nat} {h hf : HP} {r : Int} (e : X12_doubted F l0 h = some (r, hf)) : Ok MX12_doubted [vr (some l0)] (some (vl r)) h hf := fun K _ _ _ => SX12_doubted l0 h e
abbrev MX12_isSure : MI := (RX12, cX12_isSure, 7, (some .boolean), 6, none, "isSure")
noncomputable def X12_isSure_L143 (F : Nat)  (rc73 : Nat → Int → Int → Int → Int → HP → Option (Int × HP)) (l0 : Nat) (l2 : Int) (l3 : Int) (l6 : Int) (s0 : Int) (h : HP) : Option (Int × HP) :=
  rc73 l0 l2 l3 s0 (w32 (l6 + 1)) h
set_option maxRecDepth 100000 in
theorem SX12_isSure_L143 {K : Ctx} {F : Nat} {r : Int} {hf : HP}   (rc73 : Nat → Int → Int → Int → Int → HP → Option (Int × HP)) (hrc73 : ∀ l0 l2 l3 l5 l6 h, rc73 l0 l2 l3 l5 l6 h = some (r, hf) → Go K MX12_isSure (QM K (some (vi r)) hf) hf 73 [(0, vr (some l0)), (2, vi l2), (3, vl l3), (5, vi l5), (6, vi l6)] [] h) (l0 : Nat) (l2 : Int) (l3 : Int) (l6 : Int) (s0 : Int) (h : HP) (E : X12_isSure_L143 F  rc73 l0 l2 l3 l6 s0 h = some (r, hf)) : Go K MX12_isSure (QM K (some (vi r)) hf) hf 143 [(0, vr (some l0)), (2, vi l2), (3, vl l3), (6, vi l6)] [vi s0] h := by
  unfold X12_isSure_L143 at E
  refine go_istore (n := 145) (lv' := [(5, vi s0), (0, vr (some l0)), (2, vi l2), (3, vl l3), (6, vi l6)]) dX12_isSure_143 rfl (Nat.le_of_ble_eq_true rfl) rfl ?_
  refine go_iinc (j := 4) (n := 148) (lv' := [(6, vi (w32 (l6 + 1))), (5, vi s0), (0, vr (some l0)), (2, vi l2), (3, vl l3)]) rfl dX12_isSure_145 rfl (Nat.le_of_ble_eq_true rfl) rfl ?_
  refine go_goto (tgt := 73) dX12_isSure_148 rfl ?_
  refine go_pick (lv' := [(0, vr (some l0)), (2, vi l2), (3, vl l3), (5, vi s0), (6, vi (w32 (l6 + 1)))]) [2, 3, 4, 1, 0] rfl ?_
  exact hrc73 _ _ _ _ _ _ E
noncomputable def X12_isSure_L142 (F : Nat)  (rc73 : Nat → Int → Int → Int → Int → HP → Option (Int × HP)) (l0 : Nat) (l2 : Int) (l3 : Int) (l6 : Int)  (h : HP) : Option (Int × HP) :=
  X12_isSure_L143 F rc73 l0 l2 l3 l6 0 h
set_option maxRecDepth 100000 in
theorem SX12_isSure_L142 {K : Ctx} {F : Nat} {r : Int} {hf : HP}   (rc73 : Nat → Int → Int → Int → Int → HP → Option (Int × HP)) (hrc73 : ∀ l0 l2 l3 l5 l6 h, rc73 l0 l2 l3 l5 l6 h = some (r, hf) → Go K MX12_isSure (QM K (some (vi r)) hf) hf 73 [(0, vr (some l0)), (2, vi l2), (3, vl l3), (5, vi l5), (6, vi l6)] [] h) (l0 : Nat) (l2 : Int) (l3 : Int) (l6 : Int)  (h : HP) (E : X12_isSure_L142 F  rc73 l0 l2 l3 l6 h = some (r, hf)) : Go K MX12_isSure (QM K (some (vi r)) hf) hf 142 [(0, vr (some l0)), (2, vi l2), (3, vl l3), (6, vi l6)] [] h := by
  unfold X12_isSure_L142 at E
  refine go_iconst (z := 0) (n := 143) ⟨by decide, by decide⟩ dX12_isSure_142 rfl ?_
  exact SX12_isSure_L143   _ hrc73 _ _ _ _ _ _ E
noncomputable def X12_isSure_L138 (F : Nat)  (rc73 : Nat → Int → Int → Int → Int → HP → Option (Int × HP)) (l0 : Nat) (l2 : Int) (l3 : Int) (l6 : Int)  (h : HP) : Option (Int × HP) :=
  X12_isSure_L143 F rc73 l0 l2 l3 l6 1 h
set_option maxRecDepth 100000 in
theorem SX12_isSure_L138 {K : Ctx} {F : Nat} {r : Int} {hf : HP}   (rc73 : Nat → Int → Int → Int → Int → HP → Option (Int × HP)) (hrc73 : ∀ l0 l2 l3 l5 l6 h, rc73 l0 l2 l3 l5 l6 h = some (r, hf) → Go K MX12_isSure (QM K (some (vi r)) hf) hf 73 [(0, vr (some l0)), (2, vi l2), (3, vl l3), (5, vi l5), (6, vi l6)] [] h) (l0 : Nat) (l2 : Int) (l3 : Int) (l6 : Int)  (h : HP) (E : X12_isSure_L138 F  rc73 l0 l2 l3 l6 h = some (r, hf)) : Go K MX12_isSure (QM K (some (vi r)) hf) hf 138 [(0, vr (some l0)), (2, vi l2), (3, vl l3), (6, vi l6)] [] h := by
  unfold X12_isSure_L138 at E
  refine go_iconst (z := 1) (n := 139) ⟨by decide, by decide⟩ dX12_isSure_138 rfl ?_
  refine go_goto (tgt := 143) dX12_isSure_139 rfl ?_
  exact SX12_isSure_L143   _ hrc73 _ _ _ _ _ _ E
noncomputable def X12_isSure_L123 (F : Nat)  (rc73 : Nat → Int → Int → Int → Int → HP → Option (Int × HP)) (l0 : Nat) (l2 : Int) (l3 : Int) (l6 : Int)  (h : HP) : Option (Int × HP) :=
  (xrc h (some l0) 12 31).bind fun a3 =>
  xb (X12_bitsOf F a3 l6 19 h) fun v1 h2 =>
  if (xcmp (yand v1 l3) 0) = 0 then
    X12_isSure_L138 F rc73 l0 l2 l3 l6 h2
  else
    X12_isSure_L142 F rc73 l0 l2 l3 l6 h2
set_option maxRecDepth 100000 in
theorem SX12_isSure_L123 {K : Ctx} {F : Nat} {r : Int} {hf : HP}   (rc73 : Nat → Int → Int → Int → Int → HP → Option (Int × HP)) (hrc73 : ∀ l0 l2 l3 l5 l6 h, rc73 l0 l2 l3 l5 l6 h = some (r, hf) → Go K MX12_isSure (QM K (some (vi r)) hf) hf 73 [(0, vr (some l0)), (2, vi l2), (3, vl l3), (5, vi l5), (6, vi l6)] [] h) (l0 : Nat) (l2 : Int) (l3 : Int) (l6 : Int)  (h : HP) (E : X12_isSure_L123 F  rc73 l0 l2 l3 l6 h = some (r, hf)) : Go K MX12_isSure (QM K (some (vi r)) hf) hf 123 [(0, vr (some l0)), (2, vi l2), (3, vl l3), (6, vi l6)] [] h := by
  unfold X12_isSure_L123 at E
  refine go_aload_n (j := 0) (n := 124) rfl rfl dX12_isSure_123 rfl ?_
  refine go_iload (j := 3) (n := 126) rfl dX12_isSure_124 rfl ?_
  refine go_bipush (z := 19) (n := 128) ⟨by decide, by decide⟩ dX12_isSure_126 rfl ?_
  replace E := Option.bind_eq_some_iff.mp E; obtain ⟨a3, ea3, E⟩ := E
  obtain ⟨fa3, ga3⟩ := xrc_some ea3
  replace E := xb_some E; obtain ⟨v1, h2, ev1, E⟩ := E
  refine go_callV (y := yX12_bitsOf) (n := 131) (st := []) (as := [vi l6, vi 19]) (stk9 := [vl v1]) (OX12_bitsOf ev1) yw_X12_bitsOf ci_12 ga3 wml_RX12_255 wim_X12_bitsOf wse_X12_bitsOf (Nat.le_of_ble_eq_true rfl) rfl ⟨Nat.le_of_ble_eq_true rfl, Nat.le_of_ble_eq_true rfl⟩ (Nat.le_of_ble_eq_true rfl) dX12_isSure_128 rfl (by cases fa3; rfl) rfl ?_
  refine go_lload_n (j := 2) (n := 132) rfl rfl dX12_isSure_131 rfl ?_
  refine go_land (n := 133) dX12_isSure_132 rfl ?_
  refine go_lconst (w := 0) (n := 134) rfl dX12_isSure_133 rfl ?_
  refine go_lcmp (n := 135) dX12_isSure_134 rfl ?_
  refine go_if_ne (tgt := 142) (n := 138) dX12_isSure_135 rfl rfl (fun c4 => ?_) (fun c4 => ?_)
  · rw [if_neg c4] at E
    exact SX12_isSure_L142   _ hrc73 _ _ _ _  _ E
  · rw [if_pos c4] at E
    exact SX12_isSure_L138   _ hrc73 _ _ _ _  _ E
noncomputable def X12_isSure_L73 (F : Nat)   (k : Nat) : Nat → Int → Int → Int → Int → HP → Option (Int × HP) :=
  Nat.rec (motive := fun _ => Nat → Int → Int → Int → Int → HP → Option (Int × HP)) (fun _ _ _ _ _ _ => none) (fun _ rc73 l0 l2 l3 l5 l6 h =>
    (xgP h (some l0) 12 31 1).bind fun v1 =>
    (xaI h v1 100 8).bind fun v2 =>
    if v2 ≤ l6 then
      xz l5 h
    else
      if l5 = 0 then
        X12_isSure_L142 F rc73 l0 l2 l3 l6 h
      else
        if (xand (xshr l2 l6) 1) = 0 then
          X12_isSure_L138 F rc73 l0 l2 l3 l6 h
        else
          (xrc h (some l0) 12 31).bind fun a9 =>
          xb (X12_its F a9 l6 8 h) fun v7 h8 =>
          if v7 = 2 then
            X12_isSure_L123 F rc73 l0 l2 l3 l6 h8
          else
            (xrc h8 (some l0) 12 31).bind fun a13 =>
            xb (X12_its F a13 l6 8 h8) fun v11 h12 =>
            if v11 = 4 then
              X12_isSure_L123 F rc73 l0 l2 l3 l6 h12
            else
              X12_isSure_L142 F rc73 l0 l2 l3 l6 h12) k
theorem X12_isSure_L73_s (F : Nat)   (k : Nat) (l0 : Nat) (l2 : Int) (l3 : Int) (l5 : Int) (l6 : Int)  (h : HP) : X12_isSure_L73 F   (k + 1) l0 l2 l3 l5 l6 h =
    (xgP h (some l0) 12 31 1).bind fun v1 =>
    (xaI h v1 100 8).bind fun v2 =>
    if v2 ≤ l6 then
      xz l5 h
    else
      if l5 = 0 then
        X12_isSure_L142 F (X12_isSure_L73 F k) l0 l2 l3 l6 h
      else
        if (xand (xshr l2 l6) 1) = 0 then
          X12_isSure_L138 F (X12_isSure_L73 F k) l0 l2 l3 l6 h
        else
          (xrc h (some l0) 12 31).bind fun a9 =>
          xb (X12_its F a9 l6 8 h) fun v7 h8 =>
          if v7 = 2 then
            X12_isSure_L123 F (X12_isSure_L73 F k) l0 l2 l3 l6 h8
          else
            (xrc h8 (some l0) 12 31).bind fun a13 =>
            xb (X12_its F a13 l6 8 h8) fun v11 h12 =>
            if v11 = 4 then
              X12_isSure_L123 F (X12_isSure_L73 F k) l0 l2 l3 l6 h12
            else
              X12_isSure_L142 F (X12_isSure_L73 F k) l0 l2 l3 l6 h12 := rfl
set_option maxRecDepth 100000 in
theorem SX12_isSure_L73 {K : Ctx} {F : Nat} {r : Int} {hf : HP}     : ∀ (k : Nat) (l0 : Nat) (l2 : Int) (l3 : Int) (l5 : Int) (l6 : Int)  (h : HP), X12_isSure_L73 F   k l0 l2 l3 l5 l6 h = some (r, hf) → Go K MX12_isSure (QM K (some (vi r)) hf) hf 73 [(0, vr (some l0)), (2, vi l2), (3, vl l3), (5, vi l5), (6, vi l6)] [] h := by
  intro k
  induction k with
  | zero => intro l0 l2 l3 l5 l6 h E; exact nomatch E
  | succ k hrc73 =>
    intro l0 l2 l3 l5 l6 h E
    rw [X12_isSure_L73_s] at E
    refine go_iload (j := 4) (n := 75) rfl dX12_isSure_73 rfl ?_
    refine go_aload_n (j := 0) (n := 76) rfl rfl dX12_isSure_75 rfl ?_
    replace E := Option.bind_eq_some_iff.mp E; obtain ⟨v1, ev1, E⟩ := E
    refine go_getP (n := 79) ev1 fl_RX12_14 rfl dX12_isSure_76 rfl ?_
    refine go_bipush (z := 8) (n := 81) ⟨by decide, by decide⟩ dX12_isSure_79 rfl ?_
    replace E := Option.bind_eq_some_iff.mp E; obtain ⟨v2, ev2, E⟩ := E
    refine go_iaload (n := 82) ev2 dX12_isSure_81 rfl ?_
    refine go_icmp_ge (tgt := 151) (n := 85) dX12_isSure_82 rfl rfl (fun c3 => ?_) (fun c3 => ?_)
    · rw [if_pos c3] at E
      refine go_iload (j := 3) (n := 153) rfl dX12_isSure_151 rfl ?_
      unfold xz at E
      split at E
      · next c4 =>
        cases E
        exact go_zreturn rfl c4 dX12_isSure_153
      · cases E
    · rw [if_neg c3] at E
      refine go_iload (j := 3) (n := 87) rfl dX12_isSure_85 rfl ?_
      refine go_if_eq (tgt := 142) (n := 90) dX12_isSure_87 rfl rfl (fun c5 => ?_) (fun c5 => ?_)
      · rw [if_pos c5] at E
        refine go_pick (lv' := [(0, vr (some l0)), (2, vi l2), (3, vl l3), (6, vi l6)]) [0, 1, 2, 4] rfl ?_
        exact SX12_isSure_L142   _ hrc73 _ _ _ _  _ E
      · rw [if_neg c5] at E
        refine go_iload_n (j := 1) (n := 91) rfl rfl dX12_isSure_90 rfl ?_
        refine go_iload (j := 4) (n := 93) rfl dX12_isSure_91 rfl ?_
        refine go_ishr (n := 94) dX12_isSure_93 rfl ?_
        refine go_iconst (z := 1) (n := 95) ⟨by decide, by decide⟩ dX12_isSure_94 rfl ?_
        refine go_iand (n := 96) dX12_isSure_95 rfl ?_
        refine go_if_eq (tgt := 138) (n := 99) dX12_isSure_96 rfl rfl (fun c6 => ?_) (fun c6 => ?_)
        · rw [if_pos c6] at E
          refine go_pick (lv' := [(0, vr (some l0)), (2, vi l2), (3, vl l3), (6, vi l6)]) [0, 1, 2, 4] rfl ?_
          exact SX12_isSure_L138   _ hrc73 _ _ _ _  _ E
        · rw [if_neg c6] at E
          refine go_aload_n (j := 0) (n := 100) rfl rfl dX12_isSure_99 rfl ?_
          refine go_iload (j := 4) (n := 102) rfl dX12_isSure_100 rfl ?_
          refine go_bipush (z := 8) (n := 104) ⟨by decide, by decide⟩ dX12_isSure_102 rfl ?_
          replace E := Option.bind_eq_some_iff.mp E; obtain ⟨a9, ea9, E⟩ := E
          obtain ⟨fa9, ga9⟩ := xrc_some ea9
          replace E := xb_some E; obtain ⟨v7, h8, ev7, E⟩ := E
          refine go_callV (y := yX12_its) (n := 107) (st := []) (as := [vi l6, vi 8]) (stk9 := [vi v7]) (OX12_its ev7) yw_X12_its ci_12 ga9 wml_RX12_250 wim_X12_its wse_X12_its (Nat.le_of_ble_eq_true rfl) rfl ⟨Nat.le_of_ble_eq_true rfl, Nat.le_of_ble_eq_true rfl⟩ (Nat.le_of_ble_eq_true rfl) dX12_isSure_104 rfl (by cases fa9; rfl) rfl ?_
          refine go_iconst (z := 2) (n := 108) ⟨by decide, by decide⟩ dX12_isSure_107 rfl ?_
          refine go_icmp_eq (tgt := 123) (n := 111) dX12_isSure_108 rfl rfl (fun c10 => ?_) (fun c10 => ?_)
          · rw [if_pos c10] at E
            refine go_pick (lv' := [(0, vr (some l0)), (2, vi l2), (3, vl l3), (6, vi l6)]) [0, 1, 2, 4] rfl ?_
            exact SX12_isSure_L123   _ hrc73 _ _ _ _  _ E
          · rw [if_neg c10] at E
            refine go_aload_n (j := 0) (n := 112) rfl rfl dX12_isSure_111 rfl ?_
            refine go_iload (j := 4) (n := 114) rfl dX12_isSure_112 rfl ?_
            refine go_bipush (z := 8) (n := 116) ⟨by decide, by decide⟩ dX12_isSure_114 rfl ?_
            replace E := Option.bind_eq_some_iff.mp E; obtain ⟨a13, ea13, E⟩ := E
            obtain ⟨fa13, ga13⟩ := xrc_some ea13
            replace E := xb_some E; obtain ⟨v11, h12, ev11, E⟩ := E
            refine go_callV (y := yX12_its) (n := 119) (st := []) (as := [vi l6, vi 8]) (stk9 := [vi v11]) (OX12_its ev11) yw_X12_its ci_12 ga13 wml_RX12_250 wim_X12_its wse_X12_its (Nat.le_of_ble_eq_true rfl) rfl ⟨Nat.le_of_ble_eq_true rfl, Nat.le_of_ble_eq_true rfl⟩ (Nat.le_of_ble_eq_true rfl) dX12_isSure_116 rfl (by cases fa13; rfl) rfl ?_
            refine go_iconst (z := 4) (n := 120) ⟨by decide, by decide⟩ dX12_isSure_119 rfl ?_
            refine go_icmp_ne (tgt := 142) (n := 123) dX12_isSure_120 rfl rfl (fun c14 => ?_) (fun c14 => ?_)
            · rw [if_neg c14] at E
              refine go_pick (lv' := [(0, vr (some l0)), (2, vi l2), (3, vl l3), (6, vi l6)]) [0, 1, 2, 4] rfl ?_
              exact SX12_isSure_L142   _ hrc73 _ _ _ _  _ E
            · rw [if_pos c14] at E
              refine go_pick (lv' := [(0, vr (some l0)), (2, vi l2), (3, vl l3), (6, vi l6)]) [0, 1, 2, 4] rfl ?_
              exact SX12_isSure_L123   _ hrc73 _ _ _ _  _ E
noncomputable def X12_isSure_L48 (F : Nat)  (rc6 : Nat → Int → Int → HP → Option (Int × HP)) (rc15 : Nat → Int → Int → Int → HP → Option (Int × HP)) (l0 : Nat) (l3 : Int) (l4 : Int) (s0 : Int) (s1 : Int) (h : HP) : Option (Int × HP) :=
  rc15 l0 (xor_ s1 s0) l3 (w32 (l4 + 1)) h
set_option maxRecDepth 100000 in
theorem SX12_isSure_L48 {K : Ctx} {F : Nat} {r : Int} {hf : HP}   (rc6 : Nat → Int → Int → HP → Option (Int × HP)) (rc15 : Nat → Int → Int → Int → HP → Option (Int × HP)) (hrc6 : ∀ l0 l2 l3 h, rc6 l0 l2 l3 h = some (r, hf) → Go K MX12_isSure (QM K (some (vi r)) hf) hf 6 [(0, vr (some l0)), (2, vi l2), (3, vi l3)] [] h) (hrc15 : ∀ l0 l2 l3 l4 h, rc15 l0 l2 l3 l4 h = some (r, hf) → Go K MX12_isSure (QM K (some (vi r)) hf) hf 15 [(0, vr (some l0)), (2, vi l2), (3, vi l3), (4, vi l4)] [] h) (l0 : Nat) (l3 : Int) (l4 : Int) (s0 : Int) (s1 : Int) (h : HP) (E : X12_isSure_L48 F  rc6 rc15 l0 l3 l4 s0 s1 h = some (r, hf)) : Go K MX12_isSure (QM K (some (vi r)) hf) hf 48 [(0, vr (some l0)), (3, vi l3), (4, vi l4)] [vi s0, vi s1] h := by
  unfold X12_isSure_L48 at E
  refine go_ior (n := 49) dX12_isSure_48 rfl ?_
  refine go_istore_n (n := 50) (lv' := [(2, vi (xor_ s1 s0)), (0, vr (some l0)), (3, vi l3), (4, vi l4)]) rfl dX12_isSure_49 rfl (Nat.le_of_ble_eq_true rfl) rfl ?_
  refine go_iinc (j := 3) (n := 53) (lv' := [(4, vi (w32 (l4 + 1))), (2, vi (xor_ s1 s0)), (0, vr (some l0)), (3, vi l3)]) rfl dX12_isSure_50 rfl (Nat.le_of_ble_eq_true rfl) rfl ?_
  refine go_goto (tgt := 15) dX12_isSure_53 rfl ?_
  refine go_pick (lv' := [(0, vr (some l0)), (2, vi (xor_ s1 s0)), (3, vi l3), (4, vi (w32 (l4 + 1)))]) [2, 1, 3, 0] rfl ?_
  exact hrc15 _ _ _ _ _ E
noncomputable def X12_isSure_L15 (F : Nat)  (rc6 : Nat → Int → Int → HP → Option (Int × HP)) (k : Nat) : Nat → Int → Int → Int → HP → Option (Int × HP) :=
  Nat.rec (motive := fun _ => Nat → Int → Int → Int → HP → Option (Int × HP)) (fun _ _ _ _ _ => none) (fun _ rc15 l0 l2 l3 l4 h =>
    (xgP h (some l0) 12 31 1).bind fun v1 =>
    (xaI h v1 100 8).bind fun v2 =>
    if v2 ≤ l4 then
      rc6 l0 l2 (w32 (l3 + 1)) h
    else
      if (xand (xshr l2 l4) 1) = 1 then
        (xrc h (some l0) 12 31).bind fun a7 =>
        xb (X12_leansOf F a7 l4 h) fun v5 h6 =>
        X12_isSure_L48 F rc6 rc15 l0 l3 l4 v5 l2 h6
      else
        X12_isSure_L48 F rc6 rc15 l0 l3 l4 0 l2 h) k
theorem X12_isSure_L15_s (F : Nat)  (rc6 : Nat → Int → Int → HP → Option (Int × HP)) (k : Nat) (l0 : Nat) (l2 : Int) (l3 : Int) (l4 : Int)  (h : HP) : X12_isSure_L15 F  rc6 (k + 1) l0 l2 l3 l4 h =
    (xgP h (some l0) 12 31 1).bind fun v1 =>
    (xaI h v1 100 8).bind fun v2 =>
    if v2 ≤ l4 then
      rc6 l0 l2 (w32 (l3 + 1)) h
    else
      if (xand (xshr l2 l4) 1) = 1 then
        (xrc h (some l0) 12 31).bind fun a7 =>
        xb (X12_leansOf F a7 l4 h) fun v5 h6 =>
        X12_isSure_L48 F rc6 (X12_isSure_L15 F rc6 k) l0 l3 l4 v5 l2 h6
      else
        X12_isSure_L48 F rc6 (X12_isSure_L15 F rc6 k) l0 l3 l4 0 l2 h := rfl
set_option maxRecDepth 100000 in
theorem SX12_isSure_L15 {K : Ctx} {F : Nat} {r : Int} {hf : HP}   (rc6 : Nat → Int → Int → HP → Option (Int × HP)) (hrc6 : ∀ l0 l2 l3 h, rc6 l0 l2 l3 h = some (r, hf) → Go K MX12_isSure (QM K (some (vi r)) hf) hf 6 [(0, vr (some l0)), (2, vi l2), (3, vi l3)] [] h) : ∀ (k : Nat) (l0 : Nat) (l2 : Int) (l3 : Int) (l4 : Int)  (h : HP), X12_isSure_L15 F  rc6 k l0 l2 l3 l4 h = some (r, hf) → Go K MX12_isSure (QM K (some (vi r)) hf) hf 15 [(0, vr (some l0)), (2, vi l2), (3, vi l3), (4, vi l4)] [] h := by
  intro k
  induction k with
  | zero => intro l0 l2 l3 l4 h E; exact nomatch E
  | succ k hrc15 =>
    intro l0 l2 l3 l4 h E
    rw [X12_isSure_L15_s] at E
    refine go_iload (j := 3) (n := 17) rfl dX12_isSure_15 rfl ?_
    refine go_aload_n (j := 0) (n := 18) rfl rfl dX12_isSure_17 rfl ?_
    replace E := Option.bind_eq_some_iff.mp E; obtain ⟨v1, ev1, E⟩ := E
    refine go_getP (n := 21) ev1 fl_RX12_14 rfl dX12_isSure_18 rfl ?_
    refine go_bipush (z := 8) (n := 23) ⟨by decide, by decide⟩ dX12_isSure_21 rfl ?_
    replace E := Option.bind_eq_some_iff.mp E; obtain ⟨v2, ev2, E⟩ := E
    refine go_iaload (n := 24) ev2 dX12_isSure_23 rfl ?_
    refine go_icmp_ge (tgt := 56) (n := 27) dX12_isSure_24 rfl rfl (fun c3 => ?_) (fun c3 => ?_)
    · rw [if_pos c3] at E
      refine go_iinc (j := 2) (n := 59) (lv' := [(3, vi (w32 (l3 + 1))), (0, vr (some l0)), (2, vi l2), (4, vi l4)]) rfl dX12_isSure_56 rfl (Nat.le_of_ble_eq_true rfl) rfl ?_
      refine go_goto (tgt := 6) dX12_isSure_59 rfl ?_
      refine go_pick (lv' := [(0, vr (some l0)), (2, vi l2), (3, vi (w32 (l3 + 1)))]) [1, 2, 0] rfl ?_
      exact hrc6 _ _ _ _ E
    · rw [if_neg c3] at E
      refine go_iload_n (j := 1) (n := 28) rfl rfl dX12_isSure_27 rfl ?_
      refine go_iload_n (j := 1) (n := 29) rfl rfl dX12_isSure_28 rfl ?_
      refine go_iload (j := 3) (n := 31) rfl dX12_isSure_29 rfl ?_
      refine go_ishr (n := 32) dX12_isSure_31 rfl ?_
      refine go_iconst (z := 1) (n := 33) ⟨by decide, by decide⟩ dX12_isSure_32 rfl ?_
      refine go_iand (n := 34) dX12_isSure_33 rfl ?_
      refine go_iconst (z := 1) (n := 35) ⟨by decide, by decide⟩ dX12_isSure_34 rfl ?_
      refine go_icmp_ne (tgt := 47) (n := 38) dX12_isSure_35 rfl rfl (fun c4 => ?_) (fun c4 => ?_)
      · rw [if_neg c4] at E
        refine go_iconst (z := 0) (n := 48) ⟨by decide, by decide⟩ dX12_isSure_47 rfl ?_
        refine go_pick (lv' := [(0, vr (some l0)), (3, vi l3), (4, vi l4)]) [0, 2, 3] rfl ?_
        exact SX12_isSure_L48   _ _ hrc6 hrc15 _ _ _ _ _ _ E
      · rw [if_pos c4] at E
        refine go_aload_n (j := 0) (n := 39) rfl rfl dX12_isSure_38 rfl ?_
        refine go_iload (j := 3) (n := 41) rfl dX12_isSure_39 rfl ?_
        replace E := Option.bind_eq_some_iff.mp E; obtain ⟨a7, ea7, E⟩ := E
        obtain ⟨fa7, ga7⟩ := xrc_some ea7
        replace E := xb_some E; obtain ⟨v5, h6, ev5, E⟩ := E
        refine go_callV (y := yX12_leansOf) (n := 44) (st := [vi l2]) (as := [vi l4]) (stk9 := [vi v5, vi l2]) (OX12_leansOf ev5) yw_X12_leansOf ci_12 ga7 wml_RX12_259 wim_X12_leansOf wse_X12_leansOf (Nat.le_of_ble_eq_true rfl) rfl ⟨Nat.le_of_ble_eq_true rfl, Nat.le_of_ble_eq_true rfl⟩ (Nat.le_of_ble_eq_true rfl) dX12_isSure_41 rfl (by cases fa7; rfl) rfl ?_
        refine go_goto (tgt := 48) dX12_isSure_44 rfl ?_
        refine go_pick (lv' := [(0, vr (some l0)), (3, vi l3), (4, vi l4)]) [0, 2, 3] rfl ?_
        exact SX12_isSure_L48   _ _ hrc6 hrc15 _ _ _ _ _ _ E
noncomputable def X12_isSure_L6 (F : Nat)   (k : Nat) : Nat → Int → Int → HP → Option (Int × HP) :=
  Nat.rec (motive := fun _ => Nat → Int → Int → HP → Option (Int × HP)) (fun _ _ _ _ => none) (fun _ rc6 l0 l2 l3 h =>
    if 12 ≤ l3 then
      (xrc h (some l0) 12 31).bind fun a4 =>
      xb (X12_bad F a4 h) fun v2 h3 =>
      X12_isSure_L73 F F l0 l2 v2 1 0 h3
    else
      X12_isSure_L15 F rc6 F l0 l2 l3 0 h) k
theorem X12_isSure_L6_s (F : Nat)   (k : Nat) (l0 : Nat) (l2 : Int) (l3 : Int)  (h : HP) : X12_isSure_L6 F   (k + 1) l0 l2 l3 h =
    if 12 ≤ l3 then
      (xrc h (some l0) 12 31).bind fun a4 =>
      xb (X12_bad F a4 h) fun v2 h3 =>
      X12_isSure_L73 F F l0 l2 v2 1 0 h3
    else
      X12_isSure_L15 F (X12_isSure_L6 F k) F l0 l2 l3 0 h := rfl
set_option maxRecDepth 100000 in
theorem SX12_isSure_L6 {K : Ctx} {F : Nat} {r : Int} {hf : HP}     : ∀ (k : Nat) (l0 : Nat) (l2 : Int) (l3 : Int)  (h : HP), X12_isSure_L6 F   k l0 l2 l3 h = some (r, hf) → Go K MX12_isSure (QM K (some (vi r)) hf) hf 6 [(0, vr (some l0)), (2, vi l2), (3, vi l3)] [] h := by
  intro k
  induction k with
  | zero => intro l0 l2 l3 h E; exact nomatch E
  | succ k hrc6 =>
    intro l0 l2 l3 h E
    rw [X12_isSure_L6_s] at E
    refine go_iload_n (j := 2) (n := 7) rfl rfl dX12_isSure_6 rfl ?_
    refine go_bipush (z := 12) (n := 9) ⟨by decide, by decide⟩ dX12_isSure_7 rfl ?_
    refine go_icmp_ge (tgt := 62) (n := 12) dX12_isSure_9 rfl rfl (fun c1 => ?_) (fun c1 => ?_)
    · rw [if_pos c1] at E
      refine go_aload_n (j := 0) (n := 63) rfl rfl dX12_isSure_62 rfl ?_
      replace E := Option.bind_eq_some_iff.mp E; obtain ⟨a4, ea4, E⟩ := E
      obtain ⟨fa4, ga4⟩ := xrc_some ea4
      replace E := xb_some E; obtain ⟨v2, h3, ev2, E⟩ := E
      refine go_callV (y := yX12_bad) (n := 66) (st := []) (as := []) (stk9 := [vl v2]) (OX12_bad ev2) yw_X12_bad ci_12 ga4 wml_RX12_320 wim_X12_bad wse_X12_bad (Nat.le_of_ble_eq_true rfl) rfl ⟨Nat.le_of_ble_eq_true rfl, Nat.le_of_ble_eq_true rfl⟩ (Nat.le_of_ble_eq_true rfl) dX12_isSure_63 rfl (by cases fa4; rfl) rfl ?_
      refine go_lstore_n (n := 67) (lv' := [(3, vl v2), (0, vr (some l0)), (2, vi l2)]) rfl dX12_isSure_66 rfl (Nat.le_of_ble_eq_true rfl) rfl ?_
      refine go_iconst (z := 1) (n := 68) ⟨by decide, by decide⟩ dX12_isSure_67 rfl ?_
      refine go_istore (n := 70) (lv' := [(5, vi 1), (3, vl v2), (0, vr (some l0)), (2, vi l2)]) dX12_isSure_68 rfl (Nat.le_of_ble_eq_true rfl) rfl ?_
      refine go_iconst (z := 0) (n := 71) ⟨by decide, by decide⟩ dX12_isSure_70 rfl ?_
      refine go_istore (n := 73) (lv' := [(6, vi 0), (5, vi 1), (3, vl v2), (0, vr (some l0)), (2, vi l2)]) dX12_isSure_71 rfl (Nat.le_of_ble_eq_true rfl) rfl ?_
      refine go_pick (lv' := [(0, vr (some l0)), (2, vi l2), (3, vl v2), (5, vi 1), (6, vi 0)]) [3, 4, 2, 1, 0] rfl ?_
      exact SX12_isSure_L73     F _ _ _ _ _ _ E
    · rw [if_neg c1] at E
      refine go_iconst (z := 0) (n := 13) ⟨by decide, by decide⟩ dX12_isSure_12 rfl ?_
      refine go_istore (n := 15) (lv' := [(4, vi 0), (0, vr (some l0)), (2, vi l2), (3, vi l3)]) dX12_isSure_13 rfl (Nat.le_of_ble_eq_true rfl) rfl ?_
      refine go_pick (lv' := [(0, vr (some l0)), (2, vi l2), (3, vi l3), (4, vi 0)]) [1, 2, 3, 0] rfl ?_
      exact SX12_isSure_L15   _ hrc6 F _ _ _ _ _ E
noncomputable def X12_isSure (F : Nat)   (l0 : Nat) (l1 : Int)  (h : HP) : Option (Int × HP) :=
  X12_isSure_L6 F F l0 (xshl 1 l1) 0 h
set_option maxRecDepth 100000 in
theorem SX12_isSure {K : Ctx} {F : Nat} {r : Int} {hf : HP}     (l0 : Nat) (l1 : Int)  (h : HP) (E : X12_isSure F   l0 l1 h = some (r, hf)) : Go K MX12_isSure (QM K (some (vi r)) hf) hf 0 [(0, vr (some l0)), (1, vi l1)] [] h := by
  unfold X12_isSure at E
  refine go_iconst (z := 1) (n := 1) ⟨by decide, by decide⟩ dX12_isSure_0 rfl ?_
  refine go_iload_n (j := 1) (n := 2) rfl rfl dX12_isSure_1 rfl ?_
  refine go_ishl (n := 3) dX12_isSure_2 rfl ?_
  refine go_istore_n (n := 4) (lv' := [(2, vi (xshl 1 l1)), (0, vr (some l0)), (1, vi l1)]) rfl dX12_isSure_3 rfl (Nat.le_of_ble_eq_true rfl) rfl ?_
  refine go_iconst (z := 0) (n := 5) ⟨by decide, by decide⟩ dX12_isSure_4 rfl ?_
  refine go_istore_n (n := 6) (lv' := [(3, vi 0), (2, vi (xshl 1 l1)), (0, vr (some l0)), (1, vi l1)]) rfl dX12_isSure_5 rfl (Nat.le_of_ble_eq_true rfl) rfl ?_
  refine go_pick (lv' := [(0, vr (some l0)), (2, vi (xshl 1 l1)), (3, vi 0)]) [2, 1, 0] rfl ?_
  exact SX12_isSure_L6     F _ _ _ _ E
theorem OX12_isSure {F : Nat} {l0 : Nat} {l1 : Int} {h hf : HP} {r : Int} (e : X12_isSure F l0 l1 h = some (r, hf)) : Ok MX12_isSure [vr (some l0), vi l1] (some (vi r)) h hf := fun K _ _ _ => SX12_isSure l0 l1 h e
theorem yw_X12_isSure : YW yX12_isSure cX12_isSure 7 (some .boolean) 1 := ⟨bw_of 2198 (by decide +kernel) rfl, bw_of 129 (by decide +kernel) rfl, ⟨by decide +kernel, by decide +kernel, by decide +kernel⟩, by decide +kernel⟩
theorem wml_RX12_324 : Cond.methodLink RX12 324 yX12_isSure ∈ BW := bw_of 2195 (by decide +kernel) rfl
theorem wim_X12_isSure : Cond.instanceMethod yX12_isSure ∈ BW := bw_of 2197 (by decide +kernel) rfl
theorem wse_X12_isSure : Cond.selects RX12 yX12_isSure yX12_isSure ∈ BW := bw_of 103 (by decide +kernel) rfl
abbrev MX12_doubt : MI := (RX12, cX12_doubt, 3, (some .boolean), 7, none, "doubt")
noncomputable def X12_doubt_L33 (F : Nat)   (l0 : Nat) (l1 : Int) (l2 : Int) (s0 : Int) (s1 : Option Nat) (h : HP) : Option (Int × HP) :=
  (xrc h s1 12 31).bind fun a3 =>
  xb (X12_throwsIf F a3 s0 2 h) fun v1 h2 =>
  if v1 = 0 then
    if l2 = 0 then
      (xrc h2 (some l0) 12 31).bind fun a12 =>
      xb (X12_bitsOf F a12 l1 19 h2) fun v10 h11 =>
      (xrc h11 (some l0) 12 31).bind fun a15 =>
      xb (X12_bad F a15 h11) fun v13 h14 =>
      some (if (xcmp (yand v10 v13) 0) = 0 then 0 else 1, h14)
    else
      (xrc h2 (some l0) 12 31).bind fun a8 =>
      xb (X12_isSure F a8 l1 h2) fun v6 h7 =>
      xz v6 h7
  else
    some (0, h2)
set_option maxRecDepth 100000 in
theorem SX12_doubt_L33 {K : Ctx} {F : Nat} {r : Int} {hf : HP}     (l0 : Nat) (l1 : Int) (l2 : Int) (s0 : Int) (s1 : Option Nat) (h : HP) (E : X12_doubt_L33 F   l0 l1 l2 s0 s1 h = some (r, hf)) : Go K MX12_doubt (QM K (some (vi r)) hf) hf 33 [(0, vr (some l0)), (1, vi l1), (2, vi l2)] [vi s0, vr s1] h := by
  unfold X12_doubt_L33 at E
  refine go_iconst (z := 2) (n := 34) ⟨by decide, by decide⟩ dX12_doubt_33 rfl ?_
  replace E := Option.bind_eq_some_iff.mp E; obtain ⟨a3, ea3, E⟩ := E
  obtain ⟨fa3, ga3⟩ := xrc_some ea3
  replace E := xb_some E; obtain ⟨v1, h2, ev1, E⟩ := E
  refine go_callV (y := yX12_throwsIf) (n := 37) (st := []) (as := [vi s0, vi 2]) (stk9 := [vi v1]) (OX12_throwsIf ev1) yw_X12_throwsIf ci_12 ga3 wml_RX12_65 wim_X12_throwsIf wse_X12_throwsIf (Nat.le_of_ble_eq_true rfl) rfl ⟨Nat.le_of_ble_eq_true rfl, Nat.le_of_ble_eq_true rfl⟩ (Nat.le_of_ble_eq_true rfl) dX12_doubt_34 rfl (by cases fa3; rfl) rfl ?_
  refine go_if_eq (tgt := 42) (n := 40) dX12_doubt_37 rfl rfl (fun c4 => ?_) (fun c4 => ?_)
  · rw [if_pos c4] at E
    refine go_iload_n (j := 2) (n := 43) rfl rfl dX12_doubt_42 rfl ?_
    refine go_if_ne (tgt := 71) (n := 46) dX12_doubt_43 rfl rfl (fun c5 => ?_) (fun c5 => ?_)
    · rw [if_neg c5] at E
      refine go_aload_n (j := 0) (n := 72) rfl rfl dX12_doubt_71 rfl ?_
      refine go_iload_n (j := 1) (n := 73) rfl rfl dX12_doubt_72 rfl ?_
      replace E := Option.bind_eq_some_iff.mp E; obtain ⟨a8, ea8, E⟩ := E
      obtain ⟨fa8, ga8⟩ := xrc_some ea8
      replace E := xb_some E; obtain ⟨v6, h7, ev6, E⟩ := E
      refine go_callV (y := yX12_isSure) (n := 76) (st := []) (as := [vi l1]) (stk9 := [vi v6]) (OX12_isSure ev6) yw_X12_isSure ci_12 ga8 wml_RX12_324 wim_X12_isSure wse_X12_isSure (Nat.le_of_ble_eq_true rfl) rfl ⟨Nat.le_of_ble_eq_true rfl, Nat.le_of_ble_eq_true rfl⟩ (Nat.le_of_ble_eq_true rfl) dX12_doubt_73 rfl (by cases fa8; rfl) rfl ?_
      unfold xz at E
      split at E
      · next c9 =>
        cases E
        exact go_zreturn rfl c9 dX12_doubt_76
      · cases E
    · rw [if_pos c5] at E
      refine go_aload_n (j := 0) (n := 47) rfl rfl dX12_doubt_46 rfl ?_
      refine go_iload_n (j := 1) (n := 48) rfl rfl dX12_doubt_47 rfl ?_
      refine go_bipush (z := 19) (n := 50) ⟨by decide, by decide⟩ dX12_doubt_48 rfl ?_
      replace E := Option.bind_eq_some_iff.mp E; obtain ⟨a12, ea12, E⟩ := E
      obtain ⟨fa12, ga12⟩ := xrc_some ea12
      replace E := xb_some E; obtain ⟨v10, h11, ev10, E⟩ := E
      refine go_callV (y := yX12_bitsOf) (n := 53) (st := []) (as := [vi l1, vi 19]) (stk9 := [vl v10]) (OX12_bitsOf ev10) yw_X12_bitsOf ci_12 ga12 wml_RX12_255 wim_X12_bitsOf wse_X12_bitsOf (Nat.le_of_ble_eq_true rfl) rfl ⟨Nat.le_of_ble_eq_true rfl, Nat.le_of_ble_eq_true rfl⟩ (Nat.le_of_ble_eq_true rfl) dX12_doubt_50 rfl (by cases fa12; rfl) rfl ?_
      refine go_aload_n (j := 0) (n := 54) rfl rfl dX12_doubt_53 rfl ?_
      replace E := Option.bind_eq_some_iff.mp E; obtain ⟨a15, ea15, E⟩ := E
      obtain ⟨fa15, ga15⟩ := xrc_some ea15
      replace E := xb_some E; obtain ⟨v13, h14, ev13, E⟩ := E
      refine go_callV (y := yX12_bad) (n := 57) (st := [vl v10]) (as := []) (stk9 := [vl v13, vl v10]) (OX12_bad ev13) yw_X12_bad ci_12 ga15 wml_RX12_320 wim_X12_bad wse_X12_bad (Nat.le_of_ble_eq_true rfl) rfl ⟨Nat.le_of_ble_eq_true rfl, Nat.le_of_ble_eq_true rfl⟩ (Nat.le_of_ble_eq_true rfl) dX12_doubt_54 rfl (by cases fa15; rfl) rfl ?_
      refine go_land (n := 58) dX12_doubt_57 rfl ?_
      refine go_lconst (w := 0) (n := 59) rfl dX12_doubt_58 rfl ?_
      refine go_lcmp (n := 60) dX12_doubt_59 rfl ?_
      refine go_if_eq (tgt := 67) (n := 63) dX12_doubt_60 rfl rfl (fun c16 => ?_) (fun c16 => ?_)
      · simp only [if_pos c16] at E
        refine go_iconst (z := 0) (n := 68) ⟨by decide, by decide⟩ dX12_doubt_67 rfl ?_
        refine go_goto (tgt := 76) dX12_doubt_68 rfl ?_
        cases E
        exact go_zreturn rfl (Or.inl rfl) dX12_doubt_76
      · simp only [if_neg c16] at E
        refine go_iconst (z := 1) (n := 64) ⟨by decide, by decide⟩ dX12_doubt_63 rfl ?_
        refine go_goto (tgt := 76) dX12_doubt_64 rfl ?_
        cases E
        exact go_zreturn rfl (Or.inr rfl) dX12_doubt_76
  · rw [if_neg c4] at E
    refine go_iconst (z := 0) (n := 41) ⟨by decide, by decide⟩ dX12_doubt_40 rfl ?_
    cases E
    exact go_zreturn rfl (Or.inl rfl) dX12_doubt_41
noncomputable def X12_doubt (F : Nat)   (l0 : Nat) (l1 : Int) (l2 : Int)  (h : HP) : Option (Int × HP) :=
  (xpI h (some l0) 12 31 0 0).bind fun h1 =>
  (xrc h1 (some l0) 12 31).bind fun a4 =>
  xb (X12_noJob F a4 l1 h1) fun v2 h3 =>
  (xrc h3 (some l0) 12 31).bind fun a7 =>
  xb (X12_throwsIf F a7 v2 1 h3) fun v5 h6 =>
  if v5 = 0 then
    xb (X12_in F l2 0 1 h6) fun v9 h10 =>
    X12_doubt_L33 F l0 l1 l2 (if v9 = 0 then 1 else 0) (some l0) h10
  else
    some (0, h6)
set_option maxRecDepth 100000 in
theorem SX12_doubt {K : Ctx} {F : Nat} {r : Int} {hf : HP}     (l0 : Nat) (l1 : Int) (l2 : Int)  (h : HP) (E : X12_doubt F   l0 l1 l2 h = some (r, hf)) : Go K MX12_doubt (QM K (some (vi r)) hf) hf 0 [(0, vr (some l0)), (1, vi l1), (2, vi l2)] [] h := by
  unfold X12_doubt at E
  refine go_aload_n (j := 0) (n := 1) rfl rfl dX12_doubt_0 rfl ?_
  refine go_iconst (z := 0) (n := 2) ⟨by decide, by decide⟩ dX12_doubt_1 rfl ?_
  replace E := Option.bind_eq_some_iff.mp E; obtain ⟨h1, eh1, E⟩ := E
  refine go_putI (n := 5) eh1 fl_RX12_3 rfl dX12_doubt_2 rfl ?_
  refine go_aload_n (j := 0) (n := 6) rfl rfl dX12_doubt_5 rfl ?_
  refine go_aload_n (j := 0) (n := 7) rfl rfl dX12_doubt_6 rfl ?_
  refine go_iload_n (j := 1) (n := 8) rfl rfl dX12_doubt_7 rfl ?_
  replace E := Option.bind_eq_some_iff.mp E; obtain ⟨a4, ea4, E⟩ := E
  obtain ⟨fa4, ga4⟩ := xrc_some ea4
  replace E := xb_some E; obtain ⟨v2, h3, ev2, E⟩ := E
  refine go_callV (y := yX12_noJob) (n := 11) (st := [vr (some l0)]) (as := [vi l1]) (stk9 := [vi v2, vr (some l0)]) (OX12_noJob ev2) yw_X12_noJob ci_12 ga4 wml_RX12_247 wim_X12_noJob wse_X12_noJob (Nat.le_of_ble_eq_true rfl) rfl ⟨Nat.le_of_ble_eq_true rfl, Nat.le_of_ble_eq_true rfl⟩ (Nat.le_of_ble_eq_true rfl) dX12_doubt_8 rfl (by cases fa4; rfl) rfl ?_
  refine go_iconst (z := 1) (n := 12) ⟨by decide, by decide⟩ dX12_doubt_11 rfl ?_
  replace E := Option.bind_eq_some_iff.mp E; obtain ⟨a7, ea7, E⟩ := E
  obtain ⟨fa7, ga7⟩ := xrc_some ea7
  replace E := xb_some E; obtain ⟨v5, h6, ev5, E⟩ := E
  refine go_callV (y := yX12_throwsIf) (n := 15) (st := []) (as := [vi v2, vi 1]) (stk9 := [vi v5]) (OX12_throwsIf ev5) yw_X12_throwsIf ci_12 ga7 wml_RX12_65 wim_X12_throwsIf wse_X12_throwsIf (Nat.le_of_ble_eq_true rfl) rfl ⟨Nat.le_of_ble_eq_true rfl, Nat.le_of_ble_eq_true rfl⟩ (Nat.le_of_ble_eq_true rfl) dX12_doubt_12 rfl (by cases fa7; rfl) rfl ?_
  refine go_if_ne (tgt := 40) (n := 18) dX12_doubt_15 rfl rfl (fun c8 => ?_) (fun c8 => ?_)
  · rw [if_neg c8] at E
    refine go_iconst (z := 0) (n := 41) ⟨by decide, by decide⟩ dX12_doubt_40 rfl ?_
    cases E
    exact go_zreturn rfl (Or.inl rfl) dX12_doubt_41
  · rw [if_pos c8] at E
    refine go_aload_n (j := 0) (n := 19) rfl rfl dX12_doubt_18 rfl ?_
    refine go_iload_n (j := 2) (n := 20) rfl rfl dX12_doubt_19 rfl ?_
    refine go_iconst (z := 0) (n := 21) ⟨by decide, by decide⟩ dX12_doubt_20 rfl ?_
    refine go_iconst (z := 1) (n := 22) ⟨by decide, by decide⟩ dX12_doubt_21 rfl ?_
    replace E := xb_some E; obtain ⟨v9, h10, ev9, E⟩ := E
    refine go_callS (y := yX12_in) (n := 25) (st := [vr (some l0)]) (as := [vi l2, vi 0, vi 1]) (stk9 := [vi v9, vr (some l0)]) (OX12_in ev9) yw_X12_in wml_RX12_61 wst_X12_in (Nat.le_of_ble_eq_true rfl) rfl ⟨Nat.le_of_ble_eq_true rfl, Nat.le_of_ble_eq_true rfl⟩ (Nat.le_of_ble_eq_true rfl) dX12_doubt_22 rfl rfl rfl ?_
    refine go_if_ne (tgt := 32) (n := 28) dX12_doubt_25 rfl rfl (fun c11 => ?_) (fun c11 => ?_)
    · simp only [if_neg c11] at E
      refine go_iconst (z := 0) (n := 33) ⟨by decide, by decide⟩ dX12_doubt_32 rfl ?_
      exact SX12_doubt_L33     _ _ _ _ _ _ E
    · simp only [if_pos c11] at E
      refine go_iconst (z := 1) (n := 29) ⟨by decide, by decide⟩ dX12_doubt_28 rfl ?_
      refine go_goto (tgt := 33) dX12_doubt_29 rfl ?_
      exact SX12_doubt_L33     _ _ _ _ _ _ E
theorem OX12_doubt {F : Nat} {l0 : Nat} {l1 : Int} {l2 : Int} {h hf : HP} {r : Int} (e : X12_doubt F l0 l1 l2 h = some (r, hf)) : Ok MX12_doubt [vr (some l0), vi l1, vi l2] (some (vi r)) h hf := fun K _ _ _ => SX12_doubt l0 l1 l2 h e
abbrev MX12_wanted : MI := (RX12, cX12_wanted, 7, (some .int), 4, none, "wanted")
noncomputable def X12_wanted_L70 (F : Nat)   (l0 : Nat) (l1 : Int) (l2 : Int) (l3 : Int) (l4 : Int) (l5 : Int) (s0 : Int) (s1 : Option Nat) (h : HP) : Option (Int × HP) :=
  (xrc h s1 12 31).bind fun a3 =>
  xb (X12_throwsIf F a3 s0 2 h) fun v1 h2 =>
  if v1 = 0 then
    (xgP h2 (some l0) 12 31 1).bind fun v5 =>
    (xaI h2 v5 100 10753).bind fun v6 =>
    if v6 = 100 then
      some ((-1), h2)
    else
      (xgP h2 (some l0) 12 31 1).bind fun v8 =>
      (xsI h2 v8 (w32 (10754 + (w32 (5 * v6)))) l1).bind fun h9 =>
      (xgP h9 (some l0) 12 31 1).bind fun v10 =>
      (xsI h9 v10 (w32 ((w32 (10754 + (w32 (5 * v6)))) + 1)) l2).bind fun h11 =>
      (xgP h11 (some l0) 12 31 1).bind fun v12 =>
      (xsI h11 v12 (w32 ((w32 (10754 + (w32 (5 * v6)))) + 2)) l3).bind fun h13 =>
      (xgP h13 (some l0) 12 31 1).bind fun v14 =>
      (xsI h13 v14 (w32 ((w32 (10754 + (w32 (5 * v6)))) + 3)) l4).bind fun h15 =>
      (xgP h15 (some l0) 12 31 1).bind fun v16 =>
      (xsI h15 v16 (w32 ((w32 (10754 + (w32 (5 * v6)))) + 4)) l5).bind fun h17 =>
      (xgP h17 (some l0) 12 31 1).bind fun v18 =>
      (xaI h17 v18 100 10753).bind fun v19 =>
      (xsI h17 v18 10753 (w32 (v19 + 1))).bind fun h20 =>
      some (w32 (v6 + 1), h20)
  else
    some (0, h2)
set_option maxRecDepth 100000 in
theorem SX12_wanted_L70 {K : Ctx} {F : Nat} {r : Int} {hf : HP}     (l0 : Nat) (l1 : Int) (l2 : Int) (l3 : Int) (l4 : Int) (l5 : Int) (s0 : Int) (s1 : Option Nat) (h : HP) (E : X12_wanted_L70 F   l0 l1 l2 l3 l4 l5 s0 s1 h = some (r, hf)) : Go K MX12_wanted (QM K (some (vi r)) hf) hf 70 [(0, vr (some l0)), (1, vi l1), (2, vi l2), (3, vi l3), (4, vi l4), (5, vi l5)] [vi s0, vr s1] h := by
  unfold X12_wanted_L70 at E
  refine go_iconst (z := 2) (n := 71) ⟨by decide, by decide⟩ dX12_wanted_70 rfl ?_
  replace E := Option.bind_eq_some_iff.mp E; obtain ⟨a3, ea3, E⟩ := E
  obtain ⟨fa3, ga3⟩ := xrc_some ea3
  replace E := xb_some E; obtain ⟨v1, h2, ev1, E⟩ := E
  refine go_callV (y := yX12_throwsIf) (n := 74) (st := []) (as := [vi s0, vi 2]) (stk9 := [vi v1]) (OX12_throwsIf ev1) yw_X12_throwsIf ci_12 ga3 wml_RX12_65 wim_X12_throwsIf wse_X12_throwsIf (Nat.le_of_ble_eq_true rfl) rfl ⟨Nat.le_of_ble_eq_true rfl, Nat.le_of_ble_eq_true rfl⟩ (Nat.le_of_ble_eq_true rfl) dX12_wanted_71 rfl (by cases fa3; rfl) rfl ?_
  refine go_if_eq (tgt := 79) (n := 77) dX12_wanted_74 rfl rfl (fun c4 => ?_) (fun c4 => ?_)
  · rw [if_pos c4] at E
    refine go_aload_n (j := 0) (n := 80) rfl rfl dX12_wanted_79 rfl ?_
    replace E := Option.bind_eq_some_iff.mp E; obtain ⟨v5, ev5, E⟩ := E
    refine go_getP (n := 83) ev5 fl_RX12_14 rfl dX12_wanted_80 rfl ?_
    refine go_sipush (z := 10753) (n := 86) ⟨by decide, by decide⟩ dX12_wanted_83 rfl ?_
    replace E := Option.bind_eq_some_iff.mp E; obtain ⟨v6, ev6, E⟩ := E
    refine go_iaload (n := 87) ev6 dX12_wanted_86 rfl ?_
    refine go_istore (n := 89) (lv' := [(6, vi v6), (0, vr (some l0)), (1, vi l1), (2, vi l2), (3, vi l3), (4, vi l4), (5, vi l5)]) dX12_wanted_87 rfl (Nat.le_of_ble_eq_true rfl) rfl ?_
    refine go_iload (j := 0) (n := 91) rfl dX12_wanted_89 rfl ?_
    refine go_bipush (z := 100) (n := 93) ⟨by decide, by decide⟩ dX12_wanted_91 rfl ?_
    refine go_icmp_ne (tgt := 98) (n := 96) dX12_wanted_93 rfl rfl (fun c7 => ?_) (fun c7 => ?_)
    · rw [if_neg c7] at E
      refine go_aload_n (j := 1) (n := 99) rfl rfl dX12_wanted_98 rfl ?_
      replace E := Option.bind_eq_some_iff.mp E; obtain ⟨v8, ev8, E⟩ := E
      refine go_getP (n := 102) ev8 fl_RX12_14 rfl dX12_wanted_99 rfl ?_
      refine go_sipush (z := 10754) (n := 105) ⟨by decide, by decide⟩ dX12_wanted_102 rfl ?_
      refine go_iconst (z := 5) (n := 106) ⟨by decide, by decide⟩ dX12_wanted_105 rfl ?_
      refine go_iload (j := 0) (n := 108) rfl dX12_wanted_106 rfl ?_
      refine go_imul (n := 109) dX12_wanted_108 rfl ?_
      refine go_iadd (n := 110) dX12_wanted_109 rfl ?_
      refine go_iload_n (j := 2) (n := 111) rfl rfl dX12_wanted_110 rfl ?_
      replace E := Option.bind_eq_some_iff.mp E; obtain ⟨h9, eh9, E⟩ := E
      refine go_iastore (n := 112) eh9 dX12_wanted_111 rfl ?_
      refine go_aload_n (j := 1) (n := 113) rfl rfl dX12_wanted_112 rfl ?_
      replace E := Option.bind_eq_some_iff.mp E; obtain ⟨v10, ev10, E⟩ := E
      refine go_getP (n := 116) ev10 fl_RX12_14 rfl dX12_wanted_113 rfl ?_
      refine go_sipush (z := 10754) (n := 119) ⟨by decide, by decide⟩ dX12_wanted_116 rfl ?_
      refine go_iconst (z := 5) (n := 120) ⟨by decide, by decide⟩ dX12_wanted_119 rfl ?_
      refine go_iload (j := 0) (n := 122) rfl dX12_wanted_120 rfl ?_
      refine go_imul (n := 123) dX12_wanted_122 rfl ?_
      refine go_iadd (n := 124) dX12_wanted_123 rfl ?_
      refine go_iconst (z := 1) (n := 125) ⟨by decide, by decide⟩ dX12_wanted_124 rfl ?_
      refine go_iadd (n := 126) dX12_wanted_125 rfl ?_
      refine go_iload_n (j := 3) (n := 127) rfl rfl dX12_wanted_126 rfl ?_
      replace E := Option.bind_eq_some_iff.mp E; obtain ⟨h11, eh11, E⟩ := E
      refine go_iastore (n := 128) eh11 dX12_wanted_127 rfl ?_
      refine go_aload_n (j := 1) (n := 129) rfl rfl dX12_wanted_128 rfl ?_
      replace E := Option.bind_eq_some_iff.mp E; obtain ⟨v12, ev12, E⟩ := E
      refine go_getP (n := 132) ev12 fl_RX12_14 rfl dX12_wanted_129 rfl ?_
      refine go_sipush (z := 10754) (n := 135) ⟨by decide, by decide⟩ dX12_wanted_132 rfl ?_
      refine go_iconst (z := 5) (n := 136) ⟨by decide, by decide⟩ dX12_wanted_135 rfl ?_
      refine go_iload (j := 0) (n := 138) rfl dX12_wanted_136 rfl ?_
      refine go_imul (n := 139) dX12_wanted_138 rfl ?_
      refine go_iadd (n := 140) dX12_wanted_139 rfl ?_
      refine go_iconst (z := 2) (n := 141) ⟨by decide, by decide⟩ dX12_wanted_140 rfl ?_
      refine go_iadd (n := 142) dX12_wanted_141 rfl ?_
      refine go_iload_n (j := 4) (n := 143) rfl rfl dX12_wanted_142 rfl ?_
      replace E := Option.bind_eq_some_iff.mp E; obtain ⟨h13, eh13, E⟩ := E
      refine go_iastore (n := 144) eh13 dX12_wanted_143 rfl ?_
      refine go_aload_n (j := 1) (n := 145) rfl rfl dX12_wanted_144 rfl ?_
      replace E := Option.bind_eq_some_iff.mp E; obtain ⟨v14, ev14, E⟩ := E
      refine go_getP (n := 148) ev14 fl_RX12_14 rfl dX12_wanted_145 rfl ?_
      refine go_sipush (z := 10754) (n := 151) ⟨by decide, by decide⟩ dX12_wanted_148 rfl ?_
      refine go_iconst (z := 5) (n := 152) ⟨by decide, by decide⟩ dX12_wanted_151 rfl ?_
      refine go_iload (j := 0) (n := 154) rfl dX12_wanted_152 rfl ?_
      refine go_imul (n := 155) dX12_wanted_154 rfl ?_
      refine go_iadd (n := 156) dX12_wanted_155 rfl ?_
      refine go_iconst (z := 3) (n := 157) ⟨by decide, by decide⟩ dX12_wanted_156 rfl ?_
      refine go_iadd (n := 158) dX12_wanted_157 rfl ?_
      refine go_iload (j := 5) (n := 160) rfl dX12_wanted_158 rfl ?_
      replace E := Option.bind_eq_some_iff.mp E; obtain ⟨h15, eh15, E⟩ := E
      refine go_iastore (n := 161) eh15 dX12_wanted_160 rfl ?_
      refine go_aload_n (j := 1) (n := 162) rfl rfl dX12_wanted_161 rfl ?_
      replace E := Option.bind_eq_some_iff.mp E; obtain ⟨v16, ev16, E⟩ := E
      refine go_getP (n := 165) ev16 fl_RX12_14 rfl dX12_wanted_162 rfl ?_
      refine go_sipush (z := 10754) (n := 168) ⟨by decide, by decide⟩ dX12_wanted_165 rfl ?_
      refine go_iconst (z := 5) (n := 169) ⟨by decide, by decide⟩ dX12_wanted_168 rfl ?_
      refine go_iload (j := 0) (n := 171) rfl dX12_wanted_169 rfl ?_
      refine go_imul (n := 172) dX12_wanted_171 rfl ?_
      refine go_iadd (n := 173) dX12_wanted_172 rfl ?_
      refine go_iconst (z := 4) (n := 174) ⟨by decide, by decide⟩ dX12_wanted_173 rfl ?_
      refine go_iadd (n := 175) dX12_wanted_174 rfl ?_
      refine go_iload (j := 6) (n := 177) rfl dX12_wanted_175 rfl ?_
      replace E := Option.bind_eq_some_iff.mp E; obtain ⟨h17, eh17, E⟩ := E
      refine go_iastore (n := 178) eh17 dX12_wanted_177 rfl ?_
      refine go_aload_n (j := 1) (n := 179) rfl rfl dX12_wanted_178 rfl ?_
      replace E := Option.bind_eq_some_iff.mp E; obtain ⟨v18, ev18, E⟩ := E
      refine go_getP (n := 182) ev18 fl_RX12_14 rfl dX12_wanted_179 rfl ?_
      refine go_sipush (z := 10753) (n := 185) ⟨by decide, by decide⟩ dX12_wanted_182 rfl ?_
      refine go_dup2 (n := 186) rfl rfl dX12_wanted_185 rfl ?_
      replace E := Option.bind_eq_some_iff.mp E; obtain ⟨v19, ev19, E⟩ := E
      refine go_iaload (n := 187) ev19 dX12_wanted_186 rfl ?_
      refine go_iconst (z := 1) (n := 188) ⟨by decide, by decide⟩ dX12_wanted_187 rfl ?_
      refine go_iadd (n := 189) dX12_wanted_188 rfl ?_
      replace E := Option.bind_eq_some_iff.mp E; obtain ⟨h20, eh20, E⟩ := E
      refine go_iastore (n := 190) eh20 dX12_wanted_189 rfl ?_
      refine go_iload (j := 0) (n := 192) rfl dX12_wanted_190 rfl ?_
      refine go_iconst (z := 1) (n := 193) ⟨by decide, by decide⟩ dX12_wanted_192 rfl ?_
      refine go_iadd (n := 194) dX12_wanted_193 rfl ?_
      cases E
      exact go_ireturn rfl dX12_wanted_194
    · rw [if_pos c7] at E
      refine go_iconst (z := (-1)) (n := 97) ⟨by decide, by decide⟩ dX12_wanted_96 rfl ?_
      cases E
      exact go_ireturn rfl dX12_wanted_97
  · rw [if_neg c4] at E
    refine go_iconst (z := 0) (n := 78) ⟨by decide, by decide⟩ dX12_wanted_77 rfl ?_
    cases E
    exact go_ireturn rfl dX12_wanted_78
noncomputable def X12_wanted_L65 (F : Nat)   (l0 : Nat) (l1 : Int) (l2 : Int) (l3 : Int) (l4 : Int) (l5 : Int) (s0 : Option Nat) (h : HP) : Option (Int × HP) :=
  X12_wanted_L70 F l0 l1 l2 l3 l4 l5 1 s0 h
set_option maxRecDepth 100000 in
theorem SX12_wanted_L65 {K : Ctx} {F : Nat} {r : Int} {hf : HP}     (l0 : Nat) (l1 : Int) (l2 : Int) (l3 : Int) (l4 : Int) (l5 : Int) (s0 : Option Nat) (h : HP) (E : X12_wanted_L65 F   l0 l1 l2 l3 l4 l5 s0 h = some (r, hf)) : Go K MX12_wanted (QM K (some (vi r)) hf) hf 65 [(0, vr (some l0)), (1, vi l1), (2, vi l2), (3, vi l3), (4, vi l4), (5, vi l5)] [vr s0] h := by
  unfold X12_wanted_L65 at E
  refine go_iconst (z := 1) (n := 66) ⟨by decide, by decide⟩ dX12_wanted_65 rfl ?_
  refine go_goto (tgt := 70) dX12_wanted_66 rfl ?_
  exact SX12_wanted_L70     _ _ _ _ _ _ _ _ _ E
noncomputable def X12_wanted_L25 (F : Nat)   (l0 : Nat) (l1 : Int) (l2 : Int) (l3 : Int) (l4 : Int) (l5 : Int) (s0 : Int) (s1 : Option Nat) (h : HP) : Option (Int × HP) :=
  (xrc h s1 12 31).bind fun a3 =>
  xb (X12_throwsIf F a3 s0 1 h) fun v1 h2 =>
  if v1 = 0 then
    xb (X12_in F l3 0 6 h2) fun v5 h6 =>
    if v5 = 0 then
      X12_wanted_L65 F l0 l1 l2 l3 l4 l5 (some l0) h6
    else
      xb (X12_in F l4 0 9 h6) fun v8 h9 =>
      if v8 = 0 then
        X12_wanted_L65 F l0 l1 l2 l3 l4 l5 (some l0) h9
      else
        xb (X12_in F l5 0 99999 h9) fun v11 h12 =>
        if v11 = 0 then
          X12_wanted_L65 F l0 l1 l2 l3 l4 l5 (some l0) h12
        else
          X12_wanted_L70 F l0 l1 l2 l3 l4 l5 0 (some l0) h12
  else
    some (0, h2)
set_option maxRecDepth 100000 in
theorem SX12_wanted_L25 {K : Ctx} {F : Nat} {r : Int} {hf : HP}     (l0 : Nat) (l1 : Int) (l2 : Int) (l3 : Int) (l4 : Int) (l5 : Int) (s0 : Int) (s1 : Option Nat) (h : HP) (E : X12_wanted_L25 F   l0 l1 l2 l3 l4 l5 s0 s1 h = some (r, hf)) : Go K MX12_wanted (QM K (some (vi r)) hf) hf 25 [(0, vr (some l0)), (1, vi l1), (2, vi l2), (3, vi l3), (4, vi l4), (5, vi l5)] [vi s0, vr s1] h := by
  unfold X12_wanted_L25 at E
  refine go_iconst (z := 1) (n := 26) ⟨by decide, by decide⟩ dX12_wanted_25 rfl ?_
  replace E := Option.bind_eq_some_iff.mp E; obtain ⟨a3, ea3, E⟩ := E
  obtain ⟨fa3, ga3⟩ := xrc_some ea3
  replace E := xb_some E; obtain ⟨v1, h2, ev1, E⟩ := E
  refine go_callV (y := yX12_throwsIf) (n := 29) (st := []) (as := [vi s0, vi 1]) (stk9 := [vi v1]) (OX12_throwsIf ev1) yw_X12_throwsIf ci_12 ga3 wml_RX12_65 wim_X12_throwsIf wse_X12_throwsIf (Nat.le_of_ble_eq_true rfl) rfl ⟨Nat.le_of_ble_eq_true rfl, Nat.le_of_ble_eq_true rfl⟩ (Nat.le_of_ble_eq_true rfl) dX12_wanted_26 rfl (by cases fa3; rfl) rfl ?_
  refine go_if_ne (tgt := 77) (n := 32) dX12_wanted_29 rfl rfl (fun c4 => ?_) (fun c4 => ?_)
  · rw [if_neg c4] at E
    refine go_iconst (z := 0) (n := 78) ⟨by decide, by decide⟩ dX12_wanted_77 rfl ?_
    cases E
    exact go_ireturn rfl dX12_wanted_78
  · rw [if_pos c4] at E
    refine go_aload_n (j := 0) (n := 33) rfl rfl dX12_wanted_32 rfl ?_
    refine go_iload_n (j := 3) (n := 34) rfl rfl dX12_wanted_33 rfl ?_
    refine go_iconst (z := 0) (n := 35) ⟨by decide, by decide⟩ dX12_wanted_34 rfl ?_
    refine go_bipush (z := 6) (n := 37) ⟨by decide, by decide⟩ dX12_wanted_35 rfl ?_
    replace E := xb_some E; obtain ⟨v5, h6, ev5, E⟩ := E
    refine go_callS (y := yX12_in) (n := 40) (st := [vr (some l0)]) (as := [vi l3, vi 0, vi 6]) (stk9 := [vi v5, vr (some l0)]) (OX12_in ev5) yw_X12_in wml_RX12_61 wst_X12_in (Nat.le_of_ble_eq_true rfl) rfl ⟨Nat.le_of_ble_eq_true rfl, Nat.le_of_ble_eq_true rfl⟩ (Nat.le_of_ble_eq_true rfl) dX12_wanted_37 rfl rfl rfl ?_
    refine go_if_eq (tgt := 65) (n := 43) dX12_wanted_40 rfl rfl (fun c7 => ?_) (fun c7 => ?_)
    · rw [if_pos c7] at E
      exact SX12_wanted_L65     _ _ _ _ _ _ _ _ E
    · rw [if_neg c7] at E
      refine go_iload (j := 4) (n := 45) rfl dX12_wanted_43 rfl ?_
      refine go_iconst (z := 0) (n := 46) ⟨by decide, by decide⟩ dX12_wanted_45 rfl ?_
      refine go_bipush (z := 9) (n := 48) ⟨by decide, by decide⟩ dX12_wanted_46 rfl ?_
      replace E := xb_some E; obtain ⟨v8, h9, ev8, E⟩ := E
      refine go_callS (y := yX12_in) (n := 51) (st := [vr (some l0)]) (as := [vi l4, vi 0, vi 9]) (stk9 := [vi v8, vr (some l0)]) (OX12_in ev8) yw_X12_in wml_RX12_61 wst_X12_in (Nat.le_of_ble_eq_true rfl) rfl ⟨Nat.le_of_ble_eq_true rfl, Nat.le_of_ble_eq_true rfl⟩ (Nat.le_of_ble_eq_true rfl) dX12_wanted_48 rfl rfl rfl ?_
      refine go_if_eq (tgt := 65) (n := 54) dX12_wanted_51 rfl rfl (fun c10 => ?_) (fun c10 => ?_)
      · rw [if_pos c10] at E
        exact SX12_wanted_L65     _ _ _ _ _ _ _ _ E
      · rw [if_neg c10] at E
        refine go_iload (j := 5) (n := 56) rfl dX12_wanted_54 rfl ?_
        refine go_iconst (z := 0) (n := 57) ⟨by decide, by decide⟩ dX12_wanted_56 rfl ?_
        refine go_ldc (z := 99999) (n := 59) ⟨by decide, by decide⟩ wk_RX12_96 dX12_wanted_57 rfl ?_
        replace E := xb_some E; obtain ⟨v11, h12, ev11, E⟩ := E
        refine go_callS (y := yX12_in) (n := 62) (st := [vr (some l0)]) (as := [vi l5, vi 0, vi 99999]) (stk9 := [vi v11, vr (some l0)]) (OX12_in ev11) yw_X12_in wml_RX12_61 wst_X12_in (Nat.le_of_ble_eq_true rfl) rfl ⟨Nat.le_of_ble_eq_true rfl, Nat.le_of_ble_eq_true rfl⟩ (Nat.le_of_ble_eq_true rfl) dX12_wanted_59 rfl rfl rfl ?_
        refine go_if_ne (tgt := 69) (n := 65) dX12_wanted_62 rfl rfl (fun c13 => ?_) (fun c13 => ?_)
        · rw [if_neg c13] at E
          refine go_iconst (z := 0) (n := 70) ⟨by decide, by decide⟩ dX12_wanted_69 rfl ?_
          exact SX12_wanted_L70     _ _ _ _ _ _ _ _ _ E
        · rw [if_pos c13] at E
          exact SX12_wanted_L65     _ _ _ _ _ _ _ _ E
noncomputable def X12_wanted_L20 (F : Nat)   (l0 : Nat) (l1 : Int) (l2 : Int) (l3 : Int) (l4 : Int) (l5 : Int) (s0 : Option Nat) (h : HP) : Option (Int × HP) :=
  X12_wanted_L25 F l0 l1 l2 l3 l4 l5 1 s0 h
set_option maxRecDepth 100000 in
theorem SX12_wanted_L20 {K : Ctx} {F : Nat} {r : Int} {hf : HP}     (l0 : Nat) (l1 : Int) (l2 : Int) (l3 : Int) (l4 : Int) (l5 : Int) (s0 : Option Nat) (h : HP) (E : X12_wanted_L20 F   l0 l1 l2 l3 l4 l5 s0 h = some (r, hf)) : Go K MX12_wanted (QM K (some (vi r)) hf) hf 20 [(0, vr (some l0)), (1, vi l1), (2, vi l2), (3, vi l3), (4, vi l4), (5, vi l5)] [vr s0] h := by
  unfold X12_wanted_L20 at E
  refine go_iconst (z := 1) (n := 21) ⟨by decide, by decide⟩ dX12_wanted_20 rfl ?_
  refine go_goto (tgt := 25) dX12_wanted_21 rfl ?_
  exact SX12_wanted_L25     _ _ _ _ _ _ _ _ _ E
noncomputable def X12_wanted (F : Nat)   (l0 : Nat) (l1 : Int) (l2 : Int) (l3 : Int) (l4 : Int) (l5 : Int)  (h : HP) : Option (Int × HP) :=
  (xpI h (some l0) 12 31 0 0).bind fun h1 =>
  xb (X12_noShop F l1 h1) fun v2 h3 =>
  if v2 = 0 then
    xb (X12_noGood F l2 h3) fun v5 h6 =>
    if v5 = 0 then
      X12_wanted_L25 F l0 l1 l2 l3 l4 l5 0 (some l0) h6
    else
      X12_wanted_L20 F l0 l1 l2 l3 l4 l5 (some l0) h6
  else
    X12_wanted_L20 F l0 l1 l2 l3 l4 l5 (some l0) h3
set_option maxRecDepth 100000 in
theorem SX12_wanted {K : Ctx} {F : Nat} {r : Int} {hf : HP}     (l0 : Nat) (l1 : Int) (l2 : Int) (l3 : Int) (l4 : Int) (l5 : Int)  (h : HP) (E : X12_wanted F   l0 l1 l2 l3 l4 l5 h = some (r, hf)) : Go K MX12_wanted (QM K (some (vi r)) hf) hf 0 [(0, vr (some l0)), (1, vi l1), (2, vi l2), (3, vi l3), (4, vi l4), (5, vi l5)] [] h := by
  unfold X12_wanted at E
  refine go_aload_n (j := 0) (n := 1) rfl rfl dX12_wanted_0 rfl ?_
  refine go_iconst (z := 0) (n := 2) ⟨by decide, by decide⟩ dX12_wanted_1 rfl ?_
  replace E := Option.bind_eq_some_iff.mp E; obtain ⟨h1, eh1, E⟩ := E
  refine go_putI (n := 5) eh1 fl_RX12_3 rfl dX12_wanted_2 rfl ?_
  refine go_aload_n (j := 0) (n := 6) rfl rfl dX12_wanted_5 rfl ?_
  refine go_iload_n (j := 1) (n := 7) rfl rfl dX12_wanted_6 rfl ?_
  replace E := xb_some E; obtain ⟨v2, h3, ev2, E⟩ := E
  refine go_callS (y := yX12_noShop) (n := 10) (st := [vr (some l0)]) (as := [vi l1]) (stk9 := [vi v2, vr (some l0)]) (OX12_noShop ev2) yw_X12_noShop wml_RX12_90 wst_X12_noShop (Nat.le_of_ble_eq_true rfl) rfl ⟨Nat.le_of_ble_eq_true rfl, Nat.le_of_ble_eq_true rfl⟩ (Nat.le_of_ble_eq_true rfl) dX12_wanted_7 rfl rfl rfl ?_
  refine go_if_ne (tgt := 20) (n := 13) dX12_wanted_10 rfl rfl (fun c4 => ?_) (fun c4 => ?_)
  · rw [if_neg c4] at E
    exact SX12_wanted_L20     _ _ _ _ _ _ _ _ E
  · rw [if_pos c4] at E
    refine go_iload_n (j := 2) (n := 14) rfl rfl dX12_wanted_13 rfl ?_
    replace E := xb_some E; obtain ⟨v5, h6, ev5, E⟩ := E
    refine go_callS (y := yX12_noGood) (n := 17) (st := [vr (some l0)]) (as := [vi l2]) (stk9 := [vi v5, vr (some l0)]) (OX12_noGood ev5) yw_X12_noGood wml_RX12_93 wst_X12_noGood (Nat.le_of_ble_eq_true rfl) rfl ⟨Nat.le_of_ble_eq_true rfl, Nat.le_of_ble_eq_true rfl⟩ (Nat.le_of_ble_eq_true rfl) dX12_wanted_14 rfl rfl rfl ?_
    refine go_if_eq (tgt := 24) (n := 20) dX12_wanted_17 rfl rfl (fun c7 => ?_) (fun c7 => ?_)
    · rw [if_pos c7] at E
      refine go_iconst (z := 0) (n := 25) ⟨by decide, by decide⟩ dX12_wanted_24 rfl ?_
      exact SX12_wanted_L25     _ _ _ _ _ _ _ _ _ E
    · rw [if_neg c7] at E
      exact SX12_wanted_L20     _ _ _ _ _ _ _ _ E
theorem OX12_wanted {F : Nat} {l0 : Nat} {l1 : Int} {l2 : Int} {l3 : Int} {l4 : Int} {l5 : Int} {h hf : HP} {r : Int} (e : X12_wanted F l0 l1 l2 l3 l4 l5 h = some (r, hf)) : Ok MX12_wanted [vr (some l0), vi l1, vi l2, vi l3, vi l4, vi l5] (some (vi r)) h hf := fun K _ _ _ => SX12_wanted l0 l1 l2 l3 l4 l5 h e
theorem fl_RX12_327 : FL RX12 327 12 31 19 false := ⟨RX12, TX12, ci_12, by decide, bw_of 1772 (by decide +kernel) rfl, rfl, rfl⟩
theorem fl_RX12_330 : FL RX12 330 12 31 20 false := ⟨RX12, TX12, ci_12, by decide, bw_of 1773 (by decide +kernel) rfl, rfl, rfl⟩
theorem fl_RX12_333 : FL RX12 333 12 31 21 false := ⟨RX12, TX12, ci_12, by decide, bw_of 1774 (by decide +kernel) rfl, rfl, rfl⟩
theorem fl_RX12_336 : FL RX12 336 12 31 22 false := ⟨RX12, TX12, ci_12, by decide, bw_of 1775 (by decide +kernel) rfl, rfl, rfl⟩
theorem fl_RX12_339 : FL RX12 339 12 31 23 false := ⟨RX12, TX12, ci_12, by decide, bw_of 1776 (by decide +kernel) rfl, rfl, rfl⟩
theorem wml_RX12_342 : Cond.methodLink RX12 342 Lib.Math.min.name ∈ BW := bw_of 2211 (by decide +kernel) rfl
theorem wml_RX12_345 : Cond.methodLink RX12 345 Lib.Math.max.name ∈ BW := bw_of 2212 (by decide +kernel) rfl
abbrev MX12_foresees : MI := (RX12, cX12_foresees, 5, none, 2, none, "foresees")
noncomputable def X12_foresees_L207 (F : Nat)  (rc36 : Nat → Int → Int → Int → HP → Option (Unit × HP)) (l0 : Nat) (l1 : Int) (l2 : Int) (l3 : Int)  (h : HP) : Option (Unit × HP) :=
  rc36 l0 l1 l2 (w32 (l3 + (-1))) h
set_option maxRecDepth 100000 in
theorem SX12_foresees_L207 {K : Ctx} {F : Nat} {r : Unit} {hf : HP}   (rc36 : Nat → Int → Int → Int → HP → Option (Unit × HP)) (hrc36 : ∀ l0 l1 l2 l3 h, rc36 l0 l1 l2 l3 h = some (r, hf) → Go K MX12_foresees (QM K none hf) hf 36 [(0, vr (some l0)), (1, vi l1), (2, vi l2), (3, vi l3)] [] h) (l0 : Nat) (l1 : Int) (l2 : Int) (l3 : Int)  (h : HP) (E : X12_foresees_L207 F  rc36 l0 l1 l2 l3 h = some (r, hf)) : Go K MX12_foresees (QM K none hf) hf 207 [(0, vr (some l0)), (1, vi l1), (2, vi l2), (3, vi l3)] [] h := by
  unfold X12_foresees_L207 at E
  refine go_iinc (j := 3) (n := 210) (lv' := [(3, vi (w32 (l3 + (-1)))), (0, vr (some l0)), (1, vi l1), (2, vi l2)]) rfl dX12_foresees_207 rfl (Nat.le_of_ble_eq_true rfl) rfl ?_
  refine go_goto (tgt := 36) dX12_foresees_210 rfl ?_
  refine go_pick (lv' := [(0, vr (some l0)), (1, vi l1), (2, vi l2), (3, vi (w32 (l3 + (-1))))]) [1, 2, 3, 0] rfl ?_
  exact hrc36 _ _ _ _ _ E
noncomputable def X12_foresees_L184 (F : Nat)  (rc36 : Nat → Int → Int → Int → HP → Option (Unit × HP)) (l0 : Nat) (l1 : Int) (l2 : Int) (l3 : Int) (l4 : Int) (s0 : Int) (s1 : Option Nat) (h : HP) : Option (Unit × HP) :=
  (xpI h s1 12 31 22 s0).bind fun h1 =>
  (xgI h1 (some l0) 12 31 23).bind fun v2 =>
  (xgP h1 (some l0) 12 31 1).bind fun v3 =>
  (xaI h1 v3 100 (w32 (l4 + 4))).bind fun v4 =>
  (xpI h1 (some l0) 12 31 23 (max v2 v4)).bind fun h5 =>
  X12_foresees_L207 F rc36 l0 l1 l2 l3 h5
set_option maxRecDepth 100000 in
theorem SX12_foresees_L184 {K : Ctx} {F : Nat} {r : Unit} {hf : HP}   (rc36 : Nat → Int → Int → Int → HP → Option (Unit × HP)) (hrc36 : ∀ l0 l1 l2 l3 h, rc36 l0 l1 l2 l3 h = some (r, hf) → Go K MX12_foresees (QM K none hf) hf 36 [(0, vr (some l0)), (1, vi l1), (2, vi l2), (3, vi l3)] [] h) (l0 : Nat) (l1 : Int) (l2 : Int) (l3 : Int) (l4 : Int) (s0 : Int) (s1 : Option Nat) (h : HP) (E : X12_foresees_L184 F  rc36 l0 l1 l2 l3 l4 s0 s1 h = some (r, hf)) : Go K MX12_foresees (QM K none hf) hf 184 [(0, vr (some l0)), (1, vi l1), (2, vi l2), (3, vi l3), (4, vi l4)] [vi s0, vr s1] h := by
  unfold X12_foresees_L184 at E
  replace E := Option.bind_eq_some_iff.mp E; obtain ⟨h1, eh1, E⟩ := E
  refine go_putI (n := 187) eh1 fl_RX12_336 rfl dX12_foresees_184 rfl ?_
  refine go_aload_n (j := 0) (n := 188) rfl rfl dX12_foresees_187 rfl ?_
  refine go_aload_n (j := 0) (n := 189) rfl rfl dX12_foresees_188 rfl ?_
  replace E := Option.bind_eq_some_iff.mp E; obtain ⟨v2, ev2, E⟩ := E
  refine go_getI (n := 192) ev2 fl_RX12_339 rfl dX12_foresees_189 rfl ?_
  refine go_aload_n (j := 0) (n := 193) rfl rfl dX12_foresees_192 rfl ?_
  replace E := Option.bind_eq_some_iff.mp E; obtain ⟨v3, ev3, E⟩ := E
  refine go_getP (n := 196) ev3 fl_RX12_14 rfl dX12_foresees_193 rfl ?_
  refine go_iload (j := 4) (n := 198) rfl dX12_foresees_196 rfl ?_
  refine go_iconst (z := 4) (n := 199) ⟨by decide, by decide⟩ dX12_foresees_198 rfl ?_
  refine go_iadd (n := 200) dX12_foresees_199 rfl ?_
  replace E := Option.bind_eq_some_iff.mp E; obtain ⟨v4, ev4, E⟩ := E
  refine go_iaload (n := 201) ev4 dX12_foresees_200 rfl ?_
  refine go_mmax (n := 204) wml_RX12_345 jm_max_i (Nat.le_of_ble_eq_true rfl) (Nat.le_of_ble_eq_true rfl) dX12_foresees_201 rfl ?_
  replace E := Option.bind_eq_some_iff.mp E; obtain ⟨h5, eh5, E⟩ := E
  refine go_putI (n := 207) eh5 fl_RX12_339 rfl dX12_foresees_204 rfl ?_
  refine go_pick (lv' := [(0, vr (some l0)), (1, vi l1), (2, vi l2), (3, vi l3)]) [0, 1, 2, 3] rfl ?_
  exact SX12_foresees_L207   _ hrc36 _ _ _ _  _ E
noncomputable def X12_foresees_L36 (F : Nat)   (k : Nat) : Nat → Int → Int → Int → HP → Option (Unit × HP) :=
  Nat.rec (motive := fun _ => Nat → Int → Int → Int → HP → Option (Unit × HP)) (fun _ _ _ _ _ => none) (fun _ rc36 l0 l1 l2 l3 h =>
    if l3 < 0 then
      some ((), h)
    else
      (xgI h (some l0) 12 31 19).bind fun v2 =>
      if 4 ≤ v2 then
        some ((), h)
      else
        (xgP h (some l0) 12 31 1).bind fun v4 =>
        (xaI h v4 100 (w32 (10754 + (w32 (5 * l3))))).bind fun v5 =>
        if v5 = l1 then
          (xgP h (some l0) 12 31 1).bind fun v7 =>
          (xaI h v7 100 (w32 ((w32 (10754 + (w32 (5 * l3)))) + 1))).bind fun v8 =>
          if v8 = l2 then
            (xgP h (some l0) 12 31 1).bind fun v10 =>
            (xaI h v10 100 (w32 ((w32 (10754 + (w32 (5 * l3)))) + 2))).bind fun v11 =>
            (xgP h (some l0) 12 31 1).bind fun v12 =>
            (xaI h v12 100 1).bind fun v13 =>
            if v11 = v13 then
              (xgI h (some l0) 12 31 19).bind fun v15 =>
              (xpI h (some l0) 12 31 19 (w32 (v15 + 1))).bind fun h16 =>
              (xgI h16 (some l0) 12 31 20).bind fun v17 =>
              (xgP h16 (some l0) 12 31 1).bind fun v18 =>
              (xaI h16 v18 100 (w32 ((w32 (10754 + (w32 (5 * l3)))) + 4))).bind fun v19 =>
              (xpI h16 (some l0) 12 31 20 (w32 (v17 + v19))).bind fun h20 =>
              (xgI h20 (some l0) 12 31 21).bind fun v21 =>
              (xgP h20 (some l0) 12 31 1).bind fun v22 =>
              (xaI h20 v22 100 (w32 ((w32 (10754 + (w32 (5 * l3)))) + 3))).bind fun v23 =>
              (xpI h20 (some l0) 12 31 21 (w32 (v21 + v23))).bind fun h24 =>
              (xgI h24 (some l0) 12 31 22).bind fun v25 =>
              if 0 ≤ v25 then
                (xgI h24 (some l0) 12 31 22).bind fun v27 =>
                (xgP h24 (some l0) 12 31 1).bind fun v28 =>
                (xaI h24 v28 100 (w32 ((w32 (10754 + (w32 (5 * l3)))) + 4))).bind fun v29 =>
                X12_foresees_L184 F rc36 l0 l1 l2 l3 (w32 (10754 + (w32 (5 * l3)))) (min v27 v29) (some l0) h24
              else
                (xgP h24 (some l0) 12 31 1).bind fun v30 =>
                (xaI h24 v30 100 (w32 ((w32 (10754 + (w32 (5 * l3)))) + 4))).bind fun v31 =>
                X12_foresees_L184 F rc36 l0 l1 l2 l3 (w32 (10754 + (w32 (5 * l3)))) v31 (some l0) h24
            else
              X12_foresees_L207 F rc36 l0 l1 l2 l3 h
          else
            X12_foresees_L207 F rc36 l0 l1 l2 l3 h
        else
          X12_foresees_L207 F rc36 l0 l1 l2 l3 h) k
theorem X12_foresees_L36_s (F : Nat)   (k : Nat) (l0 : Nat) (l1 : Int) (l2 : Int) (l3 : Int)  (h : HP) : X12_foresees_L36 F   (k + 1) l0 l1 l2 l3 h =
    if l3 < 0 then
      some ((), h)
    else
      (xgI h (some l0) 12 31 19).bind fun v2 =>
      if 4 ≤ v2 then
        some ((), h)
      else
        (xgP h (some l0) 12 31 1).bind fun v4 =>
        (xaI h v4 100 (w32 (10754 + (w32 (5 * l3))))).bind fun v5 =>
        if v5 = l1 then
          (xgP h (some l0) 12 31 1).bind fun v7 =>
          (xaI h v7 100 (w32 ((w32 (10754 + (w32 (5 * l3)))) + 1))).bind fun v8 =>
          if v8 = l2 then
            (xgP h (some l0) 12 31 1).bind fun v10 =>
            (xaI h v10 100 (w32 ((w32 (10754 + (w32 (5 * l3)))) + 2))).bind fun v11 =>
            (xgP h (some l0) 12 31 1).bind fun v12 =>
            (xaI h v12 100 1).bind fun v13 =>
            if v11 = v13 then
              (xgI h (some l0) 12 31 19).bind fun v15 =>
              (xpI h (some l0) 12 31 19 (w32 (v15 + 1))).bind fun h16 =>
              (xgI h16 (some l0) 12 31 20).bind fun v17 =>
              (xgP h16 (some l0) 12 31 1).bind fun v18 =>
              (xaI h16 v18 100 (w32 ((w32 (10754 + (w32 (5 * l3)))) + 4))).bind fun v19 =>
              (xpI h16 (some l0) 12 31 20 (w32 (v17 + v19))).bind fun h20 =>
              (xgI h20 (some l0) 12 31 21).bind fun v21 =>
              (xgP h20 (some l0) 12 31 1).bind fun v22 =>
              (xaI h20 v22 100 (w32 ((w32 (10754 + (w32 (5 * l3)))) + 3))).bind fun v23 =>
              (xpI h20 (some l0) 12 31 21 (w32 (v21 + v23))).bind fun h24 =>
              (xgI h24 (some l0) 12 31 22).bind fun v25 =>
              if 0 ≤ v25 then
                (xgI h24 (some l0) 12 31 22).bind fun v27 =>
                (xgP h24 (some l0) 12 31 1).bind fun v28 =>
                (xaI h24 v28 100 (w32 ((w32 (10754 + (w32 (5 * l3)))) + 4))).bind fun v29 =>
                X12_foresees_L184 F (X12_foresees_L36 F k) l0 l1 l2 l3 (w32 (10754 + (w32 (5 * l3)))) (min v27 v29) (some l0) h24
              else
                (xgP h24 (some l0) 12 31 1).bind fun v30 =>
                (xaI h24 v30 100 (w32 ((w32 (10754 + (w32 (5 * l3)))) + 4))).bind fun v31 =>
                X12_foresees_L184 F (X12_foresees_L36 F k) l0 l1 l2 l3 (w32 (10754 + (w32 (5 * l3)))) v31 (some l0) h24
            else
              X12_foresees_L207 F (X12_foresees_L36 F k) l0 l1 l2 l3 h
          else
            X12_foresees_L207 F (X12_foresees_L36 F k) l0 l1 l2 l3 h
        else
          X12_foresees_L207 F (X12_foresees_L36 F k) l0 l1 l2 l3 h := rfl
set_option maxRecDepth 100000 in
theorem SX12_foresees_L36 {K : Ctx} {F : Nat} {r : Unit} {hf : HP}     : ∀ (k : Nat) (l0 : Nat) (l1 : Int) (l2 : Int) (l3 : Int)  (h : HP), X12_foresees_L36 F   k l0 l1 l2 l3 h = some (r, hf) → Go K MX12_foresees (QM K none hf) hf 36 [(0, vr (some l0)), (1, vi l1), (2, vi l2), (3, vi l3)] [] h := by
  intro k
  induction k with
  | zero => intro l0 l1 l2 l3 h E; exact nomatch E
  | succ k hrc36 =>
    intro l0 l1 l2 l3 h E
    rw [X12_foresees_L36_s] at E
    refine go_iload_n (j := 3) (n := 37) rfl rfl dX12_foresees_36 rfl ?_
    refine go_if_lt (tgt := 213) (n := 40) dX12_foresees_37 rfl rfl (fun c1 => ?_) (fun c1 => ?_)
    · rw [if_pos c1] at E
      cases E
      exact go_return rfl dX12_foresees_213
    · rw [if_neg c1] at E
      refine go_aload_n (j := 0) (n := 41) rfl rfl dX12_foresees_40 rfl ?_
      replace E := Option.bind_eq_some_iff.mp E; obtain ⟨v2, ev2, E⟩ := E
      refine go_getI (n := 44) ev2 fl_RX12_327 rfl dX12_foresees_41 rfl ?_
      refine go_iconst (z := 4) (n := 45) ⟨by decide, by decide⟩ dX12_foresees_44 rfl ?_
      refine go_icmp_ge (tgt := 213) (n := 48) dX12_foresees_45 rfl rfl (fun c3 => ?_) (fun c3 => ?_)
      · rw [if_pos c3] at E
        cases E
        exact go_return rfl dX12_foresees_213
      · rw [if_neg c3] at E
        refine go_sipush (z := 10754) (n := 51) ⟨by decide, by decide⟩ dX12_foresees_48 rfl ?_
        refine go_iconst (z := 5) (n := 52) ⟨by decide, by decide⟩ dX12_foresees_51 rfl ?_
        refine go_iload_n (j := 3) (n := 53) rfl rfl dX12_foresees_52 rfl ?_
        refine go_imul (n := 54) dX12_foresees_53 rfl ?_
        refine go_iadd (n := 55) dX12_foresees_54 rfl ?_
        refine go_istore (n := 57) (lv' := [(4, vi (w32 (10754 + (w32 (5 * l3))))), (0, vr (some l0)), (1, vi l1), (2, vi l2), (3, vi l3)]) dX12_foresees_55 rfl (Nat.le_of_ble_eq_true rfl) rfl ?_
        refine go_aload_n (j := 1) (n := 58) rfl rfl dX12_foresees_57 rfl ?_
        replace E := Option.bind_eq_some_iff.mp E; obtain ⟨v4, ev4, E⟩ := E
        refine go_getP (n := 61) ev4 fl_RX12_14 rfl dX12_foresees_58 rfl ?_
        refine go_iload (j := 0) (n := 63) rfl dX12_foresees_61 rfl ?_
        replace E := Option.bind_eq_some_iff.mp E; obtain ⟨v5, ev5, E⟩ := E
        refine go_iaload (n := 64) ev5 dX12_foresees_63 rfl ?_
        refine go_iload_n (j := 2) (n := 65) rfl rfl dX12_foresees_64 rfl ?_
        refine go_icmp_ne (tgt := 207) (n := 68) dX12_foresees_65 rfl rfl (fun c6 => ?_) (fun c6 => ?_)
        · rw [if_neg c6] at E
          refine go_pick (lv' := [(0, vr (some l0)), (1, vi l1), (2, vi l2), (3, vi l3)]) [1, 2, 3, 4] rfl ?_
          exact SX12_foresees_L207   _ hrc36 _ _ _ _  _ E
        · rw [if_pos c6] at E
          refine go_aload_n (j := 1) (n := 69) rfl rfl dX12_foresees_68 rfl ?_
          replace E := Option.bind_eq_some_iff.mp E; obtain ⟨v7, ev7, E⟩ := E
          refine go_getP (n := 72) ev7 fl_RX12_14 rfl dX12_foresees_69 rfl ?_
          refine go_iload (j := 0) (n := 74) rfl dX12_foresees_72 rfl ?_
          refine go_iconst (z := 1) (n := 75) ⟨by decide, by decide⟩ dX12_foresees_74 rfl ?_
          refine go_iadd (n := 76) dX12_foresees_75 rfl ?_
          replace E := Option.bind_eq_some_iff.mp E; obtain ⟨v8, ev8, E⟩ := E
          refine go_iaload (n := 77) ev8 dX12_foresees_76 rfl ?_
          refine go_iload_n (j := 3) (n := 78) rfl rfl dX12_foresees_77 rfl ?_
          refine go_icmp_ne (tgt := 207) (n := 81) dX12_foresees_78 rfl rfl (fun c9 => ?_) (fun c9 => ?_)
          · rw [if_neg c9] at E
            refine go_pick (lv' := [(0, vr (some l0)), (1, vi l1), (2, vi l2), (3, vi l3)]) [1, 2, 3, 4] rfl ?_
            exact SX12_foresees_L207   _ hrc36 _ _ _ _  _ E
          · rw [if_pos c9] at E
            refine go_aload_n (j := 1) (n := 82) rfl rfl dX12_foresees_81 rfl ?_
            replace E := Option.bind_eq_some_iff.mp E; obtain ⟨v10, ev10, E⟩ := E
            refine go_getP (n := 85) ev10 fl_RX12_14 rfl dX12_foresees_82 rfl ?_
            refine go_iload (j := 0) (n := 87) rfl dX12_foresees_85 rfl ?_
            refine go_iconst (z := 2) (n := 88) ⟨by decide, by decide⟩ dX12_foresees_87 rfl ?_
            refine go_iadd (n := 89) dX12_foresees_88 rfl ?_
            replace E := Option.bind_eq_some_iff.mp E; obtain ⟨v11, ev11, E⟩ := E
            refine go_iaload (n := 90) ev11 dX12_foresees_89 rfl ?_
            refine go_aload_n (j := 1) (n := 91) rfl rfl dX12_foresees_90 rfl ?_
            replace E := Option.bind_eq_some_iff.mp E; obtain ⟨v12, ev12, E⟩ := E
            refine go_getP (n := 94) ev12 fl_RX12_14 rfl dX12_foresees_91 rfl ?_
            refine go_iconst (z := 1) (n := 95) ⟨by decide, by decide⟩ dX12_foresees_94 rfl ?_
            replace E := Option.bind_eq_some_iff.mp E; obtain ⟨v13, ev13, E⟩ := E
            refine go_iaload (n := 96) ev13 dX12_foresees_95 rfl ?_
            refine go_icmp_eq (tgt := 102) (n := 99) dX12_foresees_96 rfl rfl (fun c14 => ?_) (fun c14 => ?_)
            · rw [if_pos c14] at E
              refine go_aload_n (j := 1) (n := 103) rfl rfl dX12_foresees_102 rfl ?_
              refine go_dup (n := 104) rfl dX12_foresees_103 rfl ?_
              replace E := Option.bind_eq_some_iff.mp E; obtain ⟨v15, ev15, E⟩ := E
              refine go_getI (n := 107) ev15 fl_RX12_327 rfl dX12_foresees_104 rfl ?_
              refine go_iconst (z := 1) (n := 108) ⟨by decide, by decide⟩ dX12_foresees_107 rfl ?_
              refine go_iadd (n := 109) dX12_foresees_108 rfl ?_
              replace E := Option.bind_eq_some_iff.mp E; obtain ⟨h16, eh16, E⟩ := E
              refine go_putI (n := 112) eh16 fl_RX12_327 rfl dX12_foresees_109 rfl ?_
              refine go_aload_n (j := 1) (n := 113) rfl rfl dX12_foresees_112 rfl ?_
              refine go_dup (n := 114) rfl dX12_foresees_113 rfl ?_
              replace E := Option.bind_eq_some_iff.mp E; obtain ⟨v17, ev17, E⟩ := E
              refine go_getI (n := 117) ev17 fl_RX12_330 rfl dX12_foresees_114 rfl ?_
              refine go_aload_n (j := 1) (n := 118) rfl rfl dX12_foresees_117 rfl ?_
              replace E := Option.bind_eq_some_iff.mp E; obtain ⟨v18, ev18, E⟩ := E
              refine go_getP (n := 121) ev18 fl_RX12_14 rfl dX12_foresees_118 rfl ?_
              refine go_iload (j := 0) (n := 123) rfl dX12_foresees_121 rfl ?_
              refine go_iconst (z := 4) (n := 124) ⟨by decide, by decide⟩ dX12_foresees_123 rfl ?_
              refine go_iadd (n := 125) dX12_foresees_124 rfl ?_
              replace E := Option.bind_eq_some_iff.mp E; obtain ⟨v19, ev19, E⟩ := E
              refine go_iaload (n := 126) ev19 dX12_foresees_125 rfl ?_
              refine go_iadd (n := 127) dX12_foresees_126 rfl ?_
              replace E := Option.bind_eq_some_iff.mp E; obtain ⟨h20, eh20, E⟩ := E
              refine go_putI (n := 130) eh20 fl_RX12_330 rfl dX12_foresees_127 rfl ?_
              refine go_aload_n (j := 1) (n := 131) rfl rfl dX12_foresees_130 rfl ?_
              refine go_dup (n := 132) rfl dX12_foresees_131 rfl ?_
              replace E := Option.bind_eq_some_iff.mp E; obtain ⟨v21, ev21, E⟩ := E
              refine go_getI (n := 135) ev21 fl_RX12_333 rfl dX12_foresees_132 rfl ?_
              refine go_aload_n (j := 1) (n := 136) rfl rfl dX12_foresees_135 rfl ?_
              replace E := Option.bind_eq_some_iff.mp E; obtain ⟨v22, ev22, E⟩ := E
              refine go_getP (n := 139) ev22 fl_RX12_14 rfl dX12_foresees_136 rfl ?_
              refine go_iload (j := 0) (n := 141) rfl dX12_foresees_139 rfl ?_
              refine go_iconst (z := 3) (n := 142) ⟨by decide, by decide⟩ dX12_foresees_141 rfl ?_
              refine go_iadd (n := 143) dX12_foresees_142 rfl ?_
              replace E := Option.bind_eq_some_iff.mp E; obtain ⟨v23, ev23, E⟩ := E
              refine go_iaload (n := 144) ev23 dX12_foresees_143 rfl ?_
              refine go_iadd (n := 145) dX12_foresees_144 rfl ?_
              replace E := Option.bind_eq_some_iff.mp E; obtain ⟨h24, eh24, E⟩ := E
              refine go_putI (n := 148) eh24 fl_RX12_333 rfl dX12_foresees_145 rfl ?_
              refine go_aload_n (j := 1) (n := 149) rfl rfl dX12_foresees_148 rfl ?_
              refine go_aload_n (j := 1) (n := 150) rfl rfl dX12_foresees_149 rfl ?_
              replace E := Option.bind_eq_some_iff.mp E; obtain ⟨v25, ev25, E⟩ := E
              refine go_getI (n := 153) ev25 fl_RX12_336 rfl dX12_foresees_150 rfl ?_
              refine go_if_ge (tgt := 168) (n := 156) dX12_foresees_153 rfl rfl (fun c26 => ?_) (fun c26 => ?_)
              · rw [if_pos c26] at E
                refine go_aload_n (j := 1) (n := 169) rfl rfl dX12_foresees_168 rfl ?_
                replace E := Option.bind_eq_some_iff.mp E; obtain ⟨v27, ev27, E⟩ := E
                refine go_getI (n := 172) ev27 fl_RX12_336 rfl dX12_foresees_169 rfl ?_
                refine go_aload_n (j := 1) (n := 173) rfl rfl dX12_foresees_172 rfl ?_
                replace E := Option.bind_eq_some_iff.mp E; obtain ⟨v28, ev28, E⟩ := E
                refine go_getP (n := 176) ev28 fl_RX12_14 rfl dX12_foresees_173 rfl ?_
                refine go_iload (j := 0) (n := 178) rfl dX12_foresees_176 rfl ?_
                refine go_iconst (z := 4) (n := 179) ⟨by decide, by decide⟩ dX12_foresees_178 rfl ?_
                refine go_iadd (n := 180) dX12_foresees_179 rfl ?_
                replace E := Option.bind_eq_some_iff.mp E; obtain ⟨v29, ev29, E⟩ := E
                refine go_iaload (n := 181) ev29 dX12_foresees_180 rfl ?_
                refine go_mmin (n := 184) wml_RX12_342 jm_min_i (Nat.le_of_ble_eq_true rfl) (Nat.le_of_ble_eq_true rfl) dX12_foresees_181 rfl ?_
                refine go_pick (lv' := [(0, vr (some l0)), (1, vi l1), (2, vi l2), (3, vi l3), (4, vi (w32 (10754 + (w32 (5 * l3)))))]) [1, 2, 3, 4, 0] rfl ?_
                exact SX12_foresees_L184   _ hrc36 _ _ _ _ _ _ _ _ E
              · rw [if_neg c26] at E
                refine go_aload_n (j := 1) (n := 157) rfl rfl dX12_foresees_156 rfl ?_
                replace E := Option.bind_eq_some_iff.mp E; obtain ⟨v30, ev30, E⟩ := E
                refine go_getP (n := 160) ev30 fl_RX12_14 rfl dX12_foresees_157 rfl ?_
                refine go_iload (j := 0) (n := 162) rfl dX12_foresees_160 rfl ?_
                refine go_iconst (z := 4) (n := 163) ⟨by decide, by decide⟩ dX12_foresees_162 rfl ?_
                refine go_iadd (n := 164) dX12_foresees_163 rfl ?_
                replace E := Option.bind_eq_some_iff.mp E; obtain ⟨v31, ev31, E⟩ := E
                refine go_iaload (n := 165) ev31 dX12_foresees_164 rfl ?_
                refine go_goto (tgt := 184) dX12_foresees_165 rfl ?_
                refine go_pick (lv' := [(0, vr (some l0)), (1, vi l1), (2, vi l2), (3, vi l3), (4, vi (w32 (10754 + (w32 (5 * l3)))))]) [1, 2, 3, 4, 0] rfl ?_
                exact SX12_foresees_L184   _ hrc36 _ _ _ _ _ _ _ _ E
            · rw [if_neg c14] at E
              refine go_goto (tgt := 207) dX12_foresees_99 rfl ?_
              refine go_pick (lv' := [(0, vr (some l0)), (1, vi l1), (2, vi l2), (3, vi l3)]) [1, 2, 3, 4] rfl ?_
              exact SX12_foresees_L207   _ hrc36 _ _ _ _  _ E
noncomputable def X12_foresees (F : Nat)   (l0 : Nat) (l1 : Int) (l2 : Int)  (h : HP) : Option (Unit × HP) :=
  (xpI h (some l0) 12 31 19 0).bind fun h1 =>
  (xpI h1 (some l0) 12 31 20 0).bind fun h2 =>
  (xpI h2 (some l0) 12 31 21 0).bind fun h3 =>
  (xpI h3 (some l0) 12 31 22 (-1)).bind fun h4 =>
  (xpI h4 (some l0) 12 31 23 (-1)).bind fun h5 =>
  (xgP h5 (some l0) 12 31 1).bind fun v6 =>
  (xaI h5 v6 100 10753).bind fun v7 =>
  X12_foresees_L36 F F l0 l1 l2 (w32 (v7 - 1)) h5
set_option maxRecDepth 100000 in
theorem SX12_foresees {K : Ctx} {F : Nat} {r : Unit} {hf : HP}     (l0 : Nat) (l1 : Int) (l2 : Int)  (h : HP) (E : X12_foresees F   l0 l1 l2 h = some (r, hf)) : Go K MX12_foresees (QM K none hf) hf 0 [(0, vr (some l0)), (1, vi l1), (2, vi l2)] [] h := by
  unfold X12_foresees at E
  refine go_aload_n (j := 0) (n := 1) rfl rfl dX12_foresees_0 rfl ?_
  refine go_iconst (z := 0) (n := 2) ⟨by decide, by decide⟩ dX12_foresees_1 rfl ?_
  replace E := Option.bind_eq_some_iff.mp E; obtain ⟨h1, eh1, E⟩ := E
  refine go_putI (n := 5) eh1 fl_RX12_327 rfl dX12_foresees_2 rfl ?_
  refine go_aload_n (j := 0) (n := 6) rfl rfl dX12_foresees_5 rfl ?_
  refine go_iconst (z := 0) (n := 7) ⟨by decide, by decide⟩ dX12_foresees_6 rfl ?_
  replace E := Option.bind_eq_some_iff.mp E; obtain ⟨h2, eh2, E⟩ := E
  refine go_putI (n := 10) eh2 fl_RX12_330 rfl dX12_foresees_7 rfl ?_
  refine go_aload_n (j := 0) (n := 11) rfl rfl dX12_foresees_10 rfl ?_
  refine go_iconst (z := 0) (n := 12) ⟨by decide, by decide⟩ dX12_foresees_11 rfl ?_
  replace E := Option.bind_eq_some_iff.mp E; obtain ⟨h3, eh3, E⟩ := E
  refine go_putI (n := 15) eh3 fl_RX12_333 rfl dX12_foresees_12 rfl ?_
  refine go_aload_n (j := 0) (n := 16) rfl rfl dX12_foresees_15 rfl ?_
  refine go_iconst (z := (-1)) (n := 17) ⟨by decide, by decide⟩ dX12_foresees_16 rfl ?_
  replace E := Option.bind_eq_some_iff.mp E; obtain ⟨h4, eh4, E⟩ := E
  refine go_putI (n := 20) eh4 fl_RX12_336 rfl dX12_foresees_17 rfl ?_
  refine go_aload_n (j := 0) (n := 21) rfl rfl dX12_foresees_20 rfl ?_
  refine go_iconst (z := (-1)) (n := 22) ⟨by decide, by decide⟩ dX12_foresees_21 rfl ?_
  replace E := Option.bind_eq_some_iff.mp E; obtain ⟨h5, eh5, E⟩ := E
  refine go_putI (n := 25) eh5 fl_RX12_339 rfl dX12_foresees_22 rfl ?_
  refine go_aload_n (j := 0) (n := 26) rfl rfl dX12_foresees_25 rfl ?_
  replace E := Option.bind_eq_some_iff.mp E; obtain ⟨v6, ev6, E⟩ := E
  refine go_getP (n := 29) ev6 fl_RX12_14 rfl dX12_foresees_26 rfl ?_
  refine go_sipush (z := 10753) (n := 32) ⟨by decide, by decide⟩ dX12_foresees_29 rfl ?_
  replace E := Option.bind_eq_some_iff.mp E; obtain ⟨v7, ev7, E⟩ := E
  refine go_iaload (n := 33) ev7 dX12_foresees_32 rfl ?_
  refine go_iconst (z := 1) (n := 34) ⟨by decide, by decide⟩ dX12_foresees_33 rfl ?_
  refine go_isub (n := 35) dX12_foresees_34 rfl ?_
  refine go_istore_n (n := 36) (lv' := [(3, vi (w32 (v7 - 1))), (0, vr (some l0)), (1, vi l1), (2, vi l2)]) rfl dX12_foresees_35 rfl (Nat.le_of_ble_eq_true rfl) rfl ?_
  refine go_pick (lv' := [(0, vr (some l0)), (1, vi l1), (2, vi l2), (3, vi (w32 (v7 - 1)))]) [1, 2, 3, 0] rfl ?_
  exact SX12_foresees_L36     F _ _ _ _ _ E
theorem OX12_foresees {F : Nat} {l0 : Nat} {l1 : Int} {l2 : Int} {h hf : HP} {r : Unit} (e : X12_foresees F l0 l1 l2 h = some (r, hf)) : Ok MX12_foresees [vr (some l0), vi l1, vi l2] none h hf := fun K _ _ _ => SX12_foresees l0 l1 l2 h e
theorem yw_X12_foresees : YW yX12_foresees cX12_foresees 5 none 2 := ⟨bw_of 2210 (by decide +kernel) rfl, bw_of 129 (by decide +kernel) rfl, ⟨by decide +kernel, by decide +kernel, by decide +kernel⟩, by decide +kernel⟩
theorem wml_RX12_347 : Cond.methodLink RX12 347 yX12_foresees ∈ BW := bw_of 2207 (by decide +kernel) rfl
theorem wim_X12_foresees : Cond.instanceMethod yX12_foresees ∈ BW := bw_of 2209 (by decide +kernel) rfl
theorem wse_X12_foresees : Cond.selects RX12 yX12_foresees yX12_foresees ∈ BW := bw_of 104 (by decide +kernel) rfl
abbrev MX12_foretell : MI := (RX12, cX12_foretell, 4, (some .int), 4, none, "foretell")
noncomputable def X12_foretell_L47 (F : Nat)   (l0 : Nat) (l1 : Int) (l2 : Int) (l3 : Int) (s0 : Int) (s1 : Option Nat) (h : HP) : Option (Int × HP) :=
  (xrc h s1 12 31).bind fun a3 =>
  xb (X12_throwsIf F a3 s0 2 h) fun v1 h2 =>
  if v1 = 0 then
    (xrc h2 (some l0) 12 31).bind fun a7 =>
    xb (X12_foresees F a7 l1 l2 h2) fun v5 h6 =>
    if l3 = 3 then
      (xgI h6 (some l0) 12 31 19).bind fun v23 =>
      some (v23, h6)
    else
      (xgI h6 (some l0) 12 31 19).bind fun v9 =>
      if v9 = 0 then
        some ((-1), h6)
      else
        if l3 = 0 then
          (xgI h6 (some l0) 12 31 20).bind fun v15 =>
          (xgI h6 (some l0) 12 31 19).bind fun v16 =>
          (xd v16).bind fun u17 =>
          (xgP h6 (some l0) 12 31 1).bind fun v18 =>
          (xaI h6 v18 100 2).bind fun v19 =>
          (xgI h6 (some l0) 12 31 21).bind fun v20 =>
          (xgI h6 (some l0) 12 31 19).bind fun v21 =>
          (xd v21).bind fun u22 =>
          some (max 0 (w32 ((w32 (v15.tdiv v16)) + (w32 (2 * (w32 (v19 - (w32 (v20.tdiv v21)))))))), h6)
        else
          if l3 = 1 then
            (xgI h6 (some l0) 12 31 22).bind fun v14 =>
            some (v14, h6)
          else
            (xgI h6 (some l0) 12 31 23).bind fun v13 =>
            some (v13, h6)
  else
    some (0, h2)
set_option maxRecDepth 100000 in
theorem SX12_foretell_L47 {K : Ctx} {F : Nat} {r : Int} {hf : HP}     (l0 : Nat) (l1 : Int) (l2 : Int) (l3 : Int) (s0 : Int) (s1 : Option Nat) (h : HP) (E : X12_foretell_L47 F   l0 l1 l2 l3 s0 s1 h = some (r, hf)) : Go K MX12_foretell (QM K (some (vi r)) hf) hf 47 [(0, vr (some l0)), (1, vi l1), (2, vi l2), (3, vi l3)] [vi s0, vr s1] h := by
  unfold X12_foretell_L47 at E
  refine go_iconst (z := 2) (n := 48) ⟨by decide, by decide⟩ dX12_foretell_47 rfl ?_
  replace E := Option.bind_eq_some_iff.mp E; obtain ⟨a3, ea3, E⟩ := E
  obtain ⟨fa3, ga3⟩ := xrc_some ea3
  replace E := xb_some E; obtain ⟨v1, h2, ev1, E⟩ := E
  refine go_callV (y := yX12_throwsIf) (n := 51) (st := []) (as := [vi s0, vi 2]) (stk9 := [vi v1]) (OX12_throwsIf ev1) yw_X12_throwsIf ci_12 ga3 wml_RX12_65 wim_X12_throwsIf wse_X12_throwsIf (Nat.le_of_ble_eq_true rfl) rfl ⟨Nat.le_of_ble_eq_true rfl, Nat.le_of_ble_eq_true rfl⟩ (Nat.le_of_ble_eq_true rfl) dX12_foretell_48 rfl (by cases fa3; rfl) rfl ?_
  refine go_if_eq (tgt := 56) (n := 54) dX12_foretell_51 rfl rfl (fun c4 => ?_) (fun c4 => ?_)
  · rw [if_pos c4] at E
    refine go_aload_n (j := 0) (n := 57) rfl rfl dX12_foretell_56 rfl ?_
    refine go_iload_n (j := 1) (n := 58) rfl rfl dX12_foretell_57 rfl ?_
    refine go_iload_n (j := 2) (n := 59) rfl rfl dX12_foretell_58 rfl ?_
    replace E := Option.bind_eq_some_iff.mp E; obtain ⟨a7, ea7, E⟩ := E
    obtain ⟨fa7, ga7⟩ := xrc_some ea7
    replace E := xb_some E; obtain ⟨v5, h6, ev5, E⟩ := E
    refine go_callV (y := yX12_foresees) (n := 62) (st := []) (as := [vi l1, vi l2]) (stk9 := []) (OX12_foresees ev5) yw_X12_foresees ci_12 ga7 wml_RX12_347 wim_X12_foresees wse_X12_foresees (Nat.le_of_ble_eq_true rfl) rfl ⟨Nat.le_of_ble_eq_true rfl, Nat.le_of_ble_eq_true rfl⟩ (Nat.le_of_ble_eq_true rfl) dX12_foretell_59 rfl (by cases fa7; rfl) rfl ?_
    refine go_iload_n (j := 3) (n := 63) rfl rfl dX12_foretell_62 rfl ?_
    refine go_iconst (z := 3) (n := 64) ⟨by decide, by decide⟩ dX12_foretell_63 rfl ?_
    refine go_icmp_ne (tgt := 72) (n := 67) dX12_foretell_64 rfl rfl (fun c8 => ?_) (fun c8 => ?_)
    · rw [if_neg c8] at E
      refine go_aload_n (j := 0) (n := 73) rfl rfl dX12_foretell_72 rfl ?_
      replace E := Option.bind_eq_some_iff.mp E; obtain ⟨v9, ev9, E⟩ := E
      refine go_getI (n := 76) ev9 fl_RX12_327 rfl dX12_foretell_73 rfl ?_
      refine go_if_ne (tgt := 81) (n := 79) dX12_foretell_76 rfl rfl (fun c10 => ?_) (fun c10 => ?_)
      · rw [if_neg c10] at E
        refine go_iload_n (j := 3) (n := 82) rfl rfl dX12_foretell_81 rfl ?_
        refine go_if_ne (tgt := 120) (n := 85) dX12_foretell_82 rfl rfl (fun c11 => ?_) (fun c11 => ?_)
        · rw [if_neg c11] at E
          refine go_iload_n (j := 3) (n := 121) rfl rfl dX12_foretell_120 rfl ?_
          refine go_iconst (z := 1) (n := 122) ⟨by decide, by decide⟩ dX12_foretell_121 rfl ?_
          refine go_icmp_ne (tgt := 132) (n := 125) dX12_foretell_122 rfl rfl (fun c12 => ?_) (fun c12 => ?_)
          · rw [if_neg c12] at E
            refine go_aload_n (j := 0) (n := 133) rfl rfl dX12_foretell_132 rfl ?_
            replace E := Option.bind_eq_some_iff.mp E; obtain ⟨v13, ev13, E⟩ := E
            refine go_getI (n := 136) ev13 fl_RX12_339 rfl dX12_foretell_133 rfl ?_
            cases E
            exact go_ireturn rfl dX12_foretell_136
          · rw [if_pos c12] at E
            refine go_aload_n (j := 0) (n := 126) rfl rfl dX12_foretell_125 rfl ?_
            replace E := Option.bind_eq_some_iff.mp E; obtain ⟨v14, ev14, E⟩ := E
            refine go_getI (n := 129) ev14 fl_RX12_336 rfl dX12_foretell_126 rfl ?_
            refine go_goto (tgt := 136) dX12_foretell_129 rfl ?_
            cases E
            exact go_ireturn rfl dX12_foretell_136
        · rw [if_pos c11] at E
          refine go_iconst (z := 0) (n := 86) ⟨by decide, by decide⟩ dX12_foretell_85 rfl ?_
          refine go_aload_n (j := 0) (n := 87) rfl rfl dX12_foretell_86 rfl ?_
          replace E := Option.bind_eq_some_iff.mp E; obtain ⟨v15, ev15, E⟩ := E
          refine go_getI (n := 90) ev15 fl_RX12_330 rfl dX12_foretell_87 rfl ?_
          refine go_aload_n (j := 0) (n := 91) rfl rfl dX12_foretell_90 rfl ?_
          replace E := Option.bind_eq_some_iff.mp E; obtain ⟨v16, ev16, E⟩ := E
          refine go_getI (n := 94) ev16 fl_RX12_327 rfl dX12_foretell_91 rfl ?_
          replace E := Option.bind_eq_some_iff.mp E; obtain ⟨u17, eu17, E⟩ := E
          refine go_idiv (n := 95) (xd_some eu17) dX12_foretell_94 rfl ?_
          refine go_iconst (z := 2) (n := 96) ⟨by decide, by decide⟩ dX12_foretell_95 rfl ?_
          refine go_aload_n (j := 0) (n := 97) rfl rfl dX12_foretell_96 rfl ?_
          replace E := Option.bind_eq_some_iff.mp E; obtain ⟨v18, ev18, E⟩ := E
          refine go_getP (n := 100) ev18 fl_RX12_14 rfl dX12_foretell_97 rfl ?_
          refine go_iconst (z := 2) (n := 101) ⟨by decide, by decide⟩ dX12_foretell_100 rfl ?_
          replace E := Option.bind_eq_some_iff.mp E; obtain ⟨v19, ev19, E⟩ := E
          refine go_iaload (n := 102) ev19 dX12_foretell_101 rfl ?_
          refine go_aload_n (j := 0) (n := 103) rfl rfl dX12_foretell_102 rfl ?_
          replace E := Option.bind_eq_some_iff.mp E; obtain ⟨v20, ev20, E⟩ := E
          refine go_getI (n := 106) ev20 fl_RX12_333 rfl dX12_foretell_103 rfl ?_
          refine go_aload_n (j := 0) (n := 107) rfl rfl dX12_foretell_106 rfl ?_
          replace E := Option.bind_eq_some_iff.mp E; obtain ⟨v21, ev21, E⟩ := E
          refine go_getI (n := 110) ev21 fl_RX12_327 rfl dX12_foretell_107 rfl ?_
          replace E := Option.bind_eq_some_iff.mp E; obtain ⟨u22, eu22, E⟩ := E
          refine go_idiv (n := 111) (xd_some eu22) dX12_foretell_110 rfl ?_
          refine go_isub (n := 112) dX12_foretell_111 rfl ?_
          refine go_imul (n := 113) dX12_foretell_112 rfl ?_
          refine go_iadd (n := 114) dX12_foretell_113 rfl ?_
          refine go_mmax (n := 117) wml_RX12_345 jm_max_i (Nat.le_of_ble_eq_true rfl) (Nat.le_of_ble_eq_true rfl) dX12_foretell_114 rfl ?_
          refine go_goto (tgt := 136) dX12_foretell_117 rfl ?_
          cases E
          exact go_ireturn rfl dX12_foretell_136
      · rw [if_pos c10] at E
        refine go_iconst (z := (-1)) (n := 80) ⟨by decide, by decide⟩ dX12_foretell_79 rfl ?_
        cases E
        exact go_ireturn rfl dX12_foretell_80
    · rw [if_pos c8] at E
      refine go_aload_n (j := 0) (n := 68) rfl rfl dX12_foretell_67 rfl ?_
      replace E := Option.bind_eq_some_iff.mp E; obtain ⟨v23, ev23, E⟩ := E
      refine go_getI (n := 71) ev23 fl_RX12_327 rfl dX12_foretell_68 rfl ?_
      cases E
      exact go_ireturn rfl dX12_foretell_71
  · rw [if_neg c4] at E
    refine go_iconst (z := 0) (n := 55) ⟨by decide, by decide⟩ dX12_foretell_54 rfl ?_
    cases E
    exact go_ireturn rfl dX12_foretell_55
noncomputable def X12_foretell_L25 (F : Nat)   (l0 : Nat) (l1 : Int) (l2 : Int) (l3 : Int) (s0 : Int) (s1 : Option Nat) (h : HP) : Option (Int × HP) :=
  (xrc h s1 12 31).bind fun a3 =>
  xb (X12_throwsIf F a3 s0 1 h) fun v1 h2 =>
  if v1 = 0 then
    xb (X12_in F l3 0 3 h2) fun v5 h6 =>
    X12_foretell_L47 F l0 l1 l2 l3 (if v5 = 0 then 1 else 0) (some l0) h6
  else
    some (0, h2)
set_option maxRecDepth 100000 in
theorem SX12_foretell_L25 {K : Ctx} {F : Nat} {r : Int} {hf : HP}     (l0 : Nat) (l1 : Int) (l2 : Int) (l3 : Int) (s0 : Int) (s1 : Option Nat) (h : HP) (E : X12_foretell_L25 F   l0 l1 l2 l3 s0 s1 h = some (r, hf)) : Go K MX12_foretell (QM K (some (vi r)) hf) hf 25 [(0, vr (some l0)), (1, vi l1), (2, vi l2), (3, vi l3)] [vi s0, vr s1] h := by
  unfold X12_foretell_L25 at E
  refine go_iconst (z := 1) (n := 26) ⟨by decide, by decide⟩ dX12_foretell_25 rfl ?_
  replace E := Option.bind_eq_some_iff.mp E; obtain ⟨a3, ea3, E⟩ := E
  obtain ⟨fa3, ga3⟩ := xrc_some ea3
  replace E := xb_some E; obtain ⟨v1, h2, ev1, E⟩ := E
  refine go_callV (y := yX12_throwsIf) (n := 29) (st := []) (as := [vi s0, vi 1]) (stk9 := [vi v1]) (OX12_throwsIf ev1) yw_X12_throwsIf ci_12 ga3 wml_RX12_65 wim_X12_throwsIf wse_X12_throwsIf (Nat.le_of_ble_eq_true rfl) rfl ⟨Nat.le_of_ble_eq_true rfl, Nat.le_of_ble_eq_true rfl⟩ (Nat.le_of_ble_eq_true rfl) dX12_foretell_26 rfl (by cases fa3; rfl) rfl ?_
  refine go_if_ne (tgt := 54) (n := 32) dX12_foretell_29 rfl rfl (fun c4 => ?_) (fun c4 => ?_)
  · rw [if_neg c4] at E
    refine go_iconst (z := 0) (n := 55) ⟨by decide, by decide⟩ dX12_foretell_54 rfl ?_
    cases E
    exact go_ireturn rfl dX12_foretell_55
  · rw [if_pos c4] at E
    refine go_aload_n (j := 0) (n := 33) rfl rfl dX12_foretell_32 rfl ?_
    refine go_iload_n (j := 3) (n := 34) rfl rfl dX12_foretell_33 rfl ?_
    refine go_iconst (z := 0) (n := 35) ⟨by decide, by decide⟩ dX12_foretell_34 rfl ?_
    refine go_iconst (z := 3) (n := 36) ⟨by decide, by decide⟩ dX12_foretell_35 rfl ?_
    replace E := xb_some E; obtain ⟨v5, h6, ev5, E⟩ := E
    refine go_callS (y := yX12_in) (n := 39) (st := [vr (some l0)]) (as := [vi l3, vi 0, vi 3]) (stk9 := [vi v5, vr (some l0)]) (OX12_in ev5) yw_X12_in wml_RX12_61 wst_X12_in (Nat.le_of_ble_eq_true rfl) rfl ⟨Nat.le_of_ble_eq_true rfl, Nat.le_of_ble_eq_true rfl⟩ (Nat.le_of_ble_eq_true rfl) dX12_foretell_36 rfl rfl rfl ?_
    refine go_if_ne (tgt := 46) (n := 42) dX12_foretell_39 rfl rfl (fun c7 => ?_) (fun c7 => ?_)
    · simp only [if_neg c7] at E
      refine go_iconst (z := 0) (n := 47) ⟨by decide, by decide⟩ dX12_foretell_46 rfl ?_
      exact SX12_foretell_L47     _ _ _ _ _ _ _ E
    · simp only [if_pos c7] at E
      refine go_iconst (z := 1) (n := 43) ⟨by decide, by decide⟩ dX12_foretell_42 rfl ?_
      refine go_goto (tgt := 47) dX12_foretell_43 rfl ?_
      exact SX12_foretell_L47     _ _ _ _ _ _ _ E
noncomputable def X12_foretell_L20 (F : Nat)   (l0 : Nat) (l1 : Int) (l2 : Int) (l3 : Int) (s0 : Option Nat) (h : HP) : Option (Int × HP) :=
  X12_foretell_L25 F l0 l1 l2 l3 1 s0 h
set_option maxRecDepth 100000 in
theorem SX12_foretell_L20 {K : Ctx} {F : Nat} {r : Int} {hf : HP}     (l0 : Nat) (l1 : Int) (l2 : Int) (l3 : Int) (s0 : Option Nat) (h : HP) (E : X12_foretell_L20 F   l0 l1 l2 l3 s0 h = some (r, hf)) : Go K MX12_foretell (QM K (some (vi r)) hf) hf 20 [(0, vr (some l0)), (1, vi l1), (2, vi l2), (3, vi l3)] [vr s0] h := by
  unfold X12_foretell_L20 at E
  refine go_iconst (z := 1) (n := 21) ⟨by decide, by decide⟩ dX12_foretell_20 rfl ?_
  refine go_goto (tgt := 25) dX12_foretell_21 rfl ?_
  exact SX12_foretell_L25     _ _ _ _ _ _ _ E
noncomputable def X12_foretell (F : Nat)   (l0 : Nat) (l1 : Int) (l2 : Int) (l3 : Int)  (h : HP) : Option (Int × HP) :=
  (xpI h (some l0) 12 31 0 0).bind fun h1 =>
  xb (X12_noShop F l1 h1) fun v2 h3 =>
  if v2 = 0 then
    xb (X12_noGood F l2 h3) fun v5 h6 =>
    if v5 = 0 then
      X12_foretell_L25 F l0 l1 l2 l3 0 (some l0) h6
    else
      X12_foretell_L20 F l0 l1 l2 l3 (some l0) h6
  else
    X12_foretell_L20 F l0 l1 l2 l3 (some l0) h3
set_option maxRecDepth 100000 in
theorem SX12_foretell {K : Ctx} {F : Nat} {r : Int} {hf : HP}     (l0 : Nat) (l1 : Int) (l2 : Int) (l3 : Int)  (h : HP) (E : X12_foretell F   l0 l1 l2 l3 h = some (r, hf)) : Go K MX12_foretell (QM K (some (vi r)) hf) hf 0 [(0, vr (some l0)), (1, vi l1), (2, vi l2), (3, vi l3)] [] h := by
  unfold X12_foretell at E
  refine go_aload_n (j := 0) (n := 1) rfl rfl dX12_foretell_0 rfl ?_
  refine go_iconst (z := 0) (n := 2) ⟨by decide, by decide⟩ dX12_foretell_1 rfl ?_
  replace E := Option.bind_eq_some_iff.mp E; obtain ⟨h1, eh1, E⟩ := E
  refine go_putI (n := 5) eh1 fl_RX12_3 rfl dX12_foretell_2 rfl ?_
  refine go_aload_n (j := 0) (n := 6) rfl rfl dX12_foretell_5 rfl ?_
  refine go_iload_n (j := 1) (n := 7) rfl rfl dX12_foretell_6 rfl ?_
  replace E := xb_some E; obtain ⟨v2, h3, ev2, E⟩ := E
  refine go_callS (y := yX12_noShop) (n := 10) (st := [vr (some l0)]) (as := [vi l1]) (stk9 := [vi v2, vr (some l0)]) (OX12_noShop ev2) yw_X12_noShop wml_RX12_90 wst_X12_noShop (Nat.le_of_ble_eq_true rfl) rfl ⟨Nat.le_of_ble_eq_true rfl, Nat.le_of_ble_eq_true rfl⟩ (Nat.le_of_ble_eq_true rfl) dX12_foretell_7 rfl rfl rfl ?_
  refine go_if_ne (tgt := 20) (n := 13) dX12_foretell_10 rfl rfl (fun c4 => ?_) (fun c4 => ?_)
  · rw [if_neg c4] at E
    exact SX12_foretell_L20     _ _ _ _ _ _ E
  · rw [if_pos c4] at E
    refine go_iload_n (j := 2) (n := 14) rfl rfl dX12_foretell_13 rfl ?_
    replace E := xb_some E; obtain ⟨v5, h6, ev5, E⟩ := E
    refine go_callS (y := yX12_noGood) (n := 17) (st := [vr (some l0)]) (as := [vi l2]) (stk9 := [vi v5, vr (some l0)]) (OX12_noGood ev5) yw_X12_noGood wml_RX12_93 wst_X12_noGood (Nat.le_of_ble_eq_true rfl) rfl ⟨Nat.le_of_ble_eq_true rfl, Nat.le_of_ble_eq_true rfl⟩ (Nat.le_of_ble_eq_true rfl) dX12_foretell_14 rfl rfl rfl ?_
    refine go_if_eq (tgt := 24) (n := 20) dX12_foretell_17 rfl rfl (fun c7 => ?_) (fun c7 => ?_)
    · rw [if_pos c7] at E
      refine go_iconst (z := 0) (n := 25) ⟨by decide, by decide⟩ dX12_foretell_24 rfl ?_
      exact SX12_foretell_L25     _ _ _ _ _ _ _ E
    · rw [if_neg c7] at E
      exact SX12_foretell_L20     _ _ _ _ _ _ E
theorem OX12_foretell {F : Nat} {l0 : Nat} {l1 : Int} {l2 : Int} {l3 : Int} {h hf : HP} {r : Int} (e : X12_foretell F l0 l1 l2 l3 h = some (r, hf)) : Ok MX12_foretell [vr (some l0), vi l1, vi l2, vi l3] (some (vi r)) h hf := fun K _ _ _ => SX12_foretell l0 l1 l2 l3 h e
abbrev MX12_far : MI := (RX12, cX12_far, 4, (some .boolean), 4, none, "far")
noncomputable def X12_far_L81 (F : Nat)     (h : HP) : Option (Int × HP) :=
  some (1, h)
set_option maxRecDepth 100000 in
theorem SX12_far_L81 {K : Ctx} {F : Nat} {r : Int} {hf : HP}       (h : HP) (E : X12_far_L81 F    h = some (r, hf)) : Go K MX12_far (QM K (some (vi r)) hf) hf 81 [] [] h := by
  unfold X12_far_L81 at E
  refine go_iconst (z := 1) (n := 82) ⟨by decide, by decide⟩ dX12_far_81 rfl ?_
  refine go_goto (tgt := 86) dX12_far_82 rfl ?_
  cases E
  exact go_zreturn rfl (Or.inr rfl) dX12_far_86
noncomputable def X12_far_L25 (F : Nat)   (l0 : Nat) (l1 : Int) (l2 : Int) (s0 : Int) (s1 : Option Nat) (h : HP) : Option (Int × HP) :=
  (xrc h s1 12 31).bind fun a3 =>
  xb (X12_throwsIf F a3 s0 1 h) fun v1 h2 =>
  if v1 = 0 then
    (xrc h2 (some l0) 12 31).bind fun a7 =>
    xb (X12_foresees F a7 l1 l2 h2) fun v5 h6 =>
    (xgP h6 (some l0) 12 31 1).bind fun v8 =>
    (xaI h6 v8 100 (w32 ((w32 (9 + (w32 (4 * l1)))) + l2))).bind fun v9 =>
    (xgI h6 (some l0) 12 31 19).bind fun v10 =>
    if v10 ≤ 0 then
      some (0, h6)
    else
      (xgI h6 (some l0) 12 31 22).bind fun v12 =>
      if v9 < (w32 (v12.tdiv 2)) then
        X12_far_L81 F h6
      else
        (xgI h6 (some l0) 12 31 23).bind fun v14 =>
        if v9 ≤ (w32 (2 * v14)) then
          some (0, h6)
        else
          X12_far_L81 F h6
  else
    some (0, h2)
set_option maxRecDepth 100000 in
theorem SX12_far_L25 {K : Ctx} {F : Nat} {r : Int} {hf : HP}     (l0 : Nat) (l1 : Int) (l2 : Int) (s0 : Int) (s1 : Option Nat) (h : HP) (E : X12_far_L25 F   l0 l1 l2 s0 s1 h = some (r, hf)) : Go K MX12_far (QM K (some (vi r)) hf) hf 25 [(0, vr (some l0)), (1, vi l1), (2, vi l2)] [vi s0, vr s1] h := by
  unfold X12_far_L25 at E
  refine go_iconst (z := 1) (n := 26) ⟨by decide, by decide⟩ dX12_far_25 rfl ?_
  replace E := Option.bind_eq_some_iff.mp E; obtain ⟨a3, ea3, E⟩ := E
  obtain ⟨fa3, ga3⟩ := xrc_some ea3
  replace E := xb_some E; obtain ⟨v1, h2, ev1, E⟩ := E
  refine go_callV (y := yX12_throwsIf) (n := 29) (st := []) (as := [vi s0, vi 1]) (stk9 := [vi v1]) (OX12_throwsIf ev1) yw_X12_throwsIf ci_12 ga3 wml_RX12_65 wim_X12_throwsIf wse_X12_throwsIf (Nat.le_of_ble_eq_true rfl) rfl ⟨Nat.le_of_ble_eq_true rfl, Nat.le_of_ble_eq_true rfl⟩ (Nat.le_of_ble_eq_true rfl) dX12_far_26 rfl (by cases fa3; rfl) rfl ?_
  refine go_if_eq (tgt := 34) (n := 32) dX12_far_29 rfl rfl (fun c4 => ?_) (fun c4 => ?_)
  · rw [if_pos c4] at E
    refine go_aload_n (j := 0) (n := 35) rfl rfl dX12_far_34 rfl ?_
    refine go_iload_n (j := 1) (n := 36) rfl rfl dX12_far_35 rfl ?_
    refine go_iload_n (j := 2) (n := 37) rfl rfl dX12_far_36 rfl ?_
    replace E := Option.bind_eq_some_iff.mp E; obtain ⟨a7, ea7, E⟩ := E
    obtain ⟨fa7, ga7⟩ := xrc_some ea7
    replace E := xb_some E; obtain ⟨v5, h6, ev5, E⟩ := E
    refine go_callV (y := yX12_foresees) (n := 40) (st := []) (as := [vi l1, vi l2]) (stk9 := []) (OX12_foresees ev5) yw_X12_foresees ci_12 ga7 wml_RX12_347 wim_X12_foresees wse_X12_foresees (Nat.le_of_ble_eq_true rfl) rfl ⟨Nat.le_of_ble_eq_true rfl, Nat.le_of_ble_eq_true rfl⟩ (Nat.le_of_ble_eq_true rfl) dX12_far_37 rfl (by cases fa7; rfl) rfl ?_
    refine go_aload_n (j := 0) (n := 41) rfl rfl dX12_far_40 rfl ?_
    replace E := Option.bind_eq_some_iff.mp E; obtain ⟨v8, ev8, E⟩ := E
    refine go_getP (n := 44) ev8 fl_RX12_14 rfl dX12_far_41 rfl ?_
    refine go_bipush (z := 9) (n := 46) ⟨by decide, by decide⟩ dX12_far_44 rfl ?_
    refine go_iconst (z := 4) (n := 47) ⟨by decide, by decide⟩ dX12_far_46 rfl ?_
    refine go_iload_n (j := 1) (n := 48) rfl rfl dX12_far_47 rfl ?_
    refine go_imul (n := 49) dX12_far_48 rfl ?_
    refine go_iadd (n := 50) dX12_far_49 rfl ?_
    refine go_iload_n (j := 2) (n := 51) rfl rfl dX12_far_50 rfl ?_
    refine go_iadd (n := 52) dX12_far_51 rfl ?_
    replace E := Option.bind_eq_some_iff.mp E; obtain ⟨v9, ev9, E⟩ := E
    refine go_iaload (n := 53) ev9 dX12_far_52 rfl ?_
    refine go_istore_n (n := 54) (lv' := [(3, vi v9), (0, vr (some l0)), (1, vi l1), (2, vi l2)]) rfl dX12_far_53 rfl (Nat.le_of_ble_eq_true rfl) rfl ?_
    refine go_aload_n (j := 1) (n := 55) rfl rfl dX12_far_54 rfl ?_
    replace E := Option.bind_eq_some_iff.mp E; obtain ⟨v10, ev10, E⟩ := E
    refine go_getI (n := 58) ev10 fl_RX12_327 rfl dX12_far_55 rfl ?_
    refine go_if_le (tgt := 85) (n := 61) dX12_far_58 rfl rfl (fun c11 => ?_) (fun c11 => ?_)
    · rw [if_pos c11] at E
      refine go_iconst (z := 0) (n := 86) ⟨by decide, by decide⟩ dX12_far_85 rfl ?_
      cases E
      exact go_zreturn rfl (Or.inl rfl) dX12_far_86
    · rw [if_neg c11] at E
      refine go_iload_n (j := 0) (n := 62) rfl rfl dX12_far_61 rfl ?_
      refine go_aload_n (j := 1) (n := 63) rfl rfl dX12_far_62 rfl ?_
      replace E := Option.bind_eq_some_iff.mp E; obtain ⟨v12, ev12, E⟩ := E
      refine go_getI (n := 66) ev12 fl_RX12_336 rfl dX12_far_63 rfl ?_
      refine go_iconst (z := 2) (n := 67) ⟨by decide, by decide⟩ dX12_far_66 rfl ?_
      refine go_idiv (n := 68) (by decide) dX12_far_67 rfl ?_
      refine go_icmp_lt (tgt := 81) (n := 71) dX12_far_68 rfl rfl (fun c13 => ?_) (fun c13 => ?_)
      · rw [if_pos c13] at E
        refine go_pick (lv' := []) [] rfl ?_
        exact SX12_far_L81       _ E
      · rw [if_neg c13] at E
        refine go_iload_n (j := 0) (n := 72) rfl rfl dX12_far_71 rfl ?_
        refine go_iconst (z := 2) (n := 73) ⟨by decide, by decide⟩ dX12_far_72 rfl ?_
        refine go_aload_n (j := 1) (n := 74) rfl rfl dX12_far_73 rfl ?_
        replace E := Option.bind_eq_some_iff.mp E; obtain ⟨v14, ev14, E⟩ := E
        refine go_getI (n := 77) ev14 fl_RX12_339 rfl dX12_far_74 rfl ?_
        refine go_imul (n := 78) dX12_far_77 rfl ?_
        refine go_icmp_le (tgt := 85) (n := 81) dX12_far_78 rfl rfl (fun c15 => ?_) (fun c15 => ?_)
        · rw [if_pos c15] at E
          refine go_iconst (z := 0) (n := 86) ⟨by decide, by decide⟩ dX12_far_85 rfl ?_
          cases E
          exact go_zreturn rfl (Or.inl rfl) dX12_far_86
        · rw [if_neg c15] at E
          refine go_pick (lv' := []) [] rfl ?_
          exact SX12_far_L81       _ E
  · rw [if_neg c4] at E
    refine go_iconst (z := 0) (n := 33) ⟨by decide, by decide⟩ dX12_far_32 rfl ?_
    cases E
    exact go_zreturn rfl (Or.inl rfl) dX12_far_33
noncomputable def X12_far_L20 (F : Nat)   (l0 : Nat) (l1 : Int) (l2 : Int) (s0 : Option Nat) (h : HP) : Option (Int × HP) :=
  X12_far_L25 F l0 l1 l2 1 s0 h
set_option maxRecDepth 100000 in
theorem SX12_far_L20 {K : Ctx} {F : Nat} {r : Int} {hf : HP}     (l0 : Nat) (l1 : Int) (l2 : Int) (s0 : Option Nat) (h : HP) (E : X12_far_L20 F   l0 l1 l2 s0 h = some (r, hf)) : Go K MX12_far (QM K (some (vi r)) hf) hf 20 [(0, vr (some l0)), (1, vi l1), (2, vi l2)] [vr s0] h := by
  unfold X12_far_L20 at E
  refine go_iconst (z := 1) (n := 21) ⟨by decide, by decide⟩ dX12_far_20 rfl ?_
  refine go_goto (tgt := 25) dX12_far_21 rfl ?_
  exact SX12_far_L25     _ _ _ _ _ _ E
noncomputable def X12_far (F : Nat)   (l0 : Nat) (l1 : Int) (l2 : Int)  (h : HP) : Option (Int × HP) :=
  (xpI h (some l0) 12 31 0 0).bind fun h1 =>
  xb (X12_noShop F l1 h1) fun v2 h3 =>
  if v2 = 0 then
    xb (X12_noGood F l2 h3) fun v5 h6 =>
    if v5 = 0 then
      X12_far_L25 F l0 l1 l2 0 (some l0) h6
    else
      X12_far_L20 F l0 l1 l2 (some l0) h6
  else
    X12_far_L20 F l0 l1 l2 (some l0) h3
set_option maxRecDepth 100000 in
theorem SX12_far {K : Ctx} {F : Nat} {r : Int} {hf : HP}     (l0 : Nat) (l1 : Int) (l2 : Int)  (h : HP) (E : X12_far F   l0 l1 l2 h = some (r, hf)) : Go K MX12_far (QM K (some (vi r)) hf) hf 0 [(0, vr (some l0)), (1, vi l1), (2, vi l2)] [] h := by
  unfold X12_far at E
  refine go_aload_n (j := 0) (n := 1) rfl rfl dX12_far_0 rfl ?_
  refine go_iconst (z := 0) (n := 2) ⟨by decide, by decide⟩ dX12_far_1 rfl ?_
  replace E := Option.bind_eq_some_iff.mp E; obtain ⟨h1, eh1, E⟩ := E
  refine go_putI (n := 5) eh1 fl_RX12_3 rfl dX12_far_2 rfl ?_
  refine go_aload_n (j := 0) (n := 6) rfl rfl dX12_far_5 rfl ?_
  refine go_iload_n (j := 1) (n := 7) rfl rfl dX12_far_6 rfl ?_
  replace E := xb_some E; obtain ⟨v2, h3, ev2, E⟩ := E
  refine go_callS (y := yX12_noShop) (n := 10) (st := [vr (some l0)]) (as := [vi l1]) (stk9 := [vi v2, vr (some l0)]) (OX12_noShop ev2) yw_X12_noShop wml_RX12_90 wst_X12_noShop (Nat.le_of_ble_eq_true rfl) rfl ⟨Nat.le_of_ble_eq_true rfl, Nat.le_of_ble_eq_true rfl⟩ (Nat.le_of_ble_eq_true rfl) dX12_far_7 rfl rfl rfl ?_
  refine go_if_ne (tgt := 20) (n := 13) dX12_far_10 rfl rfl (fun c4 => ?_) (fun c4 => ?_)
  · rw [if_neg c4] at E
    exact SX12_far_L20     _ _ _ _ _ E
  · rw [if_pos c4] at E
    refine go_iload_n (j := 2) (n := 14) rfl rfl dX12_far_13 rfl ?_
    replace E := xb_some E; obtain ⟨v5, h6, ev5, E⟩ := E
    refine go_callS (y := yX12_noGood) (n := 17) (st := [vr (some l0)]) (as := [vi l2]) (stk9 := [vi v5, vr (some l0)]) (OX12_noGood ev5) yw_X12_noGood wml_RX12_93 wst_X12_noGood (Nat.le_of_ble_eq_true rfl) rfl ⟨Nat.le_of_ble_eq_true rfl, Nat.le_of_ble_eq_true rfl⟩ (Nat.le_of_ble_eq_true rfl) dX12_far_14 rfl rfl rfl ?_
    refine go_if_eq (tgt := 24) (n := 20) dX12_far_17 rfl rfl (fun c7 => ?_) (fun c7 => ?_)
    · rw [if_pos c7] at E
      refine go_iconst (z := 0) (n := 25) ⟨by decide, by decide⟩ dX12_far_24 rfl ?_
      exact SX12_far_L25     _ _ _ _ _ _ E
    · rw [if_neg c7] at E
      exact SX12_far_L20     _ _ _ _ _ E
theorem OX12_far {F : Nat} {l0 : Nat} {l1 : Int} {l2 : Int} {h hf : HP} {r : Int} (e : X12_far F l0 l1 l2 h = some (r, hf)) : Ok MX12_far [vr (some l0), vi l1, vi l2] (some (vi r)) h hf := fun K _ _ _ => SX12_far l0 l1 l2 h e
abbrev MX12_good : MI := (RX12, cX12_good, 6, none, 4, none, "good")
noncomputable def X12_good_L67 (F : Nat)   (l0 : Nat) (l1 : Int) (l2 : Int) (l3 : Int) (l4 : Int) (l5 : Int) (s0 : Int) (s1 : Option Nat) (h : HP) : Option (Unit × HP) :=
  (xrc h s1 12 31).bind fun a3 =>
  xb (X12_throwsIf F a3 s0 2 h) fun v1 h2 =>
  if v1 = 0 then
    (xgP h2 (some l0) 12 31 1).bind fun v5 =>
    (xsI h2 v5 (w32 (11254 + (w32 (4 * l1)))) l2).bind fun h6 =>
    (xgP h6 (some l0) 12 31 1).bind fun v7 =>
    (xsI h6 v7 (w32 ((w32 (11254 + (w32 (4 * l1)))) + 1)) l3).bind fun h8 =>
    (xgP h8 (some l0) 12 31 1).bind fun v9 =>
    (xsI h8 v9 (w32 ((w32 (11254 + (w32 (4 * l1)))) + 2)) l4).bind fun h10 =>
    (xgP h10 (some l0) 12 31 1).bind fun v11 =>
    (xsI h10 v11 (w32 ((w32 (11254 + (w32 (4 * l1)))) + 3)) l5).bind fun h12 =>
    some ((), h12)
  else
    some ((), h2)
set_option maxRecDepth 100000 in
theorem SX12_good_L67 {K : Ctx} {F : Nat} {r : Unit} {hf : HP}     (l0 : Nat) (l1 : Int) (l2 : Int) (l3 : Int) (l4 : Int) (l5 : Int) (s0 : Int) (s1 : Option Nat) (h : HP) (E : X12_good_L67 F   l0 l1 l2 l3 l4 l5 s0 s1 h = some (r, hf)) : Go K MX12_good (QM K none hf) hf 67 [(0, vr (some l0)), (1, vi l1), (2, vi l2), (3, vi l3), (4, vi l4), (5, vi l5)] [vi s0, vr s1] h := by
  unfold X12_good_L67 at E
  refine go_iconst (z := 2) (n := 68) ⟨by decide, by decide⟩ dX12_good_67 rfl ?_
  replace E := Option.bind_eq_some_iff.mp E; obtain ⟨a3, ea3, E⟩ := E
  obtain ⟨fa3, ga3⟩ := xrc_some ea3
  replace E := xb_some E; obtain ⟨v1, h2, ev1, E⟩ := E
  refine go_callV (y := yX12_throwsIf) (n := 71) (st := []) (as := [vi s0, vi 2]) (stk9 := [vi v1]) (OX12_throwsIf ev1) yw_X12_throwsIf ci_12 ga3 wml_RX12_65 wim_X12_throwsIf wse_X12_throwsIf (Nat.le_of_ble_eq_true rfl) rfl ⟨Nat.le_of_ble_eq_true rfl, Nat.le_of_ble_eq_true rfl⟩ (Nat.le_of_ble_eq_true rfl) dX12_good_68 rfl (by cases fa3; rfl) rfl ?_
  refine go_if_eq (tgt := 75) (n := 74) dX12_good_71 rfl rfl (fun c4 => ?_) (fun c4 => ?_)
  · rw [if_pos c4] at E
    refine go_aload_n (j := 0) (n := 76) rfl rfl dX12_good_75 rfl ?_
    replace E := Option.bind_eq_some_iff.mp E; obtain ⟨v5, ev5, E⟩ := E
    refine go_getP (n := 79) ev5 fl_RX12_14 rfl dX12_good_76 rfl ?_
    refine go_sipush (z := 11254) (n := 82) ⟨by decide, by decide⟩ dX12_good_79 rfl ?_
    refine go_iconst (z := 4) (n := 83) ⟨by decide, by decide⟩ dX12_good_82 rfl ?_
    refine go_iload_n (j := 1) (n := 84) rfl rfl dX12_good_83 rfl ?_
    refine go_imul (n := 85) dX12_good_84 rfl ?_
    refine go_iadd (n := 86) dX12_good_85 rfl ?_
    refine go_iload_n (j := 2) (n := 87) rfl rfl dX12_good_86 rfl ?_
    replace E := Option.bind_eq_some_iff.mp E; obtain ⟨h6, eh6, E⟩ := E
    refine go_iastore (n := 88) eh6 dX12_good_87 rfl ?_
    refine go_aload_n (j := 0) (n := 89) rfl rfl dX12_good_88 rfl ?_
    replace E := Option.bind_eq_some_iff.mp E; obtain ⟨v7, ev7, E⟩ := E
    refine go_getP (n := 92) ev7 fl_RX12_14 rfl dX12_good_89 rfl ?_
    refine go_sipush (z := 11254) (n := 95) ⟨by decide, by decide⟩ dX12_good_92 rfl ?_
    refine go_iconst (z := 4) (n := 96) ⟨by decide, by decide⟩ dX12_good_95 rfl ?_
    refine go_iload_n (j := 1) (n := 97) rfl rfl dX12_good_96 rfl ?_
    refine go_imul (n := 98) dX12_good_97 rfl ?_
    refine go_iadd (n := 99) dX12_good_98 rfl ?_
    refine go_iconst (z := 1) (n := 100) ⟨by decide, by decide⟩ dX12_good_99 rfl ?_
    refine go_iadd (n := 101) dX12_good_100 rfl ?_
    refine go_iload_n (j := 3) (n := 102) rfl rfl dX12_good_101 rfl ?_
    replace E := Option.bind_eq_some_iff.mp E; obtain ⟨h8, eh8, E⟩ := E
    refine go_iastore (n := 103) eh8 dX12_good_102 rfl ?_
    refine go_aload_n (j := 0) (n := 104) rfl rfl dX12_good_103 rfl ?_
    replace E := Option.bind_eq_some_iff.mp E; obtain ⟨v9, ev9, E⟩ := E
    refine go_getP (n := 107) ev9 fl_RX12_14 rfl dX12_good_104 rfl ?_
    refine go_sipush (z := 11254) (n := 110) ⟨by decide, by decide⟩ dX12_good_107 rfl ?_
    refine go_iconst (z := 4) (n := 111) ⟨by decide, by decide⟩ dX12_good_110 rfl ?_
    refine go_iload_n (j := 1) (n := 112) rfl rfl dX12_good_111 rfl ?_
    refine go_imul (n := 113) dX12_good_112 rfl ?_
    refine go_iadd (n := 114) dX12_good_113 rfl ?_
    refine go_iconst (z := 2) (n := 115) ⟨by decide, by decide⟩ dX12_good_114 rfl ?_
    refine go_iadd (n := 116) dX12_good_115 rfl ?_
    refine go_iload (j := 4) (n := 118) rfl dX12_good_116 rfl ?_
    replace E := Option.bind_eq_some_iff.mp E; obtain ⟨h10, eh10, E⟩ := E
    refine go_iastore (n := 119) eh10 dX12_good_118 rfl ?_
    refine go_aload_n (j := 0) (n := 120) rfl rfl dX12_good_119 rfl ?_
    replace E := Option.bind_eq_some_iff.mp E; obtain ⟨v11, ev11, E⟩ := E
    refine go_getP (n := 123) ev11 fl_RX12_14 rfl dX12_good_120 rfl ?_
    refine go_sipush (z := 11254) (n := 126) ⟨by decide, by decide⟩ dX12_good_123 rfl ?_
    refine go_iconst (z := 4) (n := 127) ⟨by decide, by decide⟩ dX12_good_126 rfl ?_
    refine go_iload_n (j := 1) (n := 128) rfl rfl dX12_good_127 rfl ?_
    refine go_imul (n := 129) dX12_good_128 rfl ?_
    refine go_iadd (n := 130) dX12_good_129 rfl ?_
    refine go_iconst (z := 3) (n := 131) ⟨by decide, by decide⟩ dX12_good_130 rfl ?_
    refine go_iadd (n := 132) dX12_good_131 rfl ?_
    refine go_iload (j := 5) (n := 134) rfl dX12_good_132 rfl ?_
    replace E := Option.bind_eq_some_iff.mp E; obtain ⟨h12, eh12, E⟩ := E
    refine go_iastore (n := 135) eh12 dX12_good_134 rfl ?_
    cases E
    exact go_return rfl dX12_good_135
  · rw [if_neg c4] at E
    cases E
    exact go_return rfl dX12_good_74
noncomputable def X12_good_L62 (F : Nat)   (l0 : Nat) (l1 : Int) (l2 : Int) (l3 : Int) (l4 : Int) (l5 : Int) (s0 : Option Nat) (h : HP) : Option (Unit × HP) :=
  X12_good_L67 F l0 l1 l2 l3 l4 l5 1 s0 h
set_option maxRecDepth 100000 in
theorem SX12_good_L62 {K : Ctx} {F : Nat} {r : Unit} {hf : HP}     (l0 : Nat) (l1 : Int) (l2 : Int) (l3 : Int) (l4 : Int) (l5 : Int) (s0 : Option Nat) (h : HP) (E : X12_good_L62 F   l0 l1 l2 l3 l4 l5 s0 h = some (r, hf)) : Go K MX12_good (QM K none hf) hf 62 [(0, vr (some l0)), (1, vi l1), (2, vi l2), (3, vi l3), (4, vi l4), (5, vi l5)] [vr s0] h := by
  unfold X12_good_L62 at E
  refine go_iconst (z := 1) (n := 63) ⟨by decide, by decide⟩ dX12_good_62 rfl ?_
  refine go_goto (tgt := 67) dX12_good_63 rfl ?_
  exact SX12_good_L67     _ _ _ _ _ _ _ _ _ E
noncomputable def X12_good (F : Nat)   (l0 : Nat) (l1 : Int) (l2 : Int) (l3 : Int) (l4 : Int) (l5 : Int)  (h : HP) : Option (Unit × HP) :=
  (xpI h (some l0) 12 31 0 0).bind fun h1 =>
  xb (X12_noGood F l1 h1) fun v2 h3 =>
  (xrc h3 (some l0) 12 31).bind fun a6 =>
  xb (X12_throwsIf F a6 v2 1 h3) fun v4 h5 =>
  if v4 = 0 then
    xb (X12_in F l2 1 9999 h5) fun v8 h9 =>
    if v8 = 0 then
      X12_good_L62 F l0 l1 l2 l3 l4 l5 (some l0) h9
    else
      xb (X12_in F l3 1 100 h9) fun v11 h12 =>
      if v11 = 0 then
        X12_good_L62 F l0 l1 l2 l3 l4 l5 (some l0) h12
      else
        xb (X12_in F l4 1 100 h12) fun v14 h15 =>
        if v14 = 0 then
          X12_good_L62 F l0 l1 l2 l3 l4 l5 (some l0) h15
        else
          xb (X12_in F l5 0 9999 h15) fun v17 h18 =>
          if v17 = 0 then
            X12_good_L62 F l0 l1 l2 l3 l4 l5 (some l0) h18
          else
            X12_good_L67 F l0 l1 l2 l3 l4 l5 0 (some l0) h18
  else
    some ((), h5)
set_option maxRecDepth 100000 in
theorem SX12_good {K : Ctx} {F : Nat} {r : Unit} {hf : HP}     (l0 : Nat) (l1 : Int) (l2 : Int) (l3 : Int) (l4 : Int) (l5 : Int)  (h : HP) (E : X12_good F   l0 l1 l2 l3 l4 l5 h = some (r, hf)) : Go K MX12_good (QM K none hf) hf 0 [(0, vr (some l0)), (1, vi l1), (2, vi l2), (3, vi l3), (4, vi l4), (5, vi l5)] [] h := by
  unfold X12_good at E
  refine go_aload_n (j := 0) (n := 1) rfl rfl dX12_good_0 rfl ?_
  refine go_iconst (z := 0) (n := 2) ⟨by decide, by decide⟩ dX12_good_1 rfl ?_
  replace E := Option.bind_eq_some_iff.mp E; obtain ⟨h1, eh1, E⟩ := E
  refine go_putI (n := 5) eh1 fl_RX12_3 rfl dX12_good_2 rfl ?_
  refine go_aload_n (j := 0) (n := 6) rfl rfl dX12_good_5 rfl ?_
  refine go_iload_n (j := 1) (n := 7) rfl rfl dX12_good_6 rfl ?_
  replace E := xb_some E; obtain ⟨v2, h3, ev2, E⟩ := E
  refine go_callS (y := yX12_noGood) (n := 10) (st := [vr (some l0)]) (as := [vi l1]) (stk9 := [vi v2, vr (some l0)]) (OX12_noGood ev2) yw_X12_noGood wml_RX12_93 wst_X12_noGood (Nat.le_of_ble_eq_true rfl) rfl ⟨Nat.le_of_ble_eq_true rfl, Nat.le_of_ble_eq_true rfl⟩ (Nat.le_of_ble_eq_true rfl) dX12_good_7 rfl rfl rfl ?_
  refine go_iconst (z := 1) (n := 11) ⟨by decide, by decide⟩ dX12_good_10 rfl ?_
  replace E := Option.bind_eq_some_iff.mp E; obtain ⟨a6, ea6, E⟩ := E
  obtain ⟨fa6, ga6⟩ := xrc_some ea6
  replace E := xb_some E; obtain ⟨v4, h5, ev4, E⟩ := E
  refine go_callV (y := yX12_throwsIf) (n := 14) (st := []) (as := [vi v2, vi 1]) (stk9 := [vi v4]) (OX12_throwsIf ev4) yw_X12_throwsIf ci_12 ga6 wml_RX12_65 wim_X12_throwsIf wse_X12_throwsIf (Nat.le_of_ble_eq_true rfl) rfl ⟨Nat.le_of_ble_eq_true rfl, Nat.le_of_ble_eq_true rfl⟩ (Nat.le_of_ble_eq_true rfl) dX12_good_11 rfl (by cases fa6; rfl) rfl ?_
  refine go_if_ne (tgt := 74) (n := 17) dX12_good_14 rfl rfl (fun c7 => ?_) (fun c7 => ?_)
  · rw [if_neg c7] at E
    cases E
    exact go_return rfl dX12_good_74
  · rw [if_pos c7] at E
    refine go_aload_n (j := 0) (n := 18) rfl rfl dX12_good_17 rfl ?_
    refine go_iload_n (j := 2) (n := 19) rfl rfl dX12_good_18 rfl ?_
    refine go_iconst (z := 1) (n := 20) ⟨by decide, by decide⟩ dX12_good_19 rfl ?_
    refine go_sipush (z := 9999) (n := 23) ⟨by decide, by decide⟩ dX12_good_20 rfl ?_
    replace E := xb_some E; obtain ⟨v8, h9, ev8, E⟩ := E
    refine go_callS (y := yX12_in) (n := 26) (st := [vr (some l0)]) (as := [vi l2, vi 1, vi 9999]) (stk9 := [vi v8, vr (some l0)]) (OX12_in ev8) yw_X12_in wml_RX12_61 wst_X12_in (Nat.le_of_ble_eq_true rfl) rfl ⟨Nat.le_of_ble_eq_true rfl, Nat.le_of_ble_eq_true rfl⟩ (Nat.le_of_ble_eq_true rfl) dX12_good_23 rfl rfl rfl ?_
    refine go_if_eq (tgt := 62) (n := 29) dX12_good_26 rfl rfl (fun c10 => ?_) (fun c10 => ?_)
    · rw [if_pos c10] at E
      exact SX12_good_L62     _ _ _ _ _ _ _ _ E
    · rw [if_neg c10] at E
      refine go_iload_n (j := 3) (n := 30) rfl rfl dX12_good_29 rfl ?_
      refine go_iconst (z := 1) (n := 31) ⟨by decide, by decide⟩ dX12_good_30 rfl ?_
      refine go_bipush (z := 100) (n := 33) ⟨by decide, by decide⟩ dX12_good_31 rfl ?_
      replace E := xb_some E; obtain ⟨v11, h12, ev11, E⟩ := E
      refine go_callS (y := yX12_in) (n := 36) (st := [vr (some l0)]) (as := [vi l3, vi 1, vi 100]) (stk9 := [vi v11, vr (some l0)]) (OX12_in ev11) yw_X12_in wml_RX12_61 wst_X12_in (Nat.le_of_ble_eq_true rfl) rfl ⟨Nat.le_of_ble_eq_true rfl, Nat.le_of_ble_eq_true rfl⟩ (Nat.le_of_ble_eq_true rfl) dX12_good_33 rfl rfl rfl ?_
      refine go_if_eq (tgt := 62) (n := 39) dX12_good_36 rfl rfl (fun c13 => ?_) (fun c13 => ?_)
      · rw [if_pos c13] at E
        exact SX12_good_L62     _ _ _ _ _ _ _ _ E
      · rw [if_neg c13] at E
        refine go_iload (j := 4) (n := 41) rfl dX12_good_39 rfl ?_
        refine go_iconst (z := 1) (n := 42) ⟨by decide, by decide⟩ dX12_good_41 rfl ?_
        refine go_bipush (z := 100) (n := 44) ⟨by decide, by decide⟩ dX12_good_42 rfl ?_
        replace E := xb_some E; obtain ⟨v14, h15, ev14, E⟩ := E
        refine go_callS (y := yX12_in) (n := 47) (st := [vr (some l0)]) (as := [vi l4, vi 1, vi 100]) (stk9 := [vi v14, vr (some l0)]) (OX12_in ev14) yw_X12_in wml_RX12_61 wst_X12_in (Nat.le_of_ble_eq_true rfl) rfl ⟨Nat.le_of_ble_eq_true rfl, Nat.le_of_ble_eq_true rfl⟩ (Nat.le_of_ble_eq_true rfl) dX12_good_44 rfl rfl rfl ?_
        refine go_if_eq (tgt := 62) (n := 50) dX12_good_47 rfl rfl (fun c16 => ?_) (fun c16 => ?_)
        · rw [if_pos c16] at E
          exact SX12_good_L62     _ _ _ _ _ _ _ _ E
        · rw [if_neg c16] at E
          refine go_iload (j := 5) (n := 52) rfl dX12_good_50 rfl ?_
          refine go_iconst (z := 0) (n := 53) ⟨by decide, by decide⟩ dX12_good_52 rfl ?_
          refine go_sipush (z := 9999) (n := 56) ⟨by decide, by decide⟩ dX12_good_53 rfl ?_
          replace E := xb_some E; obtain ⟨v17, h18, ev17, E⟩ := E
          refine go_callS (y := yX12_in) (n := 59) (st := [vr (some l0)]) (as := [vi l5, vi 0, vi 9999]) (stk9 := [vi v17, vr (some l0)]) (OX12_in ev17) yw_X12_in wml_RX12_61 wst_X12_in (Nat.le_of_ble_eq_true rfl) rfl ⟨Nat.le_of_ble_eq_true rfl, Nat.le_of_ble_eq_true rfl⟩ (Nat.le_of_ble_eq_true rfl) dX12_good_56 rfl rfl rfl ?_
          refine go_if_ne (tgt := 66) (n := 62) dX12_good_59 rfl rfl (fun c19 => ?_) (fun c19 => ?_)
          · rw [if_neg c19] at E
            refine go_iconst (z := 0) (n := 67) ⟨by decide, by decide⟩ dX12_good_66 rfl ?_
            exact SX12_good_L67     _ _ _ _ _ _ _ _ _ E
          · rw [if_pos c19] at E
            exact SX12_good_L62     _ _ _ _ _ _ _ _ E
theorem OX12_good {F : Nat} {l0 : Nat} {l1 : Int} {l2 : Int} {l3 : Int} {l4 : Int} {l5 : Int} {h hf : HP} {r : Unit} (e : X12_good F l0 l1 l2 l3 l4 l5 h = some (r, hf)) : Ok MX12_good [vr (some l0), vi l1, vi l2, vi l3, vi l4, vi l5] none h hf := fun K _ _ _ => SX12_good l0 l1 l2 l3 l4 l5 h e
