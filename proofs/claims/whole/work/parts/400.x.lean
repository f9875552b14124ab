/-! the methods, decompiled: written by dec.py -/
theorem w_oinit : Cond.instanceMethod objectInit ∈ BW ∧ Cond.code objectInit ⟨#[0xb1]⟩ 1 none ∈ BW := ⟨bw_of 151 (by decide +kernel) rfl, bw_of 152 (by decide +kernel) rfl⟩
theorem wml_RX8_3 : Cond.methodLink RX8 3 objectInit ∈ BW := bw_of 158 (by decide +kernel) rfl
theorem wa_int : Cond.arrayClass .int ∈ BW := bw_of 213 (by decide +kernel) rfl
theorem ff_RX8_9 : FLF RX8 9 8 17 0 := ⟨TX8, ci_8, by decide, bw_of 159 (by decide +kernel) rfl, rfl, rfl⟩
theorem ff_RX8_15 : FLF RX8 15 8 17 2 := ⟨TX8, ci_8, by decide, bw_of 162 (by decide +kernel) rfl, rfl, rfl⟩
theorem ff_RX8_18 : FLF RX8 18 8 17 3 := ⟨TX8, ci_8, by decide, bw_of 163 (by decide +kernel) rfl, rfl, rfl⟩
theorem ff_RX8_21 : FLF RX8 21 8 17 4 := ⟨TX8, ci_8, by decide, bw_of 164 (by decide +kernel) rfl, rfl, rfl⟩
theorem ff_RX8_24 : FLF RX8 24 8 17 8 := ⟨TX8, ci_8, by decide, bw_of 168 (by decide +kernel) rfl, rfl, rfl⟩
theorem ff_RX8_27 : FLF RX8 27 8 17 10 := ⟨TX8, ci_8, by decide, bw_of 170 (by decide +kernel) rfl, rfl, rfl⟩
theorem fl_RX8_30 : FL RX8 30 8 17 16 false := ⟨RX8, TX8, ci_8, by decide, bw_of 176 (by decide +kernel) rfl, rfl, rfl⟩
abbrev MX8_init : MI := (RX8, cX8_init, 1, none, 2, none, "<init>")
noncomputable def X8_init (F : Nat)   (l0 : Nat)  (h : HP) : Option (Unit × HP) :=
  (xna h 100 400).bind fun h1 =>
  (xpP h1 (some l0) 8 17 0 (some (gn h1))).bind fun h2 =>
  (xna h2 100 401).bind fun h3 =>
  (xpP h3 (some l0) 8 17 2 (some (gn h3))).bind fun h4 =>
  (xna h4 100 401).bind fun h5 =>
  (xpP h5 (some l0) 8 17 3 (some (gn h5))).bind fun h6 =>
  (xna h6 100 401).bind fun h7 =>
  (xpP h7 (some l0) 8 17 4 (some (gn h7))).bind fun h8 =>
  (xna h8 100 1208).bind fun h9 =>
  (xpP h9 (some l0) 8 17 8 (some (gn h9))).bind fun h10 =>
  (xna h10 100 20).bind fun h11 =>
  (xpP h11 (some l0) 8 17 10 (some (gn h11))).bind fun h12 =>
  (xpI h12 (some l0) 8 17 16 (-1)).bind fun h13 =>
  some ((), h13)
set_option maxRecDepth 100000 in
theorem SX8_init {K : Ctx} {F : Nat} {r : Unit} {hf : HP}     (l0 : Nat)  (h : HP) (E : X8_init F   l0 h = some (r, hf)) : Go K MX8_init (QM K none hf) hf 0 [(0, vr (some l0))] [] h := by
  unfold X8_init at E
  refine go_aload_n (j := 0) (n := 1) rfl rfl dX8_init_0 rfl ?_
  refine go_objInit (n := 4) wml_RX8_3 w_oinit ⟨_, rfl⟩ (Nat.le_of_ble_eq_true rfl) (Nat.le_of_ble_eq_true rfl) dX8_init_1 rfl ?_
  refine go_aload_n (j := 0) (n := 5) rfl rfl dX8_init_4 rfl ?_
  refine go_sipush (z := 400) (n := 8) ⟨by decide, by decide⟩ dX8_init_5 rfl ?_
  replace E := Option.bind_eq_some_iff.mp E; obtain ⟨h1, eh1, E⟩ := E
  refine go_newI (n := 10) eh1 dX8_init_8 rfl wa_int ?_
  replace E := Option.bind_eq_some_iff.mp E; obtain ⟨h2, eh2, E⟩ := E
  refine go_putFP (n := 13) eh2 ff_RX8_9 rfl rfl dX8_init_10 rfl ?_
  refine go_aload_n (j := 0) (n := 14) rfl rfl dX8_init_13 rfl ?_
  refine go_sipush (z := 401) (n := 17) ⟨by decide, by decide⟩ dX8_init_14 rfl ?_
  replace E := Option.bind_eq_some_iff.mp E; obtain ⟨h3, eh3, E⟩ := E
  refine go_newI (n := 19) eh3 dX8_init_17 rfl wa_int ?_
  replace E := Option.bind_eq_some_iff.mp E; obtain ⟨h4, eh4, E⟩ := E
  refine go_putFP (n := 22) eh4 ff_RX8_15 rfl rfl dX8_init_19 rfl ?_
  refine go_aload_n (j := 0) (n := 23) rfl rfl dX8_init_22 rfl ?_
  refine go_sipush (z := 401) (n := 26) ⟨by decide, by decide⟩ dX8_init_23 rfl ?_
  replace E := Option.bind_eq_some_iff.mp E; obtain ⟨h5, eh5, E⟩ := E
  refine go_newI (n := 28) eh5 dX8_init_26 rfl wa_int ?_
  replace E := Option.bind_eq_some_iff.mp E; obtain ⟨h6, eh6, E⟩ := E
  refine go_putFP (n := 31) eh6 ff_RX8_18 rfl rfl dX8_init_28 rfl ?_
  refine go_aload_n (j := 0) (n := 32) rfl rfl dX8_init_31 rfl ?_
  refine go_sipush (z := 401) (n := 35) ⟨by decide, by decide⟩ dX8_init_32 rfl ?_
  replace E := Option.bind_eq_some_iff.mp E; obtain ⟨h7, eh7, E⟩ := E
  refine go_newI (n := 37) eh7 dX8_init_35 rfl wa_int ?_
  replace E := Option.bind_eq_some_iff.mp E; obtain ⟨h8, eh8, E⟩ := E
  refine go_putFP (n := 40) eh8 ff_RX8_21 rfl rfl dX8_init_37 rfl ?_
  refine go_aload_n (j := 0) (n := 41) rfl rfl dX8_init_40 rfl ?_
  refine go_sipush (z := 1208) (n := 44) ⟨by decide, by decide⟩ dX8_init_41 rfl ?_
  replace E := Option.bind_eq_some_iff.mp E; obtain ⟨h9, eh9, E⟩ := E
  refine go_newI (n := 46) eh9 dX8_init_44 rfl wa_int ?_
  replace E := Option.bind_eq_some_iff.mp E; obtain ⟨h10, eh10, E⟩ := E
  refine go_putFP (n := 49) eh10 ff_RX8_24 rfl rfl dX8_init_46 rfl ?_
  refine go_aload_n (j := 0) (n := 50) rfl rfl dX8_init_49 rfl ?_
  refine go_bipush (z := 20) (n := 52) ⟨by decide, by decide⟩ dX8_init_50 rfl ?_
  replace E := Option.bind_eq_some_iff.mp E; obtain ⟨h11, eh11, E⟩ := E
  refine go_newI (n := 54) eh11 dX8_init_52 rfl wa_int ?_
  replace E := Option.bind_eq_some_iff.mp E; obtain ⟨h12, eh12, E⟩ := E
  refine go_putFP (n := 57) eh12 ff_RX8_27 rfl rfl dX8_init_54 rfl ?_
  refine go_aload_n (j := 0) (n := 58) rfl rfl dX8_init_57 rfl ?_
  refine go_iconst (z := (-1)) (n := 59) ⟨by decide, by decide⟩ dX8_init_58 rfl ?_
  replace E := Option.bind_eq_some_iff.mp E; obtain ⟨h13, eh13, E⟩ := E
  refine go_putI (n := 62) eh13 fl_RX8_30 rfl dX8_init_59 rfl ?_
  cases E
  exact go_return rfl dX8_init_62
theorem OX8_init {F : Nat} {l0 : Nat} {h hf : HP} {r : Unit} (e : X8_init F l0 h = some (r, hf)) : Ok MX8_init [vr (some l0)] none h hf := fun K _ _ _ => SX8_init l0 h e
theorem wml_RX7_3 : Cond.methodLink RX7 3 objectInit ∈ BW := bw_of 231 (by decide +kernel) rfl
theorem ff_RX7_9 : FLF RX7 9 7 10 0 := ⟨TX7, ci_7, by decide, bw_of 232 (by decide +kernel) rfl, rfl, rfl⟩
theorem ff_RX7_15 : FLF RX7 15 7 10 1 := ⟨TX7, ci_7, by decide, bw_of 233 (by decide +kernel) rfl, rfl, rfl⟩
theorem ff_RX7_18 : FLF RX7 18 7 10 2 := ⟨TX7, ci_7, by decide, bw_of 234 (by decide +kernel) rfl, rfl, rfl⟩
theorem ff_RX7_21 : FLF RX7 21 7 10 3 := ⟨TX7, ci_7, by decide, bw_of 235 (by decide +kernel) rfl, rfl, rfl⟩
theorem ff_RX7_24 : FLF RX7 24 7 10 4 := ⟨TX7, ci_7, by decide, bw_of 236 (by decide +kernel) rfl, rfl, rfl⟩
theorem ff_RX7_27 : FLF RX7 27 7 10 5 := ⟨TX7, ci_7, by decide, bw_of 237 (by decide +kernel) rfl, rfl, rfl⟩
theorem ff_RX7_30 : FLF RX7 30 7 10 6 := ⟨TX7, ci_7, by decide, bw_of 238 (by decide +kernel) rfl, rfl, rfl⟩
abbrev MX7_init : MI := (RX7, cX7_init, 1, none, 2, none, "<init>")
noncomputable def X7_init (F : Nat)   (l0 : Nat)  (h : HP) : Option (Unit × HP) :=
  (xna h 100 64).bind fun h1 =>
  (xpP h1 (some l0) 7 10 0 (some (gn h1))).bind fun h2 =>
  (xna h2 100 64).bind fun h3 =>
  (xpP h3 (some l0) 7 10 1 (some (gn h3))).bind fun h4 =>
  (xna h4 100 16).bind fun h5 =>
  (xpP h5 (some l0) 7 10 2 (some (gn h5))).bind fun h6 =>
  (xna h6 100 16).bind fun h7 =>
  (xpP h7 (some l0) 7 10 3 (some (gn h7))).bind fun h8 =>
  (xna h8 100 5120).bind fun h9 =>
  (xpP h9 (some l0) 7 10 4 (some (gn h9))).bind fun h10 =>
  (xna h10 100 5120).bind fun h11 =>
  (xpP h11 (some l0) 7 10 5 (some (gn h11))).bind fun h12 =>
  (xna h12 100 5120).bind fun h13 =>
  (xpP h13 (some l0) 7 10 6 (some (gn h13))).bind fun h14 =>
  some ((), h14)
set_option maxRecDepth 100000 in
theorem SX7_init {K : Ctx} {F : Nat} {r : Unit} {hf : HP}     (l0 : Nat)  (h : HP) (E : X7_init F   l0 h = some (r, hf)) : Go K MX7_init (QM K none hf) hf 0 [(0, vr (some l0))] [] h := by
  unfold X7_init at E
  refine go_aload_n (j := 0) (n := 1) rfl rfl dX7_init_0 rfl ?_
  refine go_objInit (n := 4) wml_RX7_3 w_oinit ⟨_, rfl⟩ (Nat.le_of_ble_eq_true rfl) (Nat.le_of_ble_eq_true rfl) dX7_init_1 rfl ?_
  refine go_aload_n (j := 0) (n := 5) rfl rfl dX7_init_4 rfl ?_
  refine go_bipush (z := 64) (n := 7) ⟨by decide, by decide⟩ dX7_init_5 rfl ?_
  replace E := Option.bind_eq_some_iff.mp E; obtain ⟨h1, eh1, E⟩ := E
  refine go_newI (n := 9) eh1 dX7_init_7 rfl wa_int ?_
  replace E := Option.bind_eq_some_iff.mp E; obtain ⟨h2, eh2, E⟩ := E
  refine go_putFP (n := 12) eh2 ff_RX7_9 rfl rfl dX7_init_9 rfl ?_
  refine go_aload_n (j := 0) (n := 13) rfl rfl dX7_init_12 rfl ?_
  refine go_bipush (z := 64) (n := 15) ⟨by decide, by decide⟩ dX7_init_13 rfl ?_
  replace E := Option.bind_eq_some_iff.mp E; obtain ⟨h3, eh3, E⟩ := E
  refine go_newI (n := 17) eh3 dX7_init_15 rfl wa_int ?_
  replace E := Option.bind_eq_some_iff.mp E; obtain ⟨h4, eh4, E⟩ := E
  refine go_putFP (n := 20) eh4 ff_RX7_15 rfl rfl dX7_init_17 rfl ?_
  refine go_aload_n (j := 0) (n := 21) rfl rfl dX7_init_20 rfl ?_
  refine go_bipush (z := 16) (n := 23) ⟨by decide, by decide⟩ dX7_init_21 rfl ?_
  replace E := Option.bind_eq_some_iff.mp E; obtain ⟨h5, eh5, E⟩ := E
  refine go_newI (n := 25) eh5 dX7_init_23 rfl wa_int ?_
  replace E := Option.bind_eq_some_iff.mp E; obtain ⟨h6, eh6, E⟩ := E
  refine go_putFP (n := 28) eh6 ff_RX7_18 rfl rfl dX7_init_25 rfl ?_
  refine go_aload_n (j := 0) (n := 29) rfl rfl dX7_init_28 rfl ?_
  refine go_bipush (z := 16) (n := 31) ⟨by decide, by decide⟩ dX7_init_29 rfl ?_
  replace E := Option.bind_eq_some_iff.mp E; obtain ⟨h7, eh7, E⟩ := E
  refine go_newI (n := 33) eh7 dX7_init_31 rfl wa_int ?_
  replace E := Option.bind_eq_some_iff.mp E; obtain ⟨h8, eh8, E⟩ := E
  refine go_putFP (n := 36) eh8 ff_RX7_21 rfl rfl dX7_init_33 rfl ?_
  refine go_aload_n (j := 0) (n := 37) rfl rfl dX7_init_36 rfl ?_
  refine go_sipush (z := 5120) (n := 40) ⟨by decide, by decide⟩ dX7_init_37 rfl ?_
  replace E := Option.bind_eq_some_iff.mp E; obtain ⟨h9, eh9, E⟩ := E
  refine go_newI (n := 42) eh9 dX7_init_40 rfl wa_int ?_
  replace E := Option.bind_eq_some_iff.mp E; obtain ⟨h10, eh10, E⟩ := E
  refine go_putFP (n := 45) eh10 ff_RX7_24 rfl rfl dX7_init_42 rfl ?_
  refine go_aload_n (j := 0) (n := 46) rfl rfl dX7_init_45 rfl ?_
  refine go_sipush (z := 5120) (n := 49) ⟨by decide, by decide⟩ dX7_init_46 rfl ?_
  replace E := Option.bind_eq_some_iff.mp E; obtain ⟨h11, eh11, E⟩ := E
  refine go_newI (n := 51) eh11 dX7_init_49 rfl wa_int ?_
  replace E := Option.bind_eq_some_iff.mp E; obtain ⟨h12, eh12, E⟩ := E
  refine go_putFP (n := 54) eh12 ff_RX7_27 rfl rfl dX7_init_51 rfl ?_
  refine go_aload_n (j := 0) (n := 55) rfl rfl dX7_init_54 rfl ?_
  refine go_sipush (z := 5120) (n := 58) ⟨by decide, by decide⟩ dX7_init_55 rfl ?_
  replace E := Option.bind_eq_some_iff.mp E; obtain ⟨h13, eh13, E⟩ := E
  refine go_newI (n := 60) eh13 dX7_init_58 rfl wa_int ?_
  replace E := Option.bind_eq_some_iff.mp E; obtain ⟨h14, eh14, E⟩ := E
  refine go_putFP (n := 63) eh14 ff_RX7_30 rfl rfl dX7_init_60 rfl ?_
  cases E
  exact go_return rfl dX7_init_63
theorem OX7_init {F : Nat} {l0 : Nat} {h hf : HP} {r : Unit} (e : X7_init F l0 h = some (r, hf)) : Ok MX7_init [vr (some l0)] none h hf := fun K _ _ _ => SX7_init l0 h e
theorem wml_RX1_3 : Cond.methodLink RX1 3 objectInit ∈ BW := bw_of 225 (by decide +kernel) rfl
theorem nl_RX1_9 : NL RX1 9 7 10 := ⟨RX7, TX7, ci_7, bw_of 226 (by decide +kernel) rfl, bw_of 227 (by decide +kernel) rfl, bw_of 121 (by decide +kernel) rfl, by decide +kernel⟩
theorem yw_X7_init : YW yX7_init cX7_init 1 none 0 := ⟨bw_of 230 (by decide +kernel) rfl, bw_of 121 (by decide +kernel) rfl, ⟨by decide +kernel, by decide +kernel, by decide +kernel⟩, by decide +kernel⟩
theorem wim_X7_init : Cond.instanceMethod yX7_init ∈ BW := bw_of 229 (by decide +kernel) rfl
theorem ff_RX1_12 : FLF RX1 12 1 8 0 := ⟨TX1, ci_1, by decide, bw_of 265 (by decide +kernel) rfl, rfl, rfl⟩
theorem fl_RX1_18 : FL RX1 18 1 8 5 false := ⟨RX1, TX1, ci_1, by decide, bw_of 271 (by decide +kernel) rfl, rfl, rfl⟩
abbrev MX1_init : MI := (RX1, cX1_init, 1, none, 3, none, "<init>")
noncomputable def X1_init (F : Nat)   (l0 : Nat)  (h : HP) : Option (Unit × HP) :=
  (xnw h 7 10).bind fun h1 =>
  xb (X7_init F (gn h1) h1) fun v2 h3 =>
  (xpP h3 (some l0) 1 8 0 (some (gn h1))).bind fun h4 =>
  (xpI h4 (some l0) 1 8 5 (-1)).bind fun h5 =>
  some ((), h5)
set_option maxRecDepth 100000 in
theorem SX1_init {K : Ctx} {F : Nat} {r : Unit} {hf : HP}     (l0 : Nat)  (h : HP) (E : X1_init F   l0 h = some (r, hf)) : Go K MX1_init (QM K none hf) hf 0 [(0, vr (some l0))] [] h := by
  unfold X1_init at E
  refine go_aload_n (j := 0) (n := 1) rfl rfl dX1_init_0 rfl ?_
  refine go_objInit (n := 4) wml_RX1_3 w_oinit ⟨_, rfl⟩ (Nat.le_of_ble_eq_true rfl) (Nat.le_of_ble_eq_true rfl) dX1_init_1 rfl ?_
  refine go_aload_n (j := 0) (n := 5) rfl rfl dX1_init_4 rfl ?_
  replace E := Option.bind_eq_some_iff.mp E; obtain ⟨h1, eh1, E⟩ := E
  refine go_new (n := 8) eh1 nl_RX1_9 dX1_init_5 rfl ?_
  refine go_dup (n := 9) rfl dX1_init_8 rfl ?_
  replace E := xb_some E; obtain ⟨v2, h3, ev2, E⟩ := E
  refine go_callIN (host := "TeaNight") (y := yX7_init) (n := 12) (st := [vr (some (gn h1)), vr (some l0)]) (as := []) (OX7_init ev2) yw_X7_init (by decide +kernel) wim_X7_init rfl (Nat.le_of_ble_eq_true rfl) rfl ⟨Nat.le_of_ble_eq_true rfl, Nat.le_of_ble_eq_true rfl⟩ (Nat.le_of_ble_eq_true rfl) dX1_init_9 rfl rfl ?_
  replace E := Option.bind_eq_some_iff.mp E; obtain ⟨h4, eh4, E⟩ := E
  refine go_putFP (n := 15) eh4 ff_RX1_12 rfl rfl dX1_init_12 rfl ?_
  refine go_aload_n (j := 0) (n := 16) rfl rfl dX1_init_15 rfl ?_
  refine go_iconst (z := (-1)) (n := 17) ⟨by decide, by decide⟩ dX1_init_16 rfl ?_
  replace E := Option.bind_eq_some_iff.mp E; obtain ⟨h5, eh5, E⟩ := E
  refine go_putI (n := 20) eh5 fl_RX1_18 rfl dX1_init_17 rfl ?_
  cases E
  exact go_return rfl dX1_init_20
theorem OX1_init {F : Nat} {l0 : Nat} {h hf : HP} {r : Unit} (e : X1_init F l0 h = some (r, hf)) : Ok MX1_init [vr (some l0)] none h hf := fun K _ _ _ => SX1_init l0 h e
theorem wml_RX2_3 : Cond.methodLink RX2 3 objectInit ∈ BW := bw_of 304 (by decide +kernel) rfl
abbrev MX2_init : MI := (RX2, cX2_init, 1, none, 2, none, "<init>")
noncomputable def X2_init (F : Nat)   (l0 : Nat)  (h : HP) : Option (Unit × HP) :=
  some ((), h)
set_option maxRecDepth 100000 in
theorem SX2_init {K : Ctx} {F : Nat} {r : Unit} {hf : HP}     (l0 : Nat)  (h : HP) (E : X2_init F   l0 h = some (r, hf)) : Go K MX2_init (QM K none hf) hf 0 [(0, vr (some l0))] [] h := by
  unfold X2_init at E
  refine go_aload_n (j := 0) (n := 1) rfl rfl dX2_init_0 rfl ?_
  refine go_objInit (n := 4) wml_RX2_3 w_oinit ⟨_, rfl⟩ (Nat.le_of_ble_eq_true rfl) (Nat.le_of_ble_eq_true rfl) dX2_init_1 rfl ?_
  cases E
  exact go_return rfl dX2_init_4
theorem OX2_init {F : Nat} {l0 : Nat} {h hf : HP} {r : Unit} (e : X2_init F l0 h = some (r, hf)) : Ok MX2_init [vr (some l0)] none h hf := fun K _ _ _ => SX2_init l0 h e
theorem wml_RX3_3 : Cond.methodLink RX3 3 objectInit ∈ BW := bw_of 297 (by decide +kernel) rfl
theorem wcl_RX3_9 : Cond.classLink RX3 9 "TeaNight$Job" ∈ BW := bw_of 298 (by decide +kernel) rfl
theorem ff_RX3_11 : FLF RX3 11 3 7 0 := ⟨TX3, ci_3, by decide, bw_of 386 (by decide +kernel) rfl, rfl, rfl⟩
theorem ff_RX3_17 : FLF RX3 17 3 7 1 := ⟨TX3, ci_3, by decide, bw_of 387 (by decide +kernel) rfl, rfl, rfl⟩
theorem ff_RX3_21 : FLF RX3 21 3 7 2 := ⟨TX3, ci_3, by decide, bw_of 388 (by decide +kernel) rfl, rfl, rfl⟩
theorem ff_RX3_24 : FLF RX3 24 3 7 3 := ⟨TX3, ci_3, by decide, bw_of 389 (by decide +kernel) rfl, rfl, rfl⟩
theorem fl_RX3_27 : FL RX3 27 3 7 4 false := ⟨RX3, TX3, ci_3, by decide, bw_of 390 (by decide +kernel) rfl, rfl, rfl⟩
theorem nl_RX3_9 : NL RX3 9 2 18 := ⟨RX2, TX2, ci_2, bw_of 298 (by decide +kernel) rfl, bw_of 300 (by decide +kernel) rfl, bw_of 123 (by decide +kernel) rfl, by decide +kernel⟩
theorem yw_X2_init : YW yX2_init cX2_init 1 none 0 := ⟨bw_of 303 (by decide +kernel) rfl, bw_of 123 (by decide +kernel) rfl, ⟨by decide +kernel, by decide +kernel, by decide +kernel⟩, by decide +kernel⟩
theorem wim_X2_init : Cond.instanceMethod yX2_init ∈ BW := bw_of 302 (by decide +kernel) rfl
theorem ff_RX3_32 : FLF RX3 32 3 7 6 := ⟨TX3, ci_3, by decide, bw_of 394 (by decide +kernel) rfl, rfl, rfl⟩
theorem fl_RX3_11 : FL RX3 11 3 7 0 true := ⟨RX3, TX3, ci_3, by decide, bw_of 386 (by decide +kernel) rfl, rfl, rfl⟩
abbrev MX3_init : MI := (RX3, cX3_init, 2, none, 3, none, "<init>")
noncomputable def X3_init_L55 (F : Nat)   (k : Nat) : Nat → Int → HP → Option (Unit × HP) :=
  Nat.rec (motive := fun _ => Nat → Int → HP → Option (Unit × HP)) (fun _ _ _ => none) (fun _ rc55 l0 l1 h =>
    if 12 ≤ l1 then
      some ((), h)
    else
      (xgP h (some l0) 3 7 0).bind fun v2 =>
      (xnw h 2 18).bind fun h3 =>
      xb (X2_init F (gn h3) h3) fun v4 h5 =>
      (xsP h5 v2 l1 (some (gn h3))).bind fun h6 =>
      rc55 l0 (w32 (l1 + 1)) h6) k
theorem X3_init_L55_s (F : Nat)   (k : Nat) (l0 : Nat) (l1 : Int)  (h : HP) : X3_init_L55 F   (k + 1) l0 l1 h =
    if 12 ≤ l1 then
      some ((), h)
    else
      (xgP h (some l0) 3 7 0).bind fun v2 =>
      (xnw h 2 18).bind fun h3 =>
      xb (X2_init F (gn h3) h3) fun v4 h5 =>
      (xsP h5 v2 l1 (some (gn h3))).bind fun h6 =>
      (X3_init_L55 F k) l0 (w32 (l1 + 1)) h6 := rfl
set_option maxRecDepth 100000 in
theorem SX3_init_L55 {K : Ctx} {F : Nat} {r : Unit} {hf : HP}     : ∀ (k : Nat) (l0 : Nat) (l1 : Int)  (h : HP), X3_init_L55 F   k l0 l1 h = some (r, hf) → Go K MX3_init (QM K none hf) hf 55 [(0, vr (some l0)), (1, vi l1)] [] h := by
  intro k
  induction k with
  | zero => intro l0 l1 h E; exact nomatch E
  | succ k hrc55 =>
    intro l0 l1 h E
    rw [X3_init_L55_s] at E
    refine go_iload_n (j := 1) (n := 56) rfl rfl dX3_init_55 rfl ?_
    refine go_bipush (z := 12) (n := 58) ⟨by decide, by decide⟩ dX3_init_56 rfl ?_
    refine go_icmp_ge (tgt := 80) (n := 61) dX3_init_58 rfl rfl (fun c1 => ?_) (fun c1 => ?_)
    · rw [if_pos c1] at E
      cases E
      exact go_return rfl dX3_init_80
    · rw [if_neg c1] at E
      refine go_aload_n (j := 0) (n := 62) rfl rfl dX3_init_61 rfl ?_
      replace E := Option.bind_eq_some_iff.mp E; obtain ⟨v2, ev2, E⟩ := E
      refine go_getP (n := 65) ev2 fl_RX3_11 rfl dX3_init_62 rfl ?_
      refine go_iload_n (j := 1) (n := 66) rfl rfl dX3_init_65 rfl ?_
      replace E := Option.bind_eq_some_iff.mp E; obtain ⟨h3, eh3, E⟩ := E
      refine go_new (n := 69) eh3 nl_RX3_9 dX3_init_66 rfl ?_
      refine go_dup (n := 70) rfl dX3_init_69 rfl ?_
      replace E := xb_some E; obtain ⟨v4, h5, ev4, E⟩ := E
      refine go_callIN (host := "TeaNight") (y := yX2_init) (n := 73) (st := [vr (some (gn h3)), vi l1, vr v2]) (as := []) (OX2_init ev4) yw_X2_init (by decide +kernel) wim_X2_init rfl (Nat.le_of_ble_eq_true rfl) rfl ⟨Nat.le_of_ble_eq_true rfl, Nat.le_of_ble_eq_true rfl⟩ (Nat.le_of_ble_eq_true rfl) dX3_init_70 rfl rfl ?_
      replace E := Option.bind_eq_some_iff.mp E; obtain ⟨h6, eh6, E⟩ := E
      refine go_aastore (n := 74) eh6 dX3_init_73 rfl ?_
      refine go_iinc (j := 1) (n := 77) (lv' := [(1, vi (w32 (l1 + 1))), (0, vr (some l0))]) rfl dX3_init_74 rfl (Nat.le_of_ble_eq_true rfl) rfl ?_
      refine go_goto (tgt := 55) dX3_init_77 rfl ?_
      refine go_pick (lv' := [(0, vr (some l0)), (1, vi (w32 (l1 + 1)))]) [1, 0] rfl ?_
      exact hrc55 _ _ _ E
noncomputable def X3_init (F : Nat)   (l0 : Nat)  (h : HP) : Option (Unit × HP) :=
  (xna h 104 12).bind fun h1 =>
  (xpP h1 (some l0) 3 7 0 (some (gn h1))).bind fun h2 =>
  (xna h2 100 12).bind fun h3 =>
  (xpP h3 (some l0) 3 7 1 (some (gn h3))).bind fun h4 =>
  (xna h4 100 12).bind fun h5 =>
  (xpP h5 (some l0) 3 7 2 (some (gn h5))).bind fun h6 =>
  (xna h6 100 12).bind fun h7 =>
  (xpP h7 (some l0) 3 7 3 (some (gn h7))).bind fun h8 =>
  (xpZ h8 (some l0) 3 7 4 1).bind fun h9 =>
  (xnw h9 2 18).bind fun h10 =>
  xb (X2_init F (gn h10) h10) fun v11 h12 =>
  (xpP h12 (some l0) 3 7 6 (some (gn h10))).bind fun h13 =>
  X3_init_L55 F F l0 0 h13
set_option maxRecDepth 100000 in
theorem SX3_init {K : Ctx} {F : Nat} {r : Unit} {hf : HP}     (l0 : Nat)  (h : HP) (E : X3_init F   l0 h = some (r, hf)) : Go K MX3_init (QM K none hf) hf 0 [(0, vr (some l0))] [] h := by
  unfold X3_init at E
  refine go_aload_n (j := 0) (n := 1) rfl rfl dX3_init_0 rfl ?_
  refine go_objInit (n := 4) wml_RX3_3 w_oinit ⟨_, rfl⟩ (Nat.le_of_ble_eq_true rfl) (Nat.le_of_ble_eq_true rfl) dX3_init_1 rfl ?_
  refine go_aload_n (j := 0) (n := 5) rfl rfl dX3_init_4 rfl ?_
  refine go_bipush (z := 12) (n := 7) ⟨by decide, by decide⟩ dX3_init_5 rfl ?_
  replace E := Option.bind_eq_some_iff.mp E; obtain ⟨h1, eh1, E⟩ := E
  refine go_newP (n := 10) eh1 dX3_init_7 rfl wcl_RX3_9 ?_
  replace E := Option.bind_eq_some_iff.mp E; obtain ⟨h2, eh2, E⟩ := E
  refine go_putFP (n := 13) eh2 ff_RX3_11 rfl rfl dX3_init_10 rfl ?_
  refine go_aload_n (j := 0) (n := 14) rfl rfl dX3_init_13 rfl ?_
  refine go_bipush (z := 12) (n := 16) ⟨by decide, by decide⟩ dX3_init_14 rfl ?_
  replace E := Option.bind_eq_some_iff.mp E; obtain ⟨h3, eh3, E⟩ := E
  refine go_newI (n := 18) eh3 dX3_init_16 rfl wa_int ?_
  replace E := Option.bind_eq_some_iff.mp E; obtain ⟨h4, eh4, E⟩ := E
  refine go_putFP (n := 21) eh4 ff_RX3_17 rfl rfl dX3_init_18 rfl ?_
  refine go_aload_n (j := 0) (n := 22) rfl rfl dX3_init_21 rfl ?_
  refine go_bipush (z := 12) (n := 24) ⟨by decide, by decide⟩ dX3_init_22 rfl ?_
  replace E := Option.bind_eq_some_iff.mp E; obtain ⟨h5, eh5, E⟩ := E
  refine go_newI (n := 26) eh5 dX3_init_24 rfl wa_int ?_
  replace E := Option.bind_eq_some_iff.mp E; obtain ⟨h6, eh6, E⟩ := E
  refine go_putFP (n := 29) eh6 ff_RX3_21 rfl rfl dX3_init_26 rfl ?_
  refine go_aload_n (j := 0) (n := 30) rfl rfl dX3_init_29 rfl ?_
  refine go_bipush (z := 12) (n := 32) ⟨by decide, by decide⟩ dX3_init_30 rfl ?_
  replace E := Option.bind_eq_some_iff.mp E; obtain ⟨h7, eh7, E⟩ := E
  refine go_newI (n := 34) eh7 dX3_init_32 rfl wa_int ?_
  replace E := Option.bind_eq_some_iff.mp E; obtain ⟨h8, eh8, E⟩ := E
  refine go_putFP (n := 37) eh8 ff_RX3_24 rfl rfl dX3_init_34 rfl ?_
  refine go_aload_n (j := 0) (n := 38) rfl rfl dX3_init_37 rfl ?_
  refine go_iconst (z := 1) (n := 39) ⟨by decide, by decide⟩ dX3_init_38 rfl ?_
  replace E := Option.bind_eq_some_iff.mp E; obtain ⟨h9, eh9, E⟩ := E
  refine go_putZ (n := 42) eh9 fl_RX3_27 rfl dX3_init_39 rfl ?_
  refine go_aload_n (j := 0) (n := 43) rfl rfl dX3_init_42 rfl ?_
  replace E := Option.bind_eq_some_iff.mp E; obtain ⟨h10, eh10, E⟩ := E
  refine go_new (n := 46) eh10 nl_RX3_9 dX3_init_43 rfl ?_
  refine go_dup (n := 47) rfl dX3_init_46 rfl ?_
  replace E := xb_some E; obtain ⟨v11, h12, ev11, E⟩ := E
  refine go_callIN (host := "TeaNight") (y := yX2_init) (n := 50) (st := [vr (some (gn h10)), vr (some l0)]) (as := []) (OX2_init ev11) yw_X2_init (by decide +kernel) wim_X2_init rfl (Nat.le_of_ble_eq_true rfl) rfl ⟨Nat.le_of_ble_eq_true rfl, Nat.le_of_ble_eq_true rfl⟩ (Nat.le_of_ble_eq_true rfl) dX3_init_47 rfl rfl ?_
  replace E := Option.bind_eq_some_iff.mp E; obtain ⟨h13, eh13, E⟩ := E
  refine go_putFP (n := 53) eh13 ff_RX3_32 rfl rfl dX3_init_50 rfl ?_
  refine go_iconst (z := 0) (n := 54) ⟨by decide, by decide⟩ dX3_init_53 rfl ?_
  refine go_istore_n (n := 55) (lv' := [(1, vi 0), (0, vr (some l0))]) rfl dX3_init_54 rfl (Nat.le_of_ble_eq_true rfl) rfl ?_
  refine go_pick (lv' := [(0, vr (some l0)), (1, vi 0)]) [1, 0] rfl ?_
  exact SX3_init_L55     F _ _ _ E
theorem OX3_init {F : Nat} {l0 : Nat} {h hf : HP} {r : Unit} (e : X3_init F l0 h = some (r, hf)) : Ok MX3_init [vr (some l0)] none h hf := fun K _ _ _ => SX3_init l0 h e
theorem wml_RX10_3 : Cond.methodLink RX10 3 objectInit ∈ BW := bw_of 415 (by decide +kernel) rfl
theorem ff_RX10_9 : FLF RX10 9 10 10 0 := ⟨TX10, ci_10, by decide, bw_of 416 (by decide +kernel) rfl, rfl, rfl⟩
theorem ff_RX10_15 : FLF RX10 15 10 10 1 := ⟨TX10, ci_10, by decide, bw_of 417 (by decide +kernel) rfl, rfl, rfl⟩
theorem ff_RX10_18 : FLF RX10 18 10 10 2 := ⟨TX10, ci_10, by decide, bw_of 418 (by decide +kernel) rfl, rfl, rfl⟩
theorem ff_RX10_21 : FLF RX10 21 10 10 3 := ⟨TX10, ci_10, by decide, bw_of 419 (by decide +kernel) rfl, rfl, rfl⟩
abbrev MX10_init : MI := (RX10, cX10_init, 1, none, 2, none, "<init>")
noncomputable def X10_init (F : Nat)   (l0 : Nat)  (h : HP) : Option (Unit × HP) :=
  (xna h 100 100).bind fun h1 =>
  (xpP h1 (some l0) 10 10 0 (some (gn h1))).bind fun h2 =>
  (xna h2 100 100).bind fun h3 =>
  (xpP h3 (some l0) 10 10 1 (some (gn h3))).bind fun h4 =>
  (xna h4 100 100).bind fun h5 =>
  (xpP h5 (some l0) 10 10 2 (some (gn h5))).bind fun h6 =>
  (xna h6 100 100).bind fun h7 =>
  (xpP h7 (some l0) 10 10 3 (some (gn h7))).bind fun h8 =>
  some ((), h8)
set_option maxRecDepth 100000 in
theorem SX10_init {K : Ctx} {F : Nat} {r : Unit} {hf : HP}     (l0 : Nat)  (h : HP) (E : X10_init F   l0 h = some (r, hf)) : Go K MX10_init (QM K none hf) hf 0 [(0, vr (some l0))] [] h := by
  unfold X10_init at E
  refine go_aload_n (j := 0) (n := 1) rfl rfl dX10_init_0 rfl ?_
  refine go_objInit (n := 4) wml_RX10_3 w_oinit ⟨_, rfl⟩ (Nat.le_of_ble_eq_true rfl) (Nat.le_of_ble_eq_true rfl) dX10_init_1 rfl ?_
  refine go_aload_n (j := 0) (n := 5) rfl rfl dX10_init_4 rfl ?_
  refine go_bipush (z := 100) (n := 7) ⟨by decide, by decide⟩ dX10_init_5 rfl ?_
  replace E := Option.bind_eq_some_iff.mp E; obtain ⟨h1, eh1, E⟩ := E
  refine go_newI (n := 9) eh1 dX10_init_7 rfl wa_int ?_
  replace E := Option.bind_eq_some_iff.mp E; obtain ⟨h2, eh2, E⟩ := E
  refine go_putFP (n := 12) eh2 ff_RX10_9 rfl rfl dX10_init_9 rfl ?_
  refine go_aload_n (j := 0) (n := 13) rfl rfl dX10_init_12 rfl ?_
  refine go_bipush (z := 100) (n := 15) ⟨by decide, by decide⟩ dX10_init_13 rfl ?_
  replace E := Option.bind_eq_some_iff.mp E; obtain ⟨h3, eh3, E⟩ := E
  refine go_newI (n := 17) eh3 dX10_init_15 rfl wa_int ?_
  replace E := Option.bind_eq_some_iff.mp E; obtain ⟨h4, eh4, E⟩ := E
  refine go_putFP (n := 20) eh4 ff_RX10_15 rfl rfl dX10_init_17 rfl ?_
  refine go_aload_n (j := 0) (n := 21) rfl rfl dX10_init_20 rfl ?_
  refine go_bipush (z := 100) (n := 23) ⟨by decide, by decide⟩ dX10_init_21 rfl ?_
  replace E := Option.bind_eq_some_iff.mp E; obtain ⟨h5, eh5, E⟩ := E
  refine go_newI (n := 25) eh5 dX10_init_23 rfl wa_int ?_
  replace E := Option.bind_eq_some_iff.mp E; obtain ⟨h6, eh6, E⟩ := E
  refine go_putFP (n := 28) eh6 ff_RX10_18 rfl rfl dX10_init_25 rfl ?_
  refine go_aload_n (j := 0) (n := 29) rfl rfl dX10_init_28 rfl ?_
  refine go_bipush (z := 100) (n := 31) ⟨by decide, by decide⟩ dX10_init_29 rfl ?_
  replace E := Option.bind_eq_some_iff.mp E; obtain ⟨h7, eh7, E⟩ := E
  refine go_newI (n := 33) eh7 dX10_init_31 rfl wa_int ?_
  replace E := Option.bind_eq_some_iff.mp E; obtain ⟨h8, eh8, E⟩ := E
  refine go_putFP (n := 36) eh8 ff_RX10_21 rfl rfl dX10_init_33 rfl ?_
  cases E
  exact go_return rfl dX10_init_36
theorem OX10_init {F : Nat} {l0 : Nat} {h hf : HP} {r : Unit} (e : X10_init F l0 h = some (r, hf)) : Ok MX10_init [vr (some l0)] none h hf := fun K _ _ _ => SX10_init l0 h e
abbrev MJ7_fill_53178 : MI := (RJ7, cJ7_fill_53178, 4, none, 2, none, "fill")
noncomputable def XJ7_fill_53178_L5 (F : Nat)   (k : Nat) : Option Nat → Int → Int → Int → HP → Option (Unit × HP) :=
  Nat.rec (motive := fun _ => Option Nat → Int → Int → Int → HP → Option (Unit × HP)) (fun _ _ _ _ _ => none) (fun _ rc5 l0 l1 l2 l3 h =>
    if l3 ≤ l2 then
      some ((), h)
    else
      (xsI h l0 l2 l1).bind fun h2 =>
      rc5 l0 l1 (w32 (l2 + 1)) l3 h2) k
theorem XJ7_fill_53178_L5_s (F : Nat)   (k : Nat) (l0 : Option Nat) (l1 : Int) (l2 : Int) (l3 : Int)  (h : HP) : XJ7_fill_53178_L5 F   (k + 1) l0 l1 l2 l3 h =
    if l3 ≤ l2 then
      some ((), h)
    else
      (xsI h l0 l2 l1).bind fun h2 =>
      (XJ7_fill_53178_L5 F k) l0 l1 (w32 (l2 + 1)) l3 h2 := rfl
set_option maxRecDepth 100000 in
theorem SXJ7_fill_53178_L5 {K : Ctx} {F : Nat} {r : Unit} {hf : HP}     : ∀ (k : Nat) (l0 : Option Nat) (l1 : Int) (l2 : Int) (l3 : Int)  (h : HP), XJ7_fill_53178_L5 F   k l0 l1 l2 l3 h = some (r, hf) → Go K MJ7_fill_53178 (QM K none hf) hf 5 [(0, vr l0), (1, vi l1), (2, vi l2), (3, vi l3)] [] h := by
  intro k
  induction k with
  | zero => intro l0 l1 l2 l3 h E; exact nomatch E
  | succ k hrc5 =>
    intro l0 l1 l2 l3 h E
    rw [XJ7_fill_53178_L5_s] at E
    refine go_iload_n (j := 2) (n := 6) rfl rfl dJ7_fill_53178_5 rfl ?_
    refine go_iload_n (j := 3) (n := 7) rfl rfl dJ7_fill_53178_6 rfl ?_
    refine go_icmp_ge (tgt := 20) (n := 10) dJ7_fill_53178_7 rfl rfl (fun c1 => ?_) (fun c1 => ?_)
    · rw [if_pos c1] at E
      cases E
      exact go_return rfl dJ7_fill_53178_20
    · rw [if_neg c1] at E
      refine go_aload_n (j := 0) (n := 11) rfl rfl dJ7_fill_53178_10 rfl ?_
      refine go_iload_n (j := 2) (n := 12) rfl rfl dJ7_fill_53178_11 rfl ?_
      refine go_iload_n (j := 1) (n := 13) rfl rfl dJ7_fill_53178_12 rfl ?_
      replace E := Option.bind_eq_some_iff.mp E; obtain ⟨h2, eh2, E⟩ := E
      refine go_iastore (n := 14) eh2 dJ7_fill_53178_13 rfl ?_
      refine go_iinc (j := 2) (n := 17) (lv' := [(2, vi (w32 (l2 + 1))), (0, vr l0), (1, vi l1), (3, vi l3)]) rfl dJ7_fill_53178_14 rfl (Nat.le_of_ble_eq_true rfl) rfl ?_
      refine go_goto (tgt := 5) dJ7_fill_53178_17 rfl ?_
      refine go_pick (lv' := [(0, vr l0), (1, vi l1), (2, vi (w32 (l2 + 1))), (3, vi l3)]) [1, 2, 0, 3] rfl ?_
      exact hrc5 _ _ _ _ _ E
noncomputable def XJ7_fill_53178 (F : Nat)   (l0 : Option Nat) (l1 : Int)  (h : HP) : Option (Unit × HP) :=
  (xal h l0).bind fun v1 =>
  XJ7_fill_53178_L5 F F l0 l1 0 v1 h
set_option maxRecDepth 100000 in
theorem SXJ7_fill_53178 {K : Ctx} {F : Nat} {r : Unit} {hf : HP}     (l0 : Option Nat) (l1 : Int)  (h : HP) (E : XJ7_fill_53178 F   l0 l1 h = some (r, hf)) : Go K MJ7_fill_53178 (QM K none hf) hf 0 [(0, vr l0), (1, vi l1)] [] h := by
  unfold XJ7_fill_53178 at E
  refine go_iconst (z := 0) (n := 1) ⟨by decide, by decide⟩ dJ7_fill_53178_0 rfl ?_
  refine go_istore_n (n := 2) (lv' := [(2, vi 0), (0, vr l0), (1, vi l1)]) rfl dJ7_fill_53178_1 rfl (Nat.le_of_ble_eq_true rfl) rfl ?_
  refine go_aload_n (j := 1) (n := 3) rfl rfl dJ7_fill_53178_2 rfl ?_
  replace E := Option.bind_eq_some_iff.mp E; obtain ⟨v1, ev1, E⟩ := E
  refine go_alen (n := 4) ev1 dJ7_fill_53178_3 rfl ?_
  refine go_istore_n (n := 5) (lv' := [(3, vi v1), (2, vi 0), (0, vr l0), (1, vi l1)]) rfl dJ7_fill_53178_4 rfl (Nat.le_of_ble_eq_true rfl) rfl ?_
  refine go_pick (lv' := [(0, vr l0), (1, vi l1), (2, vi 0), (3, vi v1)]) [2, 3, 1, 0] rfl ?_
  exact SXJ7_fill_53178_L5     F _ _ _ _ _ E
theorem OXJ7_fill_53178 {F : Nat} {l0 : Option Nat} {l1 : Int} {h hf : HP} {r : Unit} (e : XJ7_fill_53178 F l0 l1 h = some (r, hf)) : Ok MJ7_fill_53178 [vr l0, vi l1] none h hf := fun K _ _ _ => SXJ7_fill_53178 l0 l1 h e
theorem wml_RX0_3 : Cond.methodLink RX0 3 objectInit ∈ BW := bw_of 453 (by decide +kernel) rfl
theorem ff_RX0_9 : FLF RX0 9 0 10 0 := ⟨TX0, ci_0, by decide, bw_of 457 (by decide +kernel) rfl, rfl, rfl⟩
theorem ff_RX0_15 : FLF RX0 15 0 10 1 := ⟨TX0, ci_0, by decide, bw_of 458 (by decide +kernel) rfl, rfl, rfl⟩
theorem ff_RX0_18 : FLF RX0 18 0 10 2 := ⟨TX0, ci_0, by decide, bw_of 459 (by decide +kernel) rfl, rfl, rfl⟩
theorem ff_RX0_21 : FLF RX0 21 0 10 3 := ⟨TX0, ci_0, by decide, bw_of 460 (by decide +kernel) rfl, rfl, rfl⟩
theorem ff_RX0_24 : FLF RX0 24 0 10 4 := ⟨TX0, ci_0, by decide, bw_of 461 (by decide +kernel) rfl, rfl, rfl⟩
theorem ff_RX0_27 : FLF RX0 27 0 10 5 := ⟨TX0, ci_0, by decide, bw_of 462 (by decide +kernel) rfl, rfl, rfl⟩
theorem wa_long : Cond.arrayClass .long ∈ BW := bw_of 488 (by decide +kernel) rfl
theorem ff_RX0_30 : FLF RX0 30 0 10 8 := ⟨TX0, ci_0, by decide, bw_of 465 (by decide +kernel) rfl, rfl, rfl⟩
theorem ff_RX0_34 : FLF RX0 34 0 10 9 := ⟨TX0, ci_0, by decide, bw_of 466 (by decide +kernel) rfl, rfl, rfl⟩
theorem fl_RX0_9 : FL RX0 9 0 10 0 true := ⟨RX0, TX0, ci_0, by decide, bw_of 457 (by decide +kernel) rfl, rfl, rfl⟩
theorem yw_J7_fill_53178 : YW yJ7_fill_53178 cJ7_fill_53178 4 none 2 := ⟨bw_of 456 (by decide +kernel) rfl, bw_of 126 (by decide +kernel) rfl, ⟨by decide +kernel, by decide +kernel, by decide +kernel⟩, by decide +kernel⟩
theorem wml_RX0_37 : Cond.methodLink RX0 37 yJ7_fill_53178 ∈ BW := bw_of 454 (by decide +kernel) rfl
theorem wst_J7_fill_53178 : Cond.static yJ7_fill_53178 ∈ BW := bw_of 455 (by decide +kernel) rfl
theorem fl_RX0_15 : FL RX0 15 0 10 1 true := ⟨RX0, TX0, ci_0, by decide, bw_of 458 (by decide +kernel) rfl, rfl, rfl⟩
theorem fl_RX0_18 : FL RX0 18 0 10 2 true := ⟨RX0, TX0, ci_0, by decide, bw_of 459 (by decide +kernel) rfl, rfl, rfl⟩
abbrev MX0_init : MI := (RX0, cX0_init, 1, none, 3, none, "<init>")
noncomputable def X0_init (F : Nat)   (l0 : Nat)  (h : HP) : Option (Unit × HP) :=
  (xna h 100 4).bind fun h1 =>
  (xpP h1 (some l0) 0 10 0 (some (gn h1))).bind fun h2 =>
  (xna h2 100 4).bind fun h3 =>
  (xpP h3 (some l0) 0 10 1 (some (gn h3))).bind fun h4 =>
  (xna h4 100 4).bind fun h5 =>
  (xpP h5 (some l0) 0 10 2 (some (gn h5))).bind fun h6 =>
  (xna h6 100 4).bind fun h7 =>
  (xpP h7 (some l0) 0 10 3 (some (gn h7))).bind fun h8 =>
  (xna h8 100 3).bind fun h9 =>
  (xpP h9 (some l0) 0 10 4 (some (gn h9))).bind fun h10 =>
  (xna h10 100 3).bind fun h11 =>
  (xpP h11 (some l0) 0 10 5 (some (gn h11))).bind fun h12 =>
  (xna h12 101 4).bind fun h13 =>
  (xpP h13 (some l0) 0 10 8 (some (gn h13))).bind fun h14 =>
  (xna h14 101 3).bind fun h15 =>
  (xpP h15 (some l0) 0 10 9 (some (gn h15))).bind fun h16 =>
  (xgP h16 (some l0) 0 10 0).bind fun v17 =>
  xb (XJ7_fill_53178 F v17 1 h16) fun v18 h19 =>
  (xgP h19 (some l0) 0 10 1).bind fun v20 =>
  xb (XJ7_fill_53178 F v20 1 h19) fun v21 h22 =>
  (xgP h22 (some l0) 0 10 2).bind fun v23 =>
  xb (XJ7_fill_53178 F v23 1 h22) fun v24 h25 =>
  some ((), h25)
set_option maxRecDepth 100000 in
theorem SX0_init {K : Ctx} {F : Nat} {r : Unit} {hf : HP}     (l0 : Nat)  (h : HP) (E : X0_init F   l0 h = some (r, hf)) : Go K MX0_init (QM K none hf) hf 0 [(0, vr (some l0))] [] h := by
  unfold X0_init at E
  refine go_aload_n (j := 0) (n := 1) rfl rfl dX0_init_0 rfl ?_
  refine go_objInit (n := 4) wml_RX0_3 w_oinit ⟨_, rfl⟩ (Nat.le_of_ble_eq_true rfl) (Nat.le_of_ble_eq_true rfl) dX0_init_1 rfl ?_
  refine go_aload_n (j := 0) (n := 5) rfl rfl dX0_init_4 rfl ?_
  refine go_iconst (z := 4) (n := 6) ⟨by decide, by decide⟩ dX0_init_5 rfl ?_
  replace E := Option.bind_eq_some_iff.mp E; obtain ⟨h1, eh1, E⟩ := E
  refine go_newI (n := 8) eh1 dX0_init_6 rfl wa_int ?_
  replace E := Option.bind_eq_some_iff.mp E; obtain ⟨h2, eh2, E⟩ := E
  refine go_putFP (n := 11) eh2 ff_RX0_9 rfl rfl dX0_init_8 rfl ?_
  refine go_aload_n (j := 0) (n := 12) rfl rfl dX0_init_11 rfl ?_
  refine go_iconst (z := 4) (n := 13) ⟨by decide, by decide⟩ dX0_init_12 rfl ?_
  replace E := Option.bind_eq_some_iff.mp E; obtain ⟨h3, eh3, E⟩ := E
  refine go_newI (n := 15) eh3 dX0_init_13 rfl wa_int ?_
  replace E := Option.bind_eq_some_iff.mp E; obtain ⟨h4, eh4, E⟩ := E
  refine go_putFP (n := 18) eh4 ff_RX0_15 rfl rfl dX0_init_15 rfl ?_
  refine go_aload_n (j := 0) (n := 19) rfl rfl dX0_init_18 rfl ?_
  refine go_iconst (z := 4) (n := 20) ⟨by decide, by decide⟩ dX0_init_19 rfl ?_
  replace E := Option.bind_eq_some_iff.mp E; obtain ⟨h5, eh5, E⟩ := E
  refine go_newI (n := 22) eh5 dX0_init_20 rfl wa_int ?_
  replace E := Option.bind_eq_some_iff.mp E; obtain ⟨h6, eh6, E⟩ := E
  refine go_putFP (n := 25) eh6 ff_RX0_18 rfl rfl dX0_init_22 rfl ?_
  refine go_aload_n (j := 0) (n := 26) rfl rfl dX0_init_25 rfl ?_
  refine go_iconst (z := 4) (n := 27) ⟨by decide, by decide⟩ dX0_init_26 rfl ?_
  replace E := Option.bind_eq_some_iff.mp E; obtain ⟨h7, eh7, E⟩ := E
  refine go_newI (n := 29) eh7 dX0_init_27 rfl wa_int ?_
  replace E := Option.bind_eq_some_iff.mp E; obtain ⟨h8, eh8, E⟩ := E
  refine go_putFP (n := 32) eh8 ff_RX0_21 rfl rfl dX0_init_29 rfl ?_
  refine go_aload_n (j := 0) (n := 33) rfl rfl dX0_init_32 rfl ?_
  refine go_iconst (z := 3) (n := 34) ⟨by decide, by decide⟩ dX0_init_33 rfl ?_
  replace E := Option.bind_eq_some_iff.mp E; obtain ⟨h9, eh9, E⟩ := E
  refine go_newI (n := 36) eh9 dX0_init_34 rfl wa_int ?_
  replace E := Option.bind_eq_some_iff.mp E; obtain ⟨h10, eh10, E⟩ := E
  refine go_putFP (n := 39) eh10 ff_RX0_24 rfl rfl dX0_init_36 rfl ?_
  refine go_aload_n (j := 0) (n := 40) rfl rfl dX0_init_39 rfl ?_
  refine go_iconst (z := 3) (n := 41) ⟨by decide, by decide⟩ dX0_init_40 rfl ?_
  replace E := Option.bind_eq_some_iff.mp E; obtain ⟨h11, eh11, E⟩ := E
  refine go_newI (n := 43) eh11 dX0_init_41 rfl wa_int ?_
  replace E := Option.bind_eq_some_iff.mp E; obtain ⟨h12, eh12, E⟩ := E
  refine go_putFP (n := 46) eh12 ff_RX0_27 rfl rfl dX0_init_43 rfl ?_
  refine go_aload_n (j := 0) (n := 47) rfl rfl dX0_init_46 rfl ?_
  refine go_iconst (z := 4) (n := 48) ⟨by decide, by decide⟩ dX0_init_47 rfl ?_
  replace E := Option.bind_eq_some_iff.mp E; obtain ⟨h13, eh13, E⟩ := E
  refine go_newJ (n := 50) eh13 dX0_init_48 rfl wa_long ?_
  replace E := Option.bind_eq_some_iff.mp E; obtain ⟨h14, eh14, E⟩ := E
  refine go_putFP (n := 53) eh14 ff_RX0_30 rfl rfl dX0_init_50 rfl ?_
  refine go_aload_n (j := 0) (n := 54) rfl rfl dX0_init_53 rfl ?_
  refine go_iconst (z := 3) (n := 55) ⟨by decide, by decide⟩ dX0_init_54 rfl ?_
  replace E := Option.bind_eq_some_iff.mp E; obtain ⟨h15, eh15, E⟩ := E
  refine go_newJ (n := 57) eh15 dX0_init_55 rfl wa_long ?_
  replace E := Option.bind_eq_some_iff.mp E; obtain ⟨h16, eh16, E⟩ := E
  refine go_putFP (n := 60) eh16 ff_RX0_34 rfl rfl dX0_init_57 rfl ?_
  refine go_aload_n (j := 0) (n := 61) rfl rfl dX0_init_60 rfl ?_
  replace E := Option.bind_eq_some_iff.mp E; obtain ⟨v17, ev17, E⟩ := E
  refine go_getP (n := 64) ev17 fl_RX0_9 rfl dX0_init_61 rfl ?_
  refine go_iconst (z := 1) (n := 65) ⟨by decide, by decide⟩ dX0_init_64 rfl ?_
  replace E := xb_some E; obtain ⟨v18, h19, ev18, E⟩ := E
  refine go_callS (y := yJ7_fill_53178) (n := 68) (st := []) (as := [vr v17, vi 1]) (stk9 := []) (OXJ7_fill_53178 ev18) yw_J7_fill_53178 wml_RX0_37 wst_J7_fill_53178 (Nat.le_of_ble_eq_true rfl) rfl ⟨Nat.le_of_ble_eq_true rfl, Nat.le_of_ble_eq_true rfl⟩ (Nat.le_of_ble_eq_true rfl) dX0_init_65 rfl rfl rfl ?_
  refine go_aload_n (j := 0) (n := 69) rfl rfl dX0_init_68 rfl ?_
  replace E := Option.bind_eq_some_iff.mp E; obtain ⟨v20, ev20, E⟩ := E
  refine go_getP (n := 72) ev20 fl_RX0_15 rfl dX0_init_69 rfl ?_
  refine go_iconst (z := 1) (n := 73) ⟨by decide, by decide⟩ dX0_init_72 rfl ?_
  replace E := xb_some E; obtain ⟨v21, h22, ev21, E⟩ := E
  refine go_callS (y := yJ7_fill_53178) (n := 76) (st := []) (as := [vr v20, vi 1]) (stk9 := []) (OXJ7_fill_53178 ev21) yw_J7_fill_53178 wml_RX0_37 wst_J7_fill_53178 (Nat.le_of_ble_eq_true rfl) rfl ⟨Nat.le_of_ble_eq_true rfl, Nat.le_of_ble_eq_true rfl⟩ (Nat.le_of_ble_eq_true rfl) dX0_init_73 rfl rfl rfl ?_
  refine go_aload_n (j := 0) (n := 77) rfl rfl dX0_init_76 rfl ?_
  replace E := Option.bind_eq_some_iff.mp E; obtain ⟨v23, ev23, E⟩ := E
  refine go_getP (n := 80) ev23 fl_RX0_18 rfl dX0_init_77 rfl ?_
  refine go_iconst (z := 1) (n := 81) ⟨by decide, by decide⟩ dX0_init_80 rfl ?_
  replace E := xb_some E; obtain ⟨v24, h25, ev24, E⟩ := E
  refine go_callS (y := yJ7_fill_53178) (n := 84) (st := []) (as := [vr v23, vi 1]) (stk9 := []) (OXJ7_fill_53178 ev24) yw_J7_fill_53178 wml_RX0_37 wst_J7_fill_53178 (Nat.le_of_ble_eq_true rfl) rfl ⟨Nat.le_of_ble_eq_true rfl, Nat.le_of_ble_eq_true rfl⟩ (Nat.le_of_ble_eq_true rfl) dX0_init_81 rfl rfl rfl ?_
  cases E
  exact go_return rfl dX0_init_84
theorem OX0_init {F : Nat} {l0 : Nat} {h hf : HP} {r : Unit} (e : X0_init F l0 h = some (r, hf)) : Ok MX0_init [vr (some l0)] none h hf := fun K _ _ _ => SX0_init l0 h e
theorem wml_RX5_3 : Cond.methodLink RX5 3 objectInit ∈ BW := bw_of 494 (by decide +kernel) rfl
theorem ff_RX5_9 : FLF RX5 9 5 6 0 := ⟨TX5, ci_5, by decide, bw_of 495 (by decide +kernel) rfl, rfl, rfl⟩
theorem ff_RX5_15 : FLF RX5 15 5 6 1 := ⟨TX5, ci_5, by decide, bw_of 496 (by decide +kernel) rfl, rfl, rfl⟩
theorem ff_RX5_18 : FLF RX5 18 5 6 2 := ⟨TX5, ci_5, by decide, bw_of 497 (by decide +kernel) rfl, rfl, rfl⟩
theorem ff_RX5_21 : FLF RX5 21 5 6 3 := ⟨TX5, ci_5, by decide, bw_of 498 (by decide +kernel) rfl, rfl, rfl⟩
abbrev MX5_init : MI := (RX5, cX5_init, 1, none, 2, none, "<init>")
noncomputable def X5_init (F : Nat)   (l0 : Nat)  (h : HP) : Option (Unit × HP) :=
  (xna h 100 20).bind fun h1 =>
  (xpP h1 (some l0) 5 6 0 (some (gn h1))).bind fun h2 =>
  (xna h2 100 20).bind fun h3 =>
  (xpP h3 (some l0) 5 6 1 (some (gn h3))).bind fun h4 =>
  (xna h4 100 20).bind fun h5 =>
  (xpP h5 (some l0) 5 6 2 (some (gn h5))).bind fun h6 =>
  (xna h6 100 20).bind fun h7 =>
  (xpP h7 (some l0) 5 6 3 (some (gn h7))).bind fun h8 =>
  some ((), h8)
set_option maxRecDepth 100000 in
theorem SX5_init {K : Ctx} {F : Nat} {r : Unit} {hf : HP}     (l0 : Nat)  (h : HP) (E : X5_init F   l0 h = some (r, hf)) : Go K MX5_init (QM K none hf) hf 0 [(0, vr (some l0))] [] h := by
  unfold X5_init at E
  refine go_aload_n (j := 0) (n := 1) rfl rfl dX5_init_0 rfl ?_
  refine go_objInit (n := 4) wml_RX5_3 w_oinit ⟨_, rfl⟩ (Nat.le_of_ble_eq_true rfl) (Nat.le_of_ble_eq_true rfl) dX5_init_1 rfl ?_
  refine go_aload_n (j := 0) (n := 5) rfl rfl dX5_init_4 rfl ?_
  refine go_bipush (z := 20) (n := 7) ⟨by decide, by decide⟩ dX5_init_5 rfl ?_
  replace E := Option.bind_eq_some_iff.mp E; obtain ⟨h1, eh1, E⟩ := E
  refine go_newI (n := 9) eh1 dX5_init_7 rfl wa_int ?_
  replace E := Option.bind_eq_some_iff.mp E; obtain ⟨h2, eh2, E⟩ := E
  refine go_putFP (n := 12) eh2 ff_RX5_9 rfl rfl dX5_init_9 rfl ?_
  refine go_aload_n (j := 0) (n := 13) rfl rfl dX5_init_12 rfl ?_
  refine go_bipush (z := 20) (n := 15) ⟨by decide, by decide⟩ dX5_init_13 rfl ?_
  replace E := Option.bind_eq_some_iff.mp E; obtain ⟨h3, eh3, E⟩ := E
  refine go_newI (n := 17) eh3 dX5_init_15 rfl wa_int ?_
  replace E := Option.bind_eq_some_iff.mp E; obtain ⟨h4, eh4, E⟩ := E
  refine go_putFP (n := 20) eh4 ff_RX5_15 rfl rfl dX5_init_17 rfl ?_
  refine go_aload_n (j := 0) (n := 21) rfl rfl dX5_init_20 rfl ?_
  refine go_bipush (z := 20) (n := 23) ⟨by decide, by decide⟩ dX5_init_21 rfl ?_
  replace E := Option.bind_eq_some_iff.mp E; obtain ⟨h5, eh5, E⟩ := E
  refine go_newI (n := 25) eh5 dX5_init_23 rfl wa_int ?_
  replace E := Option.bind_eq_some_iff.mp E; obtain ⟨h6, eh6, E⟩ := E
  refine go_putFP (n := 28) eh6 ff_RX5_18 rfl rfl dX5_init_25 rfl ?_
  refine go_aload_n (j := 0) (n := 29) rfl rfl dX5_init_28 rfl ?_
  refine go_bipush (z := 20) (n := 31) ⟨by decide, by decide⟩ dX5_init_29 rfl ?_
  replace E := Option.bind_eq_some_iff.mp E; obtain ⟨h7, eh7, E⟩ := E
  refine go_newI (n := 33) eh7 dX5_init_31 rfl wa_int ?_
  replace E := Option.bind_eq_some_iff.mp E; obtain ⟨h8, eh8, E⟩ := E
  refine go_putFP (n := 36) eh8 ff_RX5_21 rfl rfl dX5_init_33 rfl ?_
  cases E
  exact go_return rfl dX5_init_36
theorem OX5_init {F : Nat} {l0 : Nat} {h hf : HP} {r : Unit} (e : X5_init F l0 h = some (r, hf)) : Ok MX5_init [vr (some l0)] none h hf := fun K _ _ _ => SX5_init l0 h e
theorem wml_RX4_3 : Cond.methodLink RX4 3 objectInit ∈ BW := bw_of 219 (by decide +kernel) rfl
theorem nl_RX4_9 : NL RX4 9 1 8 := ⟨RX1, TX1, ci_1, bw_of 220 (by decide +kernel) rfl, bw_of 221 (by decide +kernel) rfl, bw_of 120 (by decide +kernel) rfl, by decide +kernel⟩
theorem yw_X1_init : YW yX1_init cX1_init 1 none 0 := ⟨bw_of 224 (by decide +kernel) rfl, bw_of 120 (by decide +kernel) rfl, ⟨by decide +kernel, by decide +kernel, by decide +kernel⟩, by decide +kernel⟩
theorem wim_X1_init : Cond.instanceMethod yX1_init ∈ BW := bw_of 223 (by decide +kernel) rfl
theorem ff_RX4_12 : FLF RX4 12 4 12 0 := ⟨TX4, ci_4, by decide, bw_of 516 (by decide +kernel) rfl, rfl, rfl⟩
theorem fl_RX4_12 : FL RX4 12 4 12 0 true := ⟨RX4, TX4, ci_4, by decide, bw_of 516 (by decide +kernel) rfl, rfl, rfl⟩
theorem fl_RX4_18 : FL RX4 18 1 8 0 true := ⟨RX1, TX1, ci_1, by decide, bw_of 266 (by decide +kernel) rfl, rfl, rfl⟩
theorem ff_RX4_22 : FLF RX4 22 4 12 1 := ⟨TX4, ci_4, by decide, bw_of 517 (by decide +kernel) rfl, rfl, rfl⟩
theorem nl_RX4_23 : NL RX4 23 3 7 := ⟨RX3, TX3, ci_3, bw_of 292 (by decide +kernel) rfl, bw_of 293 (by decide +kernel) rfl, bw_of 122 (by decide +kernel) rfl, by decide +kernel⟩
theorem yw_X3_init : YW yX3_init cX3_init 2 none 0 := ⟨bw_of 296 (by decide +kernel) rfl, bw_of 122 (by decide +kernel) rfl, ⟨by decide +kernel, by decide +kernel, by decide +kernel⟩, by decide +kernel⟩
theorem wml_RX4_25 : Cond.methodLink RX4 25 yX3_init ∈ BW := bw_of 294 (by decide +kernel) rfl
theorem wim_X3_init : Cond.instanceMethod yX3_init ∈ BW := bw_of 295 (by decide +kernel) rfl
theorem ff_RX4_26 : FLF RX4 26 4 12 2 := ⟨TX4, ci_4, by decide, bw_of 519 (by decide +kernel) rfl, rfl, rfl⟩
theorem nl_RX4_30 : NL RX4 30 10 10 := ⟨RX10, TX10, ci_10, bw_of 410 (by decide +kernel) rfl, bw_of 411 (by decide +kernel) rfl, bw_of 124 (by decide +kernel) rfl, by decide +kernel⟩
theorem yw_X10_init : YW yX10_init cX10_init 1 none 0 := ⟨bw_of 414 (by decide +kernel) rfl, bw_of 124 (by decide +kernel) rfl, ⟨by decide +kernel, by decide +kernel, by decide +kernel⟩, by decide +kernel⟩
theorem wim_X10_init : Cond.instanceMethod yX10_init ∈ BW := bw_of 413 (by decide +kernel) rfl
theorem ff_RX4_33 : FLF RX4 33 4 12 3 := ⟨TX4, ci_4, by decide, bw_of 521 (by decide +kernel) rfl, rfl, rfl⟩
theorem nl_RX4_37 : NL RX4 37 0 10 := ⟨RX0, TX0, ci_0, bw_of 448 (by decide +kernel) rfl, bw_of 449 (by decide +kernel) rfl, bw_of 125 (by decide +kernel) rfl, by decide +kernel⟩
theorem yw_X0_init : YW yX0_init cX0_init 1 none 0 := ⟨bw_of 452 (by decide +kernel) rfl, bw_of 125 (by decide +kernel) rfl, ⟨by decide +kernel, by decide +kernel, by decide +kernel⟩, by decide +kernel⟩
theorem wml_RX4_39 : Cond.methodLink RX4 39 yX0_init ∈ BW := bw_of 450 (by decide +kernel) rfl
theorem wim_X0_init : Cond.instanceMethod yX0_init ∈ BW := bw_of 451 (by decide +kernel) rfl
theorem ff_RX4_40 : FLF RX4 40 4 12 4 := ⟨TX4, ci_4, by decide, bw_of 523 (by decide +kernel) rfl, rfl, rfl⟩
theorem nl_RX4_44 : NL RX4 44 5 6 := ⟨RX5, TX5, ci_5, bw_of 489 (by decide +kernel) rfl, bw_of 490 (by decide +kernel) rfl, bw_of 127 (by decide +kernel) rfl, by decide +kernel⟩
theorem yw_X5_init : YW yX5_init cX5_init 1 none 0 := ⟨bw_of 493 (by decide +kernel) rfl, bw_of 127 (by decide +kernel) rfl, ⟨by decide +kernel, by decide +kernel, by decide +kernel⟩, by decide +kernel⟩
theorem wim_X5_init : Cond.instanceMethod yX5_init ∈ BW := bw_of 492 (by decide +kernel) rfl
theorem ff_RX4_47 : FLF RX4 47 4 12 5 := ⟨TX4, ci_4, by decide, bw_of 525 (by decide +kernel) rfl, rfl, rfl⟩
theorem fl_RX4_51 : FL RX4 51 4 12 10 false := ⟨RX4, TX4, ci_4, by decide, bw_of 535 (by decide +kernel) rfl, rfl, rfl⟩
abbrev MX4_init : MI := (RX4, cX4_init, 1, none, 4, none, "<init>")
noncomputable def X4_init (F : Nat)   (l0 : Nat)  (h : HP) : Option (Unit × HP) :=
  (xnw h 1 8).bind fun h1 =>
  xb (X1_init F (gn h1) h1) fun v2 h3 =>
  (xpP h3 (some l0) 4 12 0 (some (gn h1))).bind fun h4 =>
  (xgP h4 (some l0) 4 12 0).bind fun v5 =>
  (xgP h4 v5 1 8 0).bind fun v6 =>
  (xpP h4 (some l0) 4 12 1 v6).bind fun h7 =>
  (xnw h7 3 7).bind fun h8 =>
  xb (X3_init F (gn h8) h8) fun v9 h10 =>
  (xpP h10 (some l0) 4 12 2 (some (gn h8))).bind fun h11 =>
  (xnw h11 10 10).bind fun h12 =>
  xb (X10_init F (gn h12) h12) fun v13 h14 =>
  (xpP h14 (some l0) 4 12 3 (some (gn h12))).bind fun h15 =>
  (xnw h15 0 10).bind fun h16 =>
  xb (X0_init F (gn h16) h16) fun v17 h18 =>
  (xpP h18 (some l0) 4 12 4 (some (gn h16))).bind fun h19 =>
  (xnw h19 5 6).bind fun h20 =>
  xb (X5_init F (gn h20) h20) fun v21 h22 =>
  (xpP h22 (some l0) 4 12 5 (some (gn h20))).bind fun h23 =>
  (xpI h23 (some l0) 4 12 10 (-1)).bind fun h24 =>
  some ((), h24)
set_option maxRecDepth 100000 in
theorem SX4_init {K : Ctx} {F : Nat} {r : Unit} {hf : HP}     (l0 : Nat)  (h : HP) (E : X4_init F   l0 h = some (r, hf)) : Go K MX4_init (QM K none hf) hf 0 [(0, vr (some l0))] [] h := by
  unfold X4_init at E
  refine go_aload_n (j := 0) (n := 1) rfl rfl dX4_init_0 rfl ?_
  refine go_objInit (n := 4) wml_RX4_3 w_oinit ⟨_, rfl⟩ (Nat.le_of_ble_eq_true rfl) (Nat.le_of_ble_eq_true rfl) dX4_init_1 rfl ?_
  refine go_aload_n (j := 0) (n := 5) rfl rfl dX4_init_4 rfl ?_
  replace E := Option.bind_eq_some_iff.mp E; obtain ⟨h1, eh1, E⟩ := E
  refine go_new (n := 8) eh1 nl_RX4_9 dX4_init_5 rfl ?_
  refine go_dup (n := 9) rfl dX4_init_8 rfl ?_
  replace E := xb_some E; obtain ⟨v2, h3, ev2, E⟩ := E
  refine go_callIN (host := "TeaNight") (y := yX1_init) (n := 12) (st := [vr (some (gn h1)), vr (some l0)]) (as := []) (OX1_init ev2) yw_X1_init (by decide +kernel) wim_X1_init rfl (Nat.le_of_ble_eq_true rfl) rfl ⟨Nat.le_of_ble_eq_true rfl, Nat.le_of_ble_eq_true rfl⟩ (Nat.le_of_ble_eq_true rfl) dX4_init_9 rfl rfl ?_
  replace E := Option.bind_eq_some_iff.mp E; obtain ⟨h4, eh4, E⟩ := E
  refine go_putFP (n := 15) eh4 ff_RX4_12 rfl rfl dX4_init_12 rfl ?_
  refine go_aload_n (j := 0) (n := 16) rfl rfl dX4_init_15 rfl ?_
  refine go_aload_n (j := 0) (n := 17) rfl rfl dX4_init_16 rfl ?_
  replace E := Option.bind_eq_some_iff.mp E; obtain ⟨v5, ev5, E⟩ := E
  refine go_getP (n := 20) ev5 fl_RX4_12 rfl dX4_init_17 rfl ?_
  replace E := Option.bind_eq_some_iff.mp E; obtain ⟨v6, ev6, E⟩ := E
  refine go_getP (n := 23) ev6 fl_RX4_18 rfl dX4_init_20 rfl ?_
  replace E := Option.bind_eq_some_iff.mp E; obtain ⟨h7, eh7, E⟩ := E
  refine go_putFP (n := 26) eh7 ff_RX4_22 rfl rfl dX4_init_23 rfl ?_
  refine go_aload_n (j := 0) (n := 27) rfl rfl dX4_init_26 rfl ?_
  replace E := Option.bind_eq_some_iff.mp E; obtain ⟨h8, eh8, E⟩ := E
  refine go_new (n := 30) eh8 nl_RX4_23 dX4_init_27 rfl ?_
  refine go_dup (n := 31) rfl dX4_init_30 rfl ?_
  replace E := xb_some E; obtain ⟨v9, h10, ev9, E⟩ := E
  refine go_callI (y := yX3_init) (n := 34) (st := [vr (some (gn h8)), vr (some l0)]) (as := []) (OX3_init ev9) yw_X3_init wml_RX4_25 wim_X3_init rfl (Nat.le_of_ble_eq_true rfl) rfl ⟨Nat.le_of_ble_eq_true rfl, Nat.le_of_ble_eq_true rfl⟩ (Nat.le_of_ble_eq_true rfl) dX4_init_31 rfl rfl ?_
  replace E := Option.bind_eq_some_iff.mp E; obtain ⟨h11, eh11, E⟩ := E
  refine go_putFP (n := 37) eh11 ff_RX4_26 rfl rfl dX4_init_34 rfl ?_
  refine go_aload_n (j := 0) (n := 38) rfl rfl dX4_init_37 rfl ?_
  replace E := Option.bind_eq_some_iff.mp E; obtain ⟨h12, eh12, E⟩ := E
  refine go_new (n := 41) eh12 nl_RX4_30 dX4_init_38 rfl ?_
  refine go_dup (n := 42) rfl dX4_init_41 rfl ?_
  replace E := xb_some E; obtain ⟨v13, h14, ev13, E⟩ := E
  refine go_callIN (host := "TeaNight") (y := yX10_init) (n := 45) (st := [vr (some (gn h12)), vr (some l0)]) (as := []) (OX10_init ev13) yw_X10_init (by decide +kernel) wim_X10_init rfl (Nat.le_of_ble_eq_true rfl) rfl ⟨Nat.le_of_ble_eq_true rfl, Nat.le_of_ble_eq_true rfl⟩ (Nat.le_of_ble_eq_true rfl) dX4_init_42 rfl rfl ?_
  replace E := Option.bind_eq_some_iff.mp E; obtain ⟨h15, eh15, E⟩ := E
  refine go_putFP (n := 48) eh15 ff_RX4_33 rfl rfl dX4_init_45 rfl ?_
  refine go_aload_n (j := 0) (n := 49) rfl rfl dX4_init_48 rfl ?_
  replace E := Option.bind_eq_some_iff.mp E; obtain ⟨h16, eh16, E⟩ := E
  refine go_new (n := 52) eh16 nl_RX4_37 dX4_init_49 rfl ?_
  refine go_dup (n := 53) rfl dX4_init_52 rfl ?_
  replace E := xb_some E; obtain ⟨v17, h18, ev17, E⟩ := E
  refine go_callI (y := yX0_init) (n := 56) (st := [vr (some (gn h16)), vr (some l0)]) (as := []) (OX0_init ev17) yw_X0_init wml_RX4_39 wim_X0_init rfl (Nat.le_of_ble_eq_true rfl) rfl ⟨Nat.le_of_ble_eq_true rfl, Nat.le_of_ble_eq_true rfl⟩ (Nat.le_of_ble_eq_true rfl) dX4_init_53 rfl rfl ?_
  replace E := Option.bind_eq_some_iff.mp E; obtain ⟨h19, eh19, E⟩ := E
  refine go_putFP (n := 59) eh19 ff_RX4_40 rfl rfl dX4_init_56 rfl ?_
  refine go_aload_n (j := 0) (n := 60) rfl rfl dX4_init_59 rfl ?_
  replace E := Option.bind_eq_some_iff.mp E; obtain ⟨h20, eh20, E⟩ := E
  refine go_new (n := 63) eh20 nl_RX4_44 dX4_init_60 rfl ?_
  refine go_dup (n := 64) rfl dX4_init_63 rfl ?_
  replace E := xb_some E; obtain ⟨v21, h22, ev21, E⟩ := E
  refine go_callIN (host := "TeaNight") (y := yX5_init) (n := 67) (st := [vr (some (gn h20)), vr (some l0)]) (as := []) (OX5_init ev21) yw_X5_init (by decide +kernel) wim_X5_init rfl (Nat.le_of_ble_eq_true rfl) rfl ⟨Nat.le_of_ble_eq_true rfl, Nat.le_of_ble_eq_true rfl⟩ (Nat.le_of_ble_eq_true rfl) dX4_init_64 rfl rfl ?_
  replace E := Option.bind_eq_some_iff.mp E; obtain ⟨h23, eh23, E⟩ := E
  refine go_putFP (n := 70) eh23 ff_RX4_47 rfl rfl dX4_init_67 rfl ?_
  refine go_aload_n (j := 0) (n := 71) rfl rfl dX4_init_70 rfl ?_
  refine go_iconst (z := (-1)) (n := 72) ⟨by decide, by decide⟩ dX4_init_71 rfl ?_
  replace E := Option.bind_eq_some_iff.mp E; obtain ⟨h24, eh24, E⟩ := E
  refine go_putI (n := 75) eh24 fl_RX4_51 rfl dX4_init_72 rfl ?_
  cases E
  exact go_return rfl dX4_init_75
theorem OX4_init {F : Nat} {l0 : Nat} {h hf : HP} {r : Unit} (e : X4_init F l0 h = some (r, hf)) : Ok MX4_init [vr (some l0)] none h hf := fun K _ _ _ => SX4_init l0 h e
theorem wml_RX6_3 : Cond.methodLink RX6 3 objectInit ∈ BW := bw_of 569 (by decide +kernel) rfl
theorem ff_RX6_9 : FLF RX6 9 6 15 0 := ⟨TX6, ci_6, by decide, bw_of 570 (by decide +kernel) rfl, rfl, rfl⟩
theorem ff_RX6_15 : FLF RX6 15 6 15 1 := ⟨TX6, ci_6, by decide, bw_of 571 (by decide +kernel) rfl, rfl, rfl⟩
theorem ff_RX6_18 : FLF RX6 18 6 15 2 := ⟨TX6, ci_6, by decide, bw_of 572 (by decide +kernel) rfl, rfl, rfl⟩
theorem ff_RX6_21 : FLF RX6 21 6 15 3 := ⟨TX6, ci_6, by decide, bw_of 573 (by decide +kernel) rfl, rfl, rfl⟩
theorem ff_RX6_24 : FLF RX6 24 6 15 4 := ⟨TX6, ci_6, by decide, bw_of 574 (by decide +kernel) rfl, rfl, rfl⟩
theorem ff_RX6_27 : FLF RX6 27 6 15 5 := ⟨TX6, ci_6, by decide, bw_of 575 (by decide +kernel) rfl, rfl, rfl⟩
theorem ff_RX6_30 : FLF RX6 30 6 15 6 := ⟨TX6, ci_6, by decide, bw_of 576 (by decide +kernel) rfl, rfl, rfl⟩
theorem ff_RX6_33 : FLF RX6 33 6 15 7 := ⟨TX6, ci_6, by decide, bw_of 577 (by decide +kernel) rfl, rfl, rfl⟩
theorem ff_RX6_36 : FLF RX6 36 6 15 8 := ⟨TX6, ci_6, by decide, bw_of 578 (by decide +kernel) rfl, rfl, rfl⟩
abbrev MX6_init : MI := (RX6, cX6_init, 1, none, 2, none, "<init>")
noncomputable def X6_init (F : Nat)   (l0 : Nat)  (h : HP) : Option (Unit × HP) :=
  (xna h 100 7).bind fun h1 =>
  (xpP h1 (some l0) 6 15 0 (some (gn h1))).bind fun h2 =>
  (xna h2 100 7).bind fun h3 =>
  (xpP h3 (some l0) 6 15 1 (some (gn h3))).bind fun h4 =>
  (xna h4 100 7).bind fun h5 =>
  (xpP h5 (some l0) 6 15 2 (some (gn h5))).bind fun h6 =>
  (xna h6 100 8).bind fun h7 =>
  (xpP h7 (some l0) 6 15 3 (some (gn h7))).bind fun h8 =>
  (xna h8 100 8).bind fun h9 =>
  (xpP h9 (some l0) 6 15 4 (some (gn h9))).bind fun h10 =>
  (xna h10 100 8).bind fun h11 =>
  (xpP h11 (some l0) 6 15 5 (some (gn h11))).bind fun h12 =>
  (xna h12 100 8).bind fun h13 =>
  (xpP h13 (some l0) 6 15 6 (some (gn h13))).bind fun h14 =>
  (xna h14 100 8).bind fun h15 =>
  (xpP h15 (some l0) 6 15 7 (some (gn h15))).bind fun h16 =>
  (xna h16 100 8).bind fun h17 =>
  (xpP h17 (some l0) 6 15 8 (some (gn h17))).bind fun h18 =>
  some ((), h18)
set_option maxRecDepth 100000 in
theorem SX6_init {K : Ctx} {F : Nat} {r : Unit} {hf : HP}     (l0 : Nat)  (h : HP) (E : X6_init F   l0 h = some (r, hf)) : Go K MX6_init (QM K none hf) hf 0 [(0, vr (some l0))] [] h := by
  unfold X6_init at E
  refine go_aload_n (j := 0) (n := 1) rfl rfl dX6_init_0 rfl ?_
  refine go_objInit (n := 4) wml_RX6_3 w_oinit ⟨_, rfl⟩ (Nat.le_of_ble_eq_true rfl) (Nat.le_of_ble_eq_true rfl) dX6_init_1 rfl ?_
  refine go_aload_n (j := 0) (n := 5) rfl rfl dX6_init_4 rfl ?_
  refine go_bipush (z := 7) (n := 7) ⟨by decide, by decide⟩ dX6_init_5 rfl ?_
  replace E := Option.bind_eq_some_iff.mp E; obtain ⟨h1, eh1, E⟩ := E
  refine go_newI (n := 9) eh1 dX6_init_7 rfl wa_int ?_
  replace E := Option.bind_eq_some_iff.mp E; obtain ⟨h2, eh2, E⟩ := E
  refine go_putFP (n := 12) eh2 ff_RX6_9 rfl rfl dX6_init_9 rfl ?_
  refine go_aload_n (j := 0) (n := 13) rfl rfl dX6_init_12 rfl ?_
  refine go_bipush (z := 7) (n := 15) ⟨by decide, by decide⟩ dX6_init_13 rfl ?_
  replace E := Option.bind_eq_some_iff.mp E; obtain ⟨h3, eh3, E⟩ := E
  refine go_newI (n := 17) eh3 dX6_init_15 rfl wa_int ?_
  replace E := Option.bind_eq_some_iff.mp E; obtain ⟨h4, eh4, E⟩ := E
  refine go_putFP (n := 20) eh4 ff_RX6_15 rfl rfl dX6_init_17 rfl ?_
  refine go_aload_n (j := 0) (n := 21) rfl rfl dX6_init_20 rfl ?_
  refine go_bipush (z := 7) (n := 23) ⟨by decide, by decide⟩ dX6_init_21 rfl ?_
  replace E := Option.bind_eq_some_iff.mp E; obtain ⟨h5, eh5, E⟩ := E
  refine go_newI (n := 25) eh5 dX6_init_23 rfl wa_int ?_
  replace E := Option.bind_eq_some_iff.mp E; obtain ⟨h6, eh6, E⟩ := E
  refine go_putFP (n := 28) eh6 ff_RX6_18 rfl rfl dX6_init_25 rfl ?_
  refine go_aload_n (j := 0) (n := 29) rfl rfl dX6_init_28 rfl ?_
  refine go_bipush (z := 8) (n := 31) ⟨by decide, by decide⟩ dX6_init_29 rfl ?_
  replace E := Option.bind_eq_some_iff.mp E; obtain ⟨h7, eh7, E⟩ := E
  refine go_newI (n := 33) eh7 dX6_init_31 rfl wa_int ?_
  replace E := Option.bind_eq_some_iff.mp E; obtain ⟨h8, eh8, E⟩ := E
  refine go_putFP (n := 36) eh8 ff_RX6_21 rfl rfl dX6_init_33 rfl ?_
  refine go_aload_n (j := 0) (n := 37) rfl rfl dX6_init_36 rfl ?_
  refine go_bipush (z := 8) (n := 39) ⟨by decide, by decide⟩ dX6_init_37 rfl ?_
  replace E := Option.bind_eq_some_iff.mp E; obtain ⟨h9, eh9, E⟩ := E
  refine go_newI (n := 41) eh9 dX6_init_39 rfl wa_int ?_
  replace E := Option.bind_eq_some_iff.mp E; obtain ⟨h10, eh10, E⟩ := E
  refine go_putFP (n := 44) eh10 ff_RX6_24 rfl rfl dX6_init_41 rfl ?_
  refine go_aload_n (j := 0) (n := 45) rfl rfl dX6_init_44 rfl ?_
  refine go_bipush (z := 8) (n := 47) ⟨by decide, by decide⟩ dX6_init_45 rfl ?_
  replace E := Option.bind_eq_some_iff.mp E; obtain ⟨h11, eh11, E⟩ := E
  refine go_newI (n := 49) eh11 dX6_init_47 rfl wa_int ?_
  replace E := Option.bind_eq_some_iff.mp E; obtain ⟨h12, eh12, E⟩ := E
  refine go_putFP (n := 52) eh12 ff_RX6_27 rfl rfl dX6_init_49 rfl ?_
  refine go_aload_n (j := 0) (n := 53) rfl rfl dX6_init_52 rfl ?_
  refine go_bipush (z := 8) (n := 55) ⟨by decide, by decide⟩ dX6_init_53 rfl ?_
  replace E := Option.bind_eq_some_iff.mp E; obtain ⟨h13, eh13, E⟩ := E
  refine go_newI (n := 57) eh13 dX6_init_55 rfl wa_int ?_
  replace E := Option.bind_eq_some_iff.mp E; obtain ⟨h14, eh14, E⟩ := E
  refine go_putFP (n := 60) eh14 ff_RX6_30 rfl rfl dX6_init_57 rfl ?_
  refine go_aload_n (j := 0) (n := 61) rfl rfl dX6_init_60 rfl ?_
  refine go_bipush (z := 8) (n := 63) ⟨by decide, by decide⟩ dX6_init_61 rfl ?_
  replace E := Option.bind_eq_some_iff.mp E; obtain ⟨h15, eh15, E⟩ := E
  refine go_newI (n := 65) eh15 dX6_init_63 rfl wa_int ?_
  replace E := Option.bind_eq_some_iff.mp E; obtain ⟨h16, eh16, E⟩ := E
  refine go_putFP (n := 68) eh16 ff_RX6_33 rfl rfl dX6_init_65 rfl ?_
  refine go_aload_n (j := 0) (n := 69) rfl rfl dX6_init_68 rfl ?_
  refine go_bipush (z := 8) (n := 71) ⟨by decide, by decide⟩ dX6_init_69 rfl ?_
  replace E := Option.bind_eq_some_iff.mp E; obtain ⟨h17, eh17, E⟩ := E
  refine go_newI (n := 73) eh17 dX6_init_71 rfl wa_int ?_
  replace E := Option.bind_eq_some_iff.mp E; obtain ⟨h18, eh18, E⟩ := E
  refine go_putFP (n := 76) eh18 ff_RX6_36 rfl rfl dX6_init_73 rfl ?_
  cases E
  exact go_return rfl dX6_init_76
theorem OX6_init {F : Nat} {l0 : Nat} {h hf : HP} {r : Unit} (e : X6_init F l0 h = some (r, hf)) : Ok MX6_init [vr (some l0)] none h hf := fun K _ _ _ => SX6_init l0 h e
theorem wml_RX11_3 : Cond.methodLink RX11 3 objectInit ∈ BW := bw_of 150 (by decide +kernel) rfl
theorem nl_RX11_9 : NL RX11 9 8 17 := ⟨RX8, TX8, ci_8, bw_of 153 (by decide +kernel) rfl, bw_of 154 (by decide +kernel) rfl, bw_of 118 (by decide +kernel) rfl, by decide +kernel⟩
theorem yw_X8_init : YW yX8_init cX8_init 1 none 0 := ⟨bw_of 157 (by decide +kernel) rfl, bw_of 118 (by decide +kernel) rfl, ⟨by decide +kernel, by decide +kernel, by decide +kernel⟩, by decide +kernel⟩
theorem wim_X8_init : Cond.instanceMethod yX8_init ∈ BW := bw_of 156 (by decide +kernel) rfl
theorem ff_RX11_12 : FLF RX11 12 11 6 0 := ⟨TX11, ci_11, by decide, bw_of 616 (by decide +kernel) rfl, rfl, rfl⟩
theorem fl_RX11_16 : FL RX11 16 11 6 1 false := ⟨RX11, TX11, ci_11, by decide, bw_of 617 (by decide +kernel) rfl, rfl, rfl⟩
theorem nl_RX11_20 : NL RX11 20 4 12 := ⟨RX4, TX4, ci_4, bw_of 214 (by decide +kernel) rfl, bw_of 215 (by decide +kernel) rfl, bw_of 119 (by decide +kernel) rfl, by decide +kernel⟩
theorem yw_X4_init : YW yX4_init cX4_init 1 none 0 := ⟨bw_of 218 (by decide +kernel) rfl, bw_of 119 (by decide +kernel) rfl, ⟨by decide +kernel, by decide +kernel, by decide +kernel⟩, by decide +kernel⟩
theorem wim_X4_init : Cond.instanceMethod yX4_init ∈ BW := bw_of 217 (by decide +kernel) rfl
theorem ff_RX11_23 : FLF RX11 23 11 6 2 := ⟨TX11, ci_11, by decide, bw_of 618 (by decide +kernel) rfl, rfl, rfl⟩
theorem ff_RX11_27 : FLF RX11 27 11 6 3 := ⟨TX11, ci_11, by decide, bw_of 619 (by decide +kernel) rfl, rfl, rfl⟩
theorem nl_RX11_30 : NL RX11 30 6 15 := ⟨RX6, TX6, ci_6, bw_of 564 (by decide +kernel) rfl, bw_of 565 (by decide +kernel) rfl, bw_of 128 (by decide +kernel) rfl, by decide +kernel⟩
theorem yw_X6_init : YW yX6_init cX6_init 1 none 0 := ⟨bw_of 568 (by decide +kernel) rfl, bw_of 128 (by decide +kernel) rfl, ⟨by decide +kernel, by decide +kernel, by decide +kernel⟩, by decide +kernel⟩
theorem wim_X6_init : Cond.instanceMethod yX6_init ∈ BW := bw_of 567 (by decide +kernel) rfl
theorem ff_RX11_33 : FLF RX11 33 11 6 5 := ⟨TX11, ci_11, by decide, bw_of 621 (by decide +kernel) rfl, rfl, rfl⟩
abbrev MX11_init : MI := (RX11, cX11_init, 1, none, 5, none, "<init>")
noncomputable def X11_init (F : Nat)   (l0 : Nat)  (h : HP) : Option (Unit × HP) :=
  (xnw h 8 17).bind fun h1 =>
  xb (X8_init F (gn h1) h1) fun v2 h3 =>
  (xpP h3 (some l0) 11 6 0 (some (gn h1))).bind fun h4 =>
  (xpI h4 (some l0) 11 6 1 (-1)).bind fun h5 =>
  (xnw h5 4 12).bind fun h6 =>
  xb (X4_init F (gn h6) h6) fun v7 h8 =>
  (xpP h8 (some l0) 11 6 2 (some (gn h6))).bind fun h9 =>
  (xnw h9 4 12).bind fun h10 =>
  xb (X4_init F (gn h10) h10) fun v11 h12 =>
  (xpP h12 (some l0) 11 6 3 (some (gn h10))).bind fun h13 =>
  (xnw h13 6 15).bind fun h14 =>
  xb (X6_init F (gn h14) h14) fun v15 h16 =>
  (xpP h16 (some l0) 11 6 5 (some (gn h14))).bind fun h17 =>
  some ((), h17)
set_option maxRecDepth 100000 in
theorem SX11_init {K : Ctx} {F : Nat} {r : Unit} {hf : HP}     (l0 : Nat)  (h : HP) (E : X11_init F   l0 h = some (r, hf)) : Go K MX11_init (QM K none hf) hf 0 [(0, vr (some l0))] [] h := by
  unfold X11_init at E
  refine go_aload_n (j := 0) (n := 1) rfl rfl dX11_init_0 rfl ?_
  refine go_objInit (n := 4) wml_RX11_3 w_oinit ⟨_, rfl⟩ (Nat.le_of_ble_eq_true rfl) (Nat.le_of_ble_eq_true rfl) dX11_init_1 rfl ?_
  refine go_aload_n (j := 0) (n := 5) rfl rfl dX11_init_4 rfl ?_
  replace E := Option.bind_eq_some_iff.mp E; obtain ⟨h1, eh1, E⟩ := E
  refine go_new (n := 8) eh1 nl_RX11_9 dX11_init_5 rfl ?_
  refine go_dup (n := 9) rfl dX11_init_8 rfl ?_
  replace E := xb_some E; obtain ⟨v2, h3, ev2, E⟩ := E
  refine go_callIN (host := "TeaNight") (y := yX8_init) (n := 12) (st := [vr (some (gn h1)), vr (some l0)]) (as := []) (OX8_init ev2) yw_X8_init (by decide +kernel) wim_X8_init rfl (Nat.le_of_ble_eq_true rfl) rfl ⟨Nat.le_of_ble_eq_true rfl, Nat.le_of_ble_eq_true rfl⟩ (Nat.le_of_ble_eq_true rfl) dX11_init_9 rfl rfl ?_
  replace E := Option.bind_eq_some_iff.mp E; obtain ⟨h4, eh4, E⟩ := E
  refine go_putFP (n := 15) eh4 ff_RX11_12 rfl rfl dX11_init_12 rfl ?_
  refine go_aload_n (j := 0) (n := 16) rfl rfl dX11_init_15 rfl ?_
  refine go_iconst (z := (-1)) (n := 17) ⟨by decide, by decide⟩ dX11_init_16 rfl ?_
  replace E := Option.bind_eq_some_iff.mp E; obtain ⟨h5, eh5, E⟩ := E
  refine go_putI (n := 20) eh5 fl_RX11_16 rfl dX11_init_17 rfl ?_
  refine go_aload_n (j := 0) (n := 21) rfl rfl dX11_init_20 rfl ?_
  replace E := Option.bind_eq_some_iff.mp E; obtain ⟨h6, eh6, E⟩ := E
  refine go_new (n := 24) eh6 nl_RX11_20 dX11_init_21 rfl ?_
  refine go_dup (n := 25) rfl dX11_init_24 rfl ?_
  replace E := xb_some E; obtain ⟨v7, h8, ev7, E⟩ := E
  refine go_callIN (host := "TeaNight") (y := yX4_init) (n := 28) (st := [vr (some (gn h6)), vr (some l0)]) (as := []) (OX4_init ev7) yw_X4_init (by decide +kernel) wim_X4_init rfl (Nat.le_of_ble_eq_true rfl) rfl ⟨Nat.le_of_ble_eq_true rfl, Nat.le_of_ble_eq_true rfl⟩ (Nat.le_of_ble_eq_true rfl) dX11_init_25 rfl rfl ?_
  replace E := Option.bind_eq_some_iff.mp E; obtain ⟨h9, eh9, E⟩ := E
  refine go_putFP (n := 31) eh9 ff_RX11_23 rfl rfl dX11_init_28 rfl ?_
  refine go_aload_n (j := 0) (n := 32) rfl rfl dX11_init_31 rfl ?_
  replace E := Option.bind_eq_some_iff.mp E; obtain ⟨h10, eh10, E⟩ := E
  refine go_new (n := 35) eh10 nl_RX11_20 dX11_init_32 rfl ?_
  refine go_dup (n := 36) rfl dX11_init_35 rfl ?_
  replace E := xb_some E; obtain ⟨v11, h12, ev11, E⟩ := E
  refine go_callIN (host := "TeaNight") (y := yX4_init) (n := 39) (st := [vr (some (gn h10)), vr (some l0)]) (as := []) (OX4_init ev11) yw_X4_init (by decide +kernel) wim_X4_init rfl (Nat.le_of_ble_eq_true rfl) rfl ⟨Nat.le_of_ble_eq_true rfl, Nat.le_of_ble_eq_true rfl⟩ (Nat.le_of_ble_eq_true rfl) dX11_init_36 rfl rfl ?_
  replace E := Option.bind_eq_some_iff.mp E; obtain ⟨h13, eh13, E⟩ := E
  refine go_putFP (n := 42) eh13 ff_RX11_27 rfl rfl dX11_init_39 rfl ?_
  refine go_aload_n (j := 0) (n := 43) rfl rfl dX11_init_42 rfl ?_
  replace E := Option.bind_eq_some_iff.mp E; obtain ⟨h14, eh14, E⟩ := E
  refine go_new (n := 46) eh14 nl_RX11_30 dX11_init_43 rfl ?_
  refine go_dup (n := 47) rfl dX11_init_46 rfl ?_
  replace E := xb_some E; obtain ⟨v15, h16, ev15, E⟩ := E
  refine go_callIN (host := "TeaNight") (y := yX6_init) (n := 50) (st := [vr (some (gn h14)), vr (some l0)]) (as := []) (OX6_init ev15) yw_X6_init (by decide +kernel) wim_X6_init rfl (Nat.le_of_ble_eq_true rfl) rfl ⟨Nat.le_of_ble_eq_true rfl, Nat.le_of_ble_eq_true rfl⟩ (Nat.le_of_ble_eq_true rfl) dX11_init_47 rfl rfl ?_
  replace E := Option.bind_eq_some_iff.mp E; obtain ⟨h17, eh17, E⟩ := E
  refine go_putFP (n := 53) eh17 ff_RX11_33 rfl rfl dX11_init_50 rfl ?_
  cases E
  exact go_return rfl dX11_init_53
theorem OX11_init {F : Nat} {l0 : Nat} {h hf : HP} {r : Unit} (e : X11_init F l0 h = some (r, hf)) : Ok MX11_init [vr (some l0)] none h hf := fun K _ _ _ => SX11_init l0 h e
theorem xt_RX11_342_346 : XT RX11 342 346 "java/lang/IndexOutOfBoundsException" := ⟨by decide +kernel, bw_of 966 (by decide +kernel) rfl, bw_of 134 (by decide +kernel) rfl, by
  have q : ∀ w ∈ vx_atS RX11 346 "java/lang/IndexOutOfBoundsException" XN, (w ∈ lw_tbl ∧ goodWord w = true) ∨ w ∈ XWl := by decide +kernel
  exact fun w hw => (q w hw).imp (fun z => List.mem_filter.mpr z) id, by decide +kernel⟩
abbrev MX11_needPlace : MI := (RX11, cX11_needPlace, 2, none, 12, some [], "needPlace")
noncomputable def X11_needPlace_L9 (F : Nat)     (h : HP) : Option ((String ⊕ Unit) × HP) :=
  some (.inl "java/lang/IndexOutOfBoundsException", exc h)
set_option maxRecDepth 100000 in
theorem SX11_needPlace_L9 {K : Ctx} {F : Nat} {r : String ⊕ Unit} {hf : HP}       (h : HP) (E : X11_needPlace_L9 F    h = some (r, hf)) : Go K MX11_needPlace (QMX K (rU r) hf) hf 9 [] [] h := by
  unfold X11_needPlace_L9 at E
  cases E
  exact go_throwW (j := 19) xt_RX11_342_346 rfl rfl rfl (Nat.le_of_ble_eq_true rfl) dX11_needPlace_9 dX11_needPlace_12 dX11_needPlace_13 dX11_needPlace_16 dX11_needPlace_19 (Nat.le_of_ble_eq_true rfl)
noncomputable def X11_needPlace (F : Nat)   (l0 : Int) (l1 : Int)  (h : HP) : Option ((String ⊕ Unit) × HP) :=
  if l0 < 0 then
    X11_needPlace_L9 F h
  else
    if l0 < l1 then
      some (.inr (), h)
    else
      X11_needPlace_L9 F h
set_option maxRecDepth 100000 in
theorem SX11_needPlace {K : Ctx} {F : Nat} {r : String ⊕ Unit} {hf : HP}     (l0 : Int) (l1 : Int)  (h : HP) (E : X11_needPlace F   l0 l1 h = some (r, hf)) : Go K MX11_needPlace (QMX K (rU r) hf) hf 0 [(0, vi l0), (1, vi l1)] [] h := by
  unfold X11_needPlace at E
  refine go_iload_n (j := 0) (n := 1) rfl rfl dX11_needPlace_0 rfl ?_
  refine go_if_lt (tgt := 9) (n := 4) dX11_needPlace_1 rfl rfl (fun c1 => ?_) (fun c1 => ?_)
  · rw [if_pos c1] at E
    refine go_pick (lv' := []) [] rfl ?_
    exact SX11_needPlace_L9       _ E
  · rw [if_neg c1] at E
    refine go_iload_n (j := 0) (n := 5) rfl rfl dX11_needPlace_4 rfl ?_
    refine go_iload_n (j := 1) (n := 6) rfl rfl dX11_needPlace_5 rfl ?_
    refine go_icmp_lt (tgt := 20) (n := 9) dX11_needPlace_6 rfl rfl (fun c2 => ?_) (fun c2 => ?_)
    · rw [if_pos c2] at E
      cases E
      exact go_ret (go_return rfl dX11_needPlace_20)
    · rw [if_neg c2] at E
      refine go_pick (lv' := []) [] rfl ?_
      exact SX11_needPlace_L9       _ E
theorem OXX11_needPlace {F : Nat} {l0 : Int} {l1 : Int} {h hf : HP} {r : String ⊕ Unit} (e : X11_needPlace F l0 l1 h = some (r, hf)) : OkX MX11_needPlace [vi l0, vi l1] (rU r) h hf := fun K _ _ _ => SX11_needPlace l0 l1 h e
theorem fl_RX3_32 : FL RX3 32 3 7 6 true := ⟨RX3, TX3, ci_3, by decide, bw_of 394 (by decide +kernel) rfl, rfl, rfl⟩
abbrev MX3_at : MI := (RX3, cX3_at, 2, (some (.object "TeaNight$Job")), 2, none, "at")
noncomputable def X3_at_L28 (F : Nat)   (l0 : Nat)  (h : HP) : Option (Option Nat × HP) :=
  (xgP h (some l0) 3 7 6).bind fun v1 =>
  some (v1, h)
set_option maxRecDepth 100000 in
theorem SX3_at_L28 {K : Ctx} {F : Nat} {r : Option Nat} {hf : HP}     (l0 : Nat)  (h : HP) (E : X3_at_L28 F   l0 h = some (r, hf)) : Go K MX3_at (QM K (some (vr r)) hf) hf 28 [(0, vr (some l0))] [] h := by
  unfold X3_at_L28 at E
  refine go_aload_n (j := 0) (n := 29) rfl rfl dX3_at_28 rfl ?_
  replace E := Option.bind_eq_some_iff.mp E; obtain ⟨v1, ev1, E⟩ := E
  refine go_getP (n := 32) ev1 fl_RX3_32 rfl dX3_at_29 rfl ?_
  cases E
  exact go_areturn (rt := (.object "TeaNight$Job")) rfl (by first | exact Or.inl ⟨_, rfl⟩ | exact Or.inr ⟨_, rfl⟩) dX3_at_32
noncomputable def X3_at (F : Nat)   (l0 : Nat) (l1 : Int)  (h : HP) : Option (Option Nat × HP) :=
  if l1 < 0 then
    X3_at_L28 F l0 h
  else
    if 12 ≤ l1 then
      X3_at_L28 F l0 h
    else
      (xgP h (some l0) 3 7 0).bind fun v3 =>
      (xaP h v3 l1).bind fun v4 =>
      if v4 = none then
        X3_at_L28 F l0 h
      else
        (xgP h (some l0) 3 7 0).bind fun v6 =>
        (xaP h v6 l1).bind fun v7 =>
        some (v7, h)
set_option maxRecDepth 100000 in
theorem SX3_at {K : Ctx} {F : Nat} {r : Option Nat} {hf : HP}     (l0 : Nat) (l1 : Int)  (h : HP) (E : X3_at F   l0 l1 h = some (r, hf)) : Go K MX3_at (QM K (some (vr r)) hf) hf 0 [(0, vr (some l0)), (1, vi l1)] [] h := by
  unfold X3_at at E
  refine go_iload_n (j := 1) (n := 1) rfl rfl dX3_at_0 rfl ?_
  refine go_if_lt (tgt := 28) (n := 4) dX3_at_1 rfl rfl (fun c1 => ?_) (fun c1 => ?_)
  · rw [if_pos c1] at E
    refine go_pick (lv' := [(0, vr (some l0))]) [0] rfl ?_
    exact SX3_at_L28     _  _ E
  · rw [if_neg c1] at E
    refine go_iload_n (j := 1) (n := 5) rfl rfl dX3_at_4 rfl ?_
    refine go_bipush (z := 12) (n := 7) ⟨by decide, by decide⟩ dX3_at_5 rfl ?_
    refine go_icmp_ge (tgt := 28) (n := 10) dX3_at_7 rfl rfl (fun c2 => ?_) (fun c2 => ?_)
    · rw [if_pos c2] at E
      refine go_pick (lv' := [(0, vr (some l0))]) [0] rfl ?_
      exact SX3_at_L28     _  _ E
    · rw [if_neg c2] at E
      refine go_aload_n (j := 0) (n := 11) rfl rfl dX3_at_10 rfl ?_
      replace E := Option.bind_eq_some_iff.mp E; obtain ⟨v3, ev3, E⟩ := E
      refine go_getP (n := 14) ev3 fl_RX3_11 rfl dX3_at_11 rfl ?_
      refine go_iload_n (j := 1) (n := 15) rfl rfl dX3_at_14 rfl ?_
      replace E := Option.bind_eq_some_iff.mp E; obtain ⟨v4, ev4, E⟩ := E
      refine go_aaload (n := 16) ev4 dX3_at_15 rfl ?_
      refine go_ifnull (tgt := 28) (n := 19) dX3_at_16 rfl rfl (fun c5 => ?_) (fun c5 => ?_)
      · rw [if_pos c5] at E
        refine go_pick (lv' := [(0, vr (some l0))]) [0] rfl ?_
        exact SX3_at_L28     _  _ E
      · rw [if_neg c5] at E
        refine go_aload_n (j := 0) (n := 20) rfl rfl dX3_at_19 rfl ?_
        replace E := Option.bind_eq_some_iff.mp E; obtain ⟨v6, ev6, E⟩ := E
        refine go_getP (n := 23) ev6 fl_RX3_11 rfl dX3_at_20 rfl ?_
        refine go_iload_n (j := 1) (n := 24) rfl rfl dX3_at_23 rfl ?_
        replace E := Option.bind_eq_some_iff.mp E; obtain ⟨v7, ev7, E⟩ := E
        refine go_aaload (n := 25) ev7 dX3_at_24 rfl ?_
        refine go_goto (tgt := 32) dX3_at_25 rfl ?_
        cases E
        exact go_areturn (rt := (.object "TeaNight$Job")) rfl (by first | exact Or.inl ⟨_, rfl⟩ | exact Or.inr ⟨_, rfl⟩) dX3_at_32
theorem OX3_at {F : Nat} {l0 : Nat} {l1 : Int} {h hf : HP} {r : Option Nat} (e : X3_at F l0 l1 h = some (r, hf)) : Ok MX3_at [vr (some l0), vi l1] (some (vr r)) h hf := fun K _ _ _ => SX3_at l0 l1 h e
theorem fl_RX11_23 : FL RX11 23 11 6 2 true := ⟨RX11, TX11, ci_11, by decide, bw_of 618 (by decide +kernel) rfl, rfl, rfl⟩
theorem fl_RX11_101 : FL RX11 101 4 12 2 true := ⟨RX4, TX4, ci_4, by decide, bw_of 520 (by decide +kernel) rfl, rfl, rfl⟩
theorem fl_RX11_105 : FL RX11 105 3 7 5 false := ⟨RX3, TX3, ci_3, by decide, bw_of 393 (by decide +kernel) rfl, rfl, rfl⟩
theorem yw_X11_needPlace : YW yX11_needPlace cX11_needPlace 2 none 2 := ⟨bw_of 965 (by decide +kernel) rfl, bw_of 117 (by decide +kernel) rfl, ⟨by decide +kernel, by decide +kernel, by decide +kernel⟩, by decide +kernel⟩
theorem wml_RX11_54 : Cond.methodLink RX11 54 yX11_needPlace ∈ BW := bw_of 963 (by decide +kernel) rfl
theorem wst_X11_needPlace : Cond.static yX11_needPlace ∈ BW := bw_of 964 (by decide +kernel) rfl
theorem yw_X3_at : YW yX3_at cX3_at 2 (some (.object "TeaNight$Job")) 1 := ⟨bw_of 662 (by decide +kernel) rfl, bw_of 122 (by decide +kernel) rfl, ⟨by decide +kernel, by decide +kernel, by decide +kernel⟩, by decide +kernel⟩
theorem wml_RX11_115 : Cond.methodLink RX11 115 yX3_at ∈ BW := bw_of 1285 (by decide +kernel) rfl
theorem wim_X3_at : Cond.instanceMethod yX3_at ∈ BW := bw_of 660 (by decide +kernel) rfl
theorem wse_X3_at : Cond.selects RX3 yX3_at yX3_at ∈ BW := bw_of 661 (by decide +kernel) rfl
theorem fl_RX11_154 : FL RX11 154 2 18 9 false := ⟨RX2, TX2, ci_2, by decide, bw_of 331 (by decide +kernel) rfl, rfl, rfl⟩
theorem fl_RX11_157 : FL RX11 157 2 18 13 false := ⟨RX2, TX2, ci_2, by decide, bw_of 341 (by decide +kernel) rfl, rfl, rfl⟩
abbrev MX11_again : MI := (RX11, cX11_again, 3, (some .boolean), 13, some [], "again")
noncomputable def X11_again (F : Nat)   (l0 : Nat) (l1 : Int)  (h : HP) : Option ((String ⊕ Int) × HP) :=
  (xgP h (some l0) 11 6 2).bind fun v1 =>
  (xgP h v1 4 12 2).bind fun v2 =>
  (xgI h v2 3 7 5).bind fun v3 =>
  xth (X11_needPlace F l1 v3 h) fun v4 h5 =>
  (xgP h5 (some l0) 11 6 2).bind fun v6 =>
  (xgP h5 v6 4 12 2).bind fun v7 =>
  (xrc h5 v7 3 7).bind fun a10 =>
  xb (X3_at F a10 l1 h5) fun v8 h9 =>
  (xgI h9 v8 2 18 9).bind fun v11 =>
  if v11 = 0 then
    some (.inr 0, h9)
  else
    (xgI h9 v8 2 18 9).bind fun v13 =>
    if v13 = 1 then
      some (.inr 0, h9)
    else
      (xpI h9 v8 2 18 9 0).bind fun h15 =>
      (xpI h15 v8 2 18 13 0).bind fun h16 =>
      some (.inr 1, h16)
set_option maxRecDepth 100000 in
theorem SX11_again {K : Ctx} {F : Nat} {r : String ⊕ Int} {hf : HP}     (l0 : Nat) (l1 : Int)  (h : HP) (E : X11_again F   l0 l1 h = some (r, hf)) : Go K MX11_again (QMX K (rI r) hf) hf 0 [(0, vr (some l0)), (1, vi l1)] [] h := by
  unfold X11_again at E
  refine go_iload_n (j := 1) (n := 1) rfl rfl dX11_again_0 rfl ?_
  refine go_aload_n (j := 0) (n := 2) rfl rfl dX11_again_1 rfl ?_
  replace E := Option.bind_eq_some_iff.mp E; obtain ⟨v1, ev1, E⟩ := E
  refine go_getP (n := 5) ev1 fl_RX11_23 rfl dX11_again_2 rfl ?_
  replace E := Option.bind_eq_some_iff.mp E; obtain ⟨v2, ev2, E⟩ := E
  refine go_getP (n := 8) ev2 fl_RX11_101 rfl dX11_again_5 rfl ?_
  replace E := Option.bind_eq_some_iff.mp E; obtain ⟨v3, ev3, E⟩ := E
  refine go_getI (n := 11) ev3 fl_RX11_105 rfl dX11_again_8 rfl ?_
  replace E := xth_some E; rcases E with ⟨x17, ev4, rfl⟩ | ⟨v4, h5, ev4, E⟩
  · exact go_callXSt (y := yX11_needPlace) (as := [vi l1, vi v3]) (st := []) (OXX11_needPlace ev4) yw_X11_needPlace wml_RX11_54 wst_X11_needPlace (Nat.le_of_ble_eq_true rfl) rfl ⟨Nat.le_of_ble_eq_true rfl, Nat.le_of_ble_eq_true rfl⟩ (Nat.le_of_ble_eq_true rfl) dX11_again_11 rfl rfl
  refine go_callXSr (y := yX11_needPlace) (n := 14) (st := []) (as := [vi l1, vi v3]) (stk9 := []) (OXX11_needPlace ev4) yw_X11_needPlace wml_RX11_54 wst_X11_needPlace (Nat.le_of_ble_eq_true rfl) rfl ⟨Nat.le_of_ble_eq_true rfl, Nat.le_of_ble_eq_true rfl⟩ (Nat.le_of_ble_eq_true rfl) dX11_again_11 rfl rfl rfl ?_
  refine go_aload_n (j := 0) (n := 15) rfl rfl dX11_again_14 rfl ?_
  replace E := Option.bind_eq_some_iff.mp E; obtain ⟨v6, ev6, E⟩ := E
  refine go_getP (n := 18) ev6 fl_RX11_23 rfl dX11_again_15 rfl ?_
  replace E := Option.bind_eq_some_iff.mp E; obtain ⟨v7, ev7, E⟩ := E
  refine go_getP (n := 21) ev7 fl_RX11_101 rfl dX11_again_18 rfl ?_
  refine go_iload_n (j := 1) (n := 22) rfl rfl dX11_again_21 rfl ?_
  replace E := Option.bind_eq_some_iff.mp E; obtain ⟨a10, ea10, E⟩ := E
  obtain ⟨fa10, ga10⟩ := xrc_some ea10
  replace E := xb_some E; obtain ⟨v8, h9, ev8, E⟩ := E
  refine go_callV (y := yX3_at) (n := 25) (st := []) (as := [vi l1]) (stk9 := [vr v8]) (OX3_at ev8) yw_X3_at ci_3 ga10 wml_RX11_115 wim_X3_at wse_X3_at (Nat.le_of_ble_eq_true rfl) rfl ⟨Nat.le_of_ble_eq_true rfl, Nat.le_of_ble_eq_true rfl⟩ (Nat.le_of_ble_eq_true rfl) dX11_again_22 rfl (by cases fa10; rfl) rfl ?_
  refine go_astore_n (n := 26) (lv' := [(2, vr v8), (0, vr (some l0)), (1, vi l1)]) rfl dX11_again_25 rfl (Nat.le_of_ble_eq_true rfl) rfl ?_
  refine go_aload_n (j := 0) (n := 27) rfl rfl dX11_again_26 rfl ?_
  replace E := Option.bind_eq_some_iff.mp E; obtain ⟨v11, ev11, E⟩ := E
  refine go_getI (n := 30) ev11 fl_RX11_154 rfl dX11_again_27 rfl ?_
  refine go_if_eq (tgt := 41) (n := 33) dX11_again_30 rfl rfl (fun c12 => ?_) (fun c12 => ?_)
  · rw [if_pos c12] at E
    refine go_iconst (z := 0) (n := 42) ⟨by decide, by decide⟩ dX11_again_41 rfl ?_
    cases E
    exact go_ret (go_zreturn rfl (Or.inl rfl) dX11_again_42)
  · rw [if_neg c12] at E
    refine go_aload_n (j := 0) (n := 34) rfl rfl dX11_again_33 rfl ?_
    replace E := Option.bind_eq_some_iff.mp E; obtain ⟨v13, ev13, E⟩ := E
    refine go_getI (n := 37) ev13 fl_RX11_154 rfl dX11_again_34 rfl ?_
    refine go_iconst (z := 1) (n := 38) ⟨by decide, by decide⟩ dX11_again_37 rfl ?_
    refine go_icmp_ne (tgt := 43) (n := 41) dX11_again_38 rfl rfl (fun c14 => ?_) (fun c14 => ?_)
    · rw [if_neg c14] at E
      refine go_aload_n (j := 0) (n := 44) rfl rfl dX11_again_43 rfl ?_
      refine go_iconst (z := 0) (n := 45) ⟨by decide, by decide⟩ dX11_again_44 rfl ?_
      replace E := Option.bind_eq_some_iff.mp E; obtain ⟨h15, eh15, E⟩ := E
      refine go_putI (n := 48) eh15 fl_RX11_154 rfl dX11_again_45 rfl ?_
      refine go_aload_n (j := 0) (n := 49) rfl rfl dX11_again_48 rfl ?_
      refine go_iconst (z := 0) (n := 50) ⟨by decide, by decide⟩ dX11_again_49 rfl ?_
      replace E := Option.bind_eq_some_iff.mp E; obtain ⟨h16, eh16, E⟩ := E
      refine go_putI (n := 53) eh16 fl_RX11_157 rfl dX11_again_50 rfl ?_
      refine go_iconst (z := 1) (n := 54) ⟨by decide, by decide⟩ dX11_again_53 rfl ?_
      cases E
      exact go_ret (go_zreturn rfl (Or.inr rfl) dX11_again_54)
    · rw [if_pos c14] at E
      refine go_iconst (z := 0) (n := 42) ⟨by decide, by decide⟩ dX11_again_41 rfl ?_
      cases E
      exact go_ret (go_zreturn rfl (Or.inl rfl) dX11_again_42)
theorem OXX11_again {F : Nat} {l0 : Nat} {l1 : Int} {h hf : HP} {r : String ⊕ Int} (e : X11_again F l0 l1 h = some (r, hf)) : OkX MX11_again [vr (some l0), vi l1] (rI r) h hf := fun K _ _ _ => SX11_again l0 l1 h e
theorem xt_RX11_94_98 : XT RX11 94 98 "java/lang/IllegalArgumentException" := ⟨by decide +kernel, bw_of 885 (by decide +kernel) rfl, bw_of 133 (by decide +kernel) rfl, by
  have q : ∀ w ∈ vx_atS RX11 98 "java/lang/IllegalArgumentException" XN, (w ∈ lw_tbl ∧ goodWord w = true) ∨ w ∈ XWl := by decide +kernel
  exact fun w hw => (q w hw).imp (fun z => List.mem_filter.mpr z) id, by decide +kernel⟩
abbrev MX11_needNumber : MI := (RX11, cX11_needNumber, 3, none, 12, some [], "needNumber")
noncomputable def X11_needNumber_L10 (F : Nat)     (h : HP) : Option ((String ⊕ Unit) × HP) :=
  some (.inl "java/lang/IllegalArgumentException", exc h)
set_option maxRecDepth 100000 in
theorem SX11_needNumber_L10 {K : Ctx} {F : Nat} {r : String ⊕ Unit} {hf : HP}       (h : HP) (E : X11_needNumber_L10 F    h = some (r, hf)) : Go K MX11_needNumber (QMX K (rU r) hf) hf 10 [] [] h := by
  unfold X11_needNumber_L10 at E
  cases E
  exact go_throwW (j := 18) xt_RX11_94_98 rfl rfl rfl (Nat.le_of_ble_eq_true rfl) dX11_needNumber_10 dX11_needNumber_13 dX11_needNumber_14 dX11_needNumber_17 dX11_needNumber_20 (Nat.le_of_ble_eq_true rfl)
noncomputable def X11_needNumber (F : Nat)   (l0 : Int) (l1 : Int) (l2 : Int)  (h : HP) : Option ((String ⊕ Unit) × HP) :=
  if l0 < l1 then
    X11_needNumber_L10 F h
  else
    if l0 ≤ l2 then
      some (.inr (), h)
    else
      X11_needNumber_L10 F h
set_option maxRecDepth 100000 in
theorem SX11_needNumber {K : Ctx} {F : Nat} {r : String ⊕ Unit} {hf : HP}     (l0 : Int) (l1 : Int) (l2 : Int)  (h : HP) (E : X11_needNumber F   l0 l1 l2 h = some (r, hf)) : Go K MX11_needNumber (QMX K (rU r) hf) hf 0 [(0, vi l0), (1, vi l1), (2, vi l2)] [] h := by
  unfold X11_needNumber at E
  refine go_iload_n (j := 0) (n := 1) rfl rfl dX11_needNumber_0 rfl ?_
  refine go_iload_n (j := 1) (n := 2) rfl rfl dX11_needNumber_1 rfl ?_
  refine go_icmp_lt (tgt := 10) (n := 5) dX11_needNumber_2 rfl rfl (fun c1 => ?_) (fun c1 => ?_)
  · rw [if_pos c1] at E
    refine go_pick (lv' := []) [] rfl ?_
    exact SX11_needNumber_L10       _ E
  · rw [if_neg c1] at E
    refine go_iload_n (j := 0) (n := 6) rfl rfl dX11_needNumber_5 rfl ?_
    refine go_iload_n (j := 2) (n := 7) rfl rfl dX11_needNumber_6 rfl ?_
    refine go_icmp_le (tgt := 21) (n := 10) dX11_needNumber_7 rfl rfl (fun c2 => ?_) (fun c2 => ?_)
    · rw [if_pos c2] at E
      cases E
      exact go_ret (go_return rfl dX11_needNumber_21)
    · rw [if_neg c2] at E
      refine go_pick (lv' := []) [] rfl ?_
      exact SX11_needNumber_L10       _ E
theorem OXX11_needNumber {F : Nat} {l0 : Int} {l1 : Int} {l2 : Int} {h hf : HP} {r : String ⊕ Unit} (e : X11_needNumber F l0 l1 l2 h = some (r, hf)) : OkX MX11_needNumber [vi l0, vi l1, vi l2] (rU r) h hf := fun K _ _ _ => SX11_needNumber l0 l1 l2 h e
theorem fl_RX5_9 : FL RX5 9 5 6 0 true := ⟨RX5, TX5, ci_5, by decide, bw_of 495 (by decide +kernel) rfl, rfl, rfl⟩
theorem fl_RX5_18 : FL RX5 18 5 6 2 true := ⟨RX5, TX5, ci_5, by decide, bw_of 497 (by decide +kernel) rfl, rfl, rfl⟩
theorem fl_RX5_21 : FL RX5 21 5 6 3 true := ⟨RX5, TX5, ci_5, by decide, bw_of 498 (by decide +kernel) rfl, rfl, rfl⟩
abbrev MX5_change : MI := (RX5, cX5_change, 4, (some .boolean), 2, none, "change")
noncomputable def X5_change (F : Nat)   (l0 : Nat) (l1 : Int) (l2 : Int) (l3 : Int)  (h : HP) : Option (Int × HP) :=
  if l1 < 0 then
    some (0, h)
  else
    if 20 ≤ l1 then
      some (0, h)
    else
      (xgP h (some l0) 5 6 0).bind fun v3 =>
      (xaI h v3 100 l1).bind fun v4 =>
      if v4 = l2 then
        some (0, h)
      else
        (xgP h (some l0) 5 6 0).bind fun v6 =>
        (xsI h v6 l1 l2).bind fun h7 =>
        (xgP h7 (some l0) 5 6 2).bind fun v8 =>
        (xsI h7 v8 l1 l3).bind fun h9 =>
        (xgP h9 (some l0) 5 6 3).bind fun v10 =>
        (xaI h9 v10 100 l1).bind fun v11 =>
        (xsI h9 v10 l1 (w32 (v11 + 1))).bind fun h12 =>
        some (1, h12)
set_option maxRecDepth 100000 in
theorem SX5_change {K : Ctx} {F : Nat} {r : Int} {hf : HP}     (l0 : Nat) (l1 : Int) (l2 : Int) (l3 : Int)  (h : HP) (E : X5_change F   l0 l1 l2 l3 h = some (r, hf)) : Go K MX5_change (QM K (some (vi r)) hf) hf 0 [(0, vr (some l0)), (1, vi l1), (2, vi l2), (3, vi l3)] [] h := by
  unfold X5_change at E
  refine go_iload_n (j := 1) (n := 1) rfl rfl dX5_change_0 rfl ?_
  refine go_if_lt (tgt := 20) (n := 4) dX5_change_1 rfl rfl (fun c1 => ?_) (fun c1 => ?_)
  · rw [if_pos c1] at E
    refine go_iconst (z := 0) (n := 21) ⟨by decide, by decide⟩ dX5_change_20 rfl ?_
    cases E
    exact go_zreturn rfl (Or.inl rfl) dX5_change_21
  · rw [if_neg c1] at E
    refine go_iload_n (j := 1) (n := 5) rfl rfl dX5_change_4 rfl ?_
    refine go_bipush (z := 20) (n := 7) ⟨by decide, by decide⟩ dX5_change_5 rfl ?_
    refine go_icmp_ge (tgt := 20) (n := 10) dX5_change_7 rfl rfl (fun c2 => ?_) (fun c2 => ?_)
    · rw [if_pos c2] at E
      refine go_iconst (z := 0) (n := 21) ⟨by decide, by decide⟩ dX5_change_20 rfl ?_
      cases E
      exact go_zreturn rfl (Or.inl rfl) dX5_change_21
    · rw [if_neg c2] at E
      refine go_aload_n (j := 0) (n := 11) rfl rfl dX5_change_10 rfl ?_
      replace E := Option.bind_eq_some_iff.mp E; obtain ⟨v3, ev3, E⟩ := E
      refine go_getP (n := 14) ev3 fl_RX5_9 rfl dX5_change_11 rfl ?_
      refine go_iload_n (j := 1) (n := 15) rfl rfl dX5_change_14 rfl ?_
      replace E := Option.bind_eq_some_iff.mp E; obtain ⟨v4, ev4, E⟩ := E
      refine go_iaload (n := 16) ev4 dX5_change_15 rfl ?_
      refine go_iload_n (j := 2) (n := 17) rfl rfl dX5_change_16 rfl ?_
      refine go_icmp_ne (tgt := 22) (n := 20) dX5_change_17 rfl rfl (fun c5 => ?_) (fun c5 => ?_)
      · rw [if_neg c5] at E
        refine go_aload_n (j := 0) (n := 23) rfl rfl dX5_change_22 rfl ?_
        replace E := Option.bind_eq_some_iff.mp E; obtain ⟨v6, ev6, E⟩ := E
        refine go_getP (n := 26) ev6 fl_RX5_9 rfl dX5_change_23 rfl ?_
        refine go_iload_n (j := 1) (n := 27) rfl rfl dX5_change_26 rfl ?_
        refine go_iload_n (j := 2) (n := 28) rfl rfl dX5_change_27 rfl ?_
        replace E := Option.bind_eq_some_iff.mp E; obtain ⟨h7, eh7, E⟩ := E
        refine go_iastore (n := 29) eh7 dX5_change_28 rfl ?_
        refine go_aload_n (j := 0) (n := 30) rfl rfl dX5_change_29 rfl ?_
        replace E := Option.bind_eq_some_iff.mp E; obtain ⟨v8, ev8, E⟩ := E
        refine go_getP (n := 33) ev8 fl_RX5_18 rfl dX5_change_30 rfl ?_
        refine go_iload_n (j := 1) (n := 34) rfl rfl dX5_change_33 rfl ?_
        refine go_iload_n (j := 3) (n := 35) rfl rfl dX5_change_34 rfl ?_
        replace E := Option.bind_eq_some_iff.mp E; obtain ⟨h9, eh9, E⟩ := E
        refine go_iastore (n := 36) eh9 dX5_change_35 rfl ?_
        refine go_aload_n (j := 0) (n := 37) rfl rfl dX5_change_36 rfl ?_
        replace E := Option.bind_eq_some_iff.mp E; obtain ⟨v10, ev10, E⟩ := E
        refine go_getP (n := 40) ev10 fl_RX5_21 rfl dX5_change_37 rfl ?_
        refine go_iload_n (j := 1) (n := 41) rfl rfl dX5_change_40 rfl ?_
        refine go_dup2 (n := 42) rfl rfl dX5_change_41 rfl ?_
        replace E := Option.bind_eq_some_iff.mp E; obtain ⟨v11, ev11, E⟩ := E
        refine go_iaload (n := 43) ev11 dX5_change_42 rfl ?_
        refine go_iconst (z := 1) (n := 44) ⟨by decide, by decide⟩ dX5_change_43 rfl ?_
        refine go_iadd (n := 45) dX5_change_44 rfl ?_
        replace E := Option.bind_eq_some_iff.mp E; obtain ⟨h12, eh12, E⟩ := E
        refine go_iastore (n := 46) eh12 dX5_change_45 rfl ?_
        refine go_iconst (z := 1) (n := 47) ⟨by decide, by decide⟩ dX5_change_46 rfl ?_
        cases E
        exact go_zreturn rfl (Or.inr rfl) dX5_change_47
      · rw [if_pos c5] at E
        refine go_iconst (z := 0) (n := 21) ⟨by decide, by decide⟩ dX5_change_20 rfl ?_
        cases E
        exact go_zreturn rfl (Or.inl rfl) dX5_change_21
theorem OX5_change {F : Nat} {l0 : Nat} {l1 : Int} {l2 : Int} {l3 : Int} {h hf : HP} {r : Int} (e : X5_change F l0 l1 l2 l3 h = some (r, hf)) : Ok MX5_change [vr (some l0), vi l1, vi l2, vi l3] (some (vi r)) h hf := fun K _ _ _ => SX5_change l0 l1 l2 l3 h e
theorem fl_RX11_256 : FL RX11 256 4 12 5 true := ⟨RX4, TX4, ci_4, by decide, bw_of 526 (by decide +kernel) rfl, rfl, rfl⟩
theorem fl_RX11_260 : FL RX11 260 5 6 4 false := ⟨RX5, TX5, ci_5, by decide, bw_of 500 (by decide +kernel) rfl, rfl, rfl⟩
theorem yw_X11_needNumber : YW yX11_needNumber cX11_needNumber 3 none 3 := ⟨bw_of 884 (by decide +kernel) rfl, bw_of 117 (by decide +kernel) rfl, ⟨by decide +kernel, by decide +kernel, by decide +kernel⟩, by decide +kernel⟩
theorem wml_RX11_44 : Cond.methodLink RX11 44 yX11_needNumber ∈ BW := bw_of 882 (by decide +kernel) rfl
theorem wst_X11_needNumber : Cond.static yX11_needNumber ∈ BW := bw_of 883 (by decide +kernel) rfl
theorem fl_RX11_268 : FL RX11 268 5 6 5 false := ⟨RX5, TX5, ci_5, by decide, bw_of 502 (by decide +kernel) rfl, rfl, rfl⟩
theorem yw_X5_change : YW yX5_change cX5_change 4 (some .boolean) 3 := ⟨bw_of 1666 (by decide +kernel) rfl, bw_of 127 (by decide +kernel) rfl, ⟨by decide +kernel, by decide +kernel, by decide +kernel⟩, by decide +kernel⟩
theorem wml_RX11_274 : Cond.methodLink RX11 274 yX5_change ∈ BW := bw_of 1663 (by decide +kernel) rfl
theorem wim_X5_change : Cond.instanceMethod yX5_change ∈ BW := bw_of 1664 (by decide +kernel) rfl
theorem wse_X5_change : Cond.selects RX5 yX5_change yX5_change ∈ BW := bw_of 1665 (by decide +kernel) rfl
theorem xt_RX11_170_174 : XT RX11 170 174 "java/lang/IllegalStateException" := ⟨by decide +kernel, bw_of 1364 (by decide +kernel) rfl, bw_of 143 (by decide +kernel) rfl, by
  have q : ∀ w ∈ vx_atS RX11 174 "java/lang/IllegalStateException" XN, (w ∈ lw_tbl ∧ goodWord w = true) ∨ w ∈ XWl := by decide +kernel
  exact fun w hw => (q w hw).imp (fun z => List.mem_filter.mpr z) id, by decide +kernel⟩
abbrev MX11_alter : MI := (RX11, cX11_alter, 4, (some .boolean), 13, some [], "alter")
noncomputable def X11_alter (F : Nat)   (l0 : Nat) (l1 : Int) (l2 : Int) (l3 : Int)  (h : HP) : Option ((String ⊕ Int) × HP) :=
  (xgP h (some l0) 11 6 2).bind fun v1 =>
  (xgP h v1 4 12 5).bind fun v2 =>
  (xgI h v2 5 6 4).bind fun v3 =>
  xth (X11_needPlace F l1 v3 h) fun v4 h5 =>
  xth (X11_needNumber F l2 0 99 h5) fun v6 h7 =>
  xth (X11_needNumber F l3 0 9 h7) fun v8 h9 =>
  (xgP h9 (some l0) 11 6 2).bind fun v10 =>
  (xgP h9 v10 4 12 5).bind fun v11 =>
  (xgI h9 v11 5 6 5).bind fun v12 =>
  if v12 = 0 then
    (xgP h9 (some l0) 11 6 2).bind fun v14 =>
    (xgP h9 v14 4 12 5).bind fun v15 =>
    (xrc h9 v15 5 6).bind fun a18 =>
    xb (X5_change F a18 l1 l2 l3 h9) fun v16 h17 =>
    xzX v16 h17
  else
    some (.inl "java/lang/IllegalStateException", exc h9)
set_option maxRecDepth 100000 in
theorem SX11_alter {K : Ctx} {F : Nat} {r : String ⊕ Int} {hf : HP}     (l0 : Nat) (l1 : Int) (l2 : Int) (l3 : Int)  (h : HP) (E : X11_alter F   l0 l1 l2 l3 h = some (r, hf)) : Go K MX11_alter (QMX K (rI r) hf) hf 0 [(0, vr (some l0)), (1, vi l1), (2, vi l2), (3, vi l3)] [] h := by
  unfold X11_alter at E
  refine go_iload_n (j := 1) (n := 1) rfl rfl dX11_alter_0 rfl ?_
  refine go_aload_n (j := 0) (n := 2) rfl rfl dX11_alter_1 rfl ?_
  replace E := Option.bind_eq_some_iff.mp E; obtain ⟨v1, ev1, E⟩ := E
  refine go_getP (n := 5) ev1 fl_RX11_23 rfl dX11_alter_2 rfl ?_
  replace E := Option.bind_eq_some_iff.mp E; obtain ⟨v2, ev2, E⟩ := E
  refine go_getP (n := 8) ev2 fl_RX11_256 rfl dX11_alter_5 rfl ?_
  replace E := Option.bind_eq_some_iff.mp E; obtain ⟨v3, ev3, E⟩ := E
  refine go_getI (n := 11) ev3 fl_RX11_260 rfl dX11_alter_8 rfl ?_
  replace E := xth_some E; rcases E with ⟨x22, ev4, rfl⟩ | ⟨v4, h5, ev4, E⟩
  · exact go_callXSt (y := yX11_needPlace) (as := [vi l1, vi v3]) (st := []) (OXX11_needPlace ev4) yw_X11_needPlace wml_RX11_54 wst_X11_needPlace (Nat.le_of_ble_eq_true rfl) rfl ⟨Nat.le_of_ble_eq_true rfl, Nat.le_of_ble_eq_true rfl⟩ (Nat.le_of_ble_eq_true rfl) dX11_alter_11 rfl rfl
  refine go_callXSr (y := yX11_needPlace) (n := 14) (st := []) (as := [vi l1, vi v3]) (stk9 := []) (OXX11_needPlace ev4) yw_X11_needPlace wml_RX11_54 wst_X11_needPlace (Nat.le_of_ble_eq_true rfl) rfl ⟨Nat.le_of_ble_eq_true rfl, Nat.le_of_ble_eq_true rfl⟩ (Nat.le_of_ble_eq_true rfl) dX11_alter_11 rfl rfl rfl ?_
  refine go_iload_n (j := 2) (n := 15) rfl rfl dX11_alter_14 rfl ?_
  refine go_iconst (z := 0) (n := 16) ⟨by decide, by decide⟩ dX11_alter_15 rfl ?_
  refine go_bipush (z := 99) (n := 18) ⟨by decide, by decide⟩ dX11_alter_16 rfl ?_
  replace E := xth_some E; rcases E with ⟨x21, ev6, rfl⟩ | ⟨v6, h7, ev6, E⟩
  · exact go_callXSt (y := yX11_needNumber) (as := [vi l2, vi 0, vi 99]) (st := []) (OXX11_needNumber ev6) yw_X11_needNumber wml_RX11_44 wst_X11_needNumber (Nat.le_of_ble_eq_true rfl) rfl ⟨Nat.le_of_ble_eq_true rfl, Nat.le_of_ble_eq_true rfl⟩ (Nat.le_of_ble_eq_true rfl) dX11_alter_18 rfl rfl
  refine go_callXSr (y := yX11_needNumber) (n := 21) (st := []) (as := [vi l2, vi 0, vi 99]) (stk9 := []) (OXX11_needNumber ev6) yw_X11_needNumber wml_RX11_44 wst_X11_needNumber (Nat.le_of_ble_eq_true rfl) rfl ⟨Nat.le_of_ble_eq_true rfl, Nat.le_of_ble_eq_true rfl⟩ (Nat.le_of_ble_eq_true rfl) dX11_alter_18 rfl rfl rfl ?_
  refine go_iload_n (j := 3) (n := 22) rfl rfl dX11_alter_21 rfl ?_
  refine go_iconst (z := 0) (n := 23) ⟨by decide, by decide⟩ dX11_alter_22 rfl ?_
  refine go_bipush (z := 9) (n := 25) ⟨by decide, by decide⟩ dX11_alter_23 rfl ?_
  replace E := xth_some E; rcases E with ⟨x20, ev8, rfl⟩ | ⟨v8, h9, ev8, E⟩
  · exact go_callXSt (y := yX11_needNumber) (as := [vi l3, vi 0, vi 9]) (st := []) (OXX11_needNumber ev8) yw_X11_needNumber wml_RX11_44 wst_X11_needNumber (Nat.le_of_ble_eq_true rfl) rfl ⟨Nat.le_of_ble_eq_true rfl, Nat.le_of_ble_eq_true rfl⟩ (Nat.le_of_ble_eq_true rfl) dX11_alter_25 rfl rfl
  refine go_callXSr (y := yX11_needNumber) (n := 28) (st := []) (as := [vi l3, vi 0, vi 9]) (stk9 := []) (OXX11_needNumber ev8) yw_X11_needNumber wml_RX11_44 wst_X11_needNumber (Nat.le_of_ble_eq_true rfl) rfl ⟨Nat.le_of_ble_eq_true rfl, Nat.le_of_ble_eq_true rfl⟩ (Nat.le_of_ble_eq_true rfl) dX11_alter_25 rfl rfl rfl ?_
  refine go_aload_n (j := 0) (n := 29) rfl rfl dX11_alter_28 rfl ?_
  replace E := Option.bind_eq_some_iff.mp E; obtain ⟨v10, ev10, E⟩ := E
  refine go_getP (n := 32) ev10 fl_RX11_23 rfl dX11_alter_29 rfl ?_
  replace E := Option.bind_eq_some_iff.mp E; obtain ⟨v11, ev11, E⟩ := E
  refine go_getP (n := 35) ev11 fl_RX11_256 rfl dX11_alter_32 rfl ?_
  replace E := Option.bind_eq_some_iff.mp E; obtain ⟨v12, ev12, E⟩ := E
  refine go_getI (n := 38) ev12 fl_RX11_268 rfl dX11_alter_35 rfl ?_
  refine go_if_eq (tgt := 52) (n := 41) dX11_alter_38 rfl rfl (fun c13 => ?_) (fun c13 => ?_)
  · rw [if_pos c13] at E
    refine go_aload_n (j := 0) (n := 53) rfl rfl dX11_alter_52 rfl ?_
    replace E := Option.bind_eq_some_iff.mp E; obtain ⟨v14, ev14, E⟩ := E
    refine go_getP (n := 56) ev14 fl_RX11_23 rfl dX11_alter_53 rfl ?_
    replace E := Option.bind_eq_some_iff.mp E; obtain ⟨v15, ev15, E⟩ := E
    refine go_getP (n := 59) ev15 fl_RX11_256 rfl dX11_alter_56 rfl ?_
    refine go_iload_n (j := 1) (n := 60) rfl rfl dX11_alter_59 rfl ?_
    refine go_iload_n (j := 2) (n := 61) rfl rfl dX11_alter_60 rfl ?_
    refine go_iload_n (j := 3) (n := 62) rfl rfl dX11_alter_61 rfl ?_
    replace E := Option.bind_eq_some_iff.mp E; obtain ⟨a18, ea18, E⟩ := E
    obtain ⟨fa18, ga18⟩ := xrc_some ea18
    replace E := xb_some E; obtain ⟨v16, h17, ev16, E⟩ := E
    refine go_callV (y := yX5_change) (n := 65) (st := []) (as := [vi l1, vi l2, vi l3]) (stk9 := [vi v16]) (OX5_change ev16) yw_X5_change ci_5 ga18 wml_RX11_274 wim_X5_change wse_X5_change (Nat.le_of_ble_eq_true rfl) rfl ⟨Nat.le_of_ble_eq_true rfl, Nat.le_of_ble_eq_true rfl⟩ (Nat.le_of_ble_eq_true rfl) dX11_alter_62 rfl (by cases fa18; rfl) rfl ?_
    unfold xzX at E
    split at E
    · next c19 =>
      cases E
      exact go_ret (go_zreturn rfl c19 dX11_alter_65)
    · cases E
  · rw [if_neg c13] at E
    cases E
    exact go_throwW (j := 26) xt_RX11_170_174 rfl rfl rfl (Nat.le_of_ble_eq_true rfl) dX11_alter_41 dX11_alter_44 dX11_alter_45 dX11_alter_48 dX11_alter_51 (Nat.le_of_ble_eq_true rfl)
theorem OXX11_alter {F : Nat} {l0 : Nat} {l1 : Int} {l2 : Int} {l3 : Int} {h hf : HP} {r : String ⊕ Int} (e : X11_alter F l0 l1 l2 l3 h = some (r, hf)) : OkX MX11_alter [vr (some l0), vi l1, vi l2, vi l3] (rI r) h hf := fun K _ _ _ => SX11_alter l0 l1 l2 l3 h e
abbrev MX7_wordIn : MI := (RX7, cX7_wordIn, 1, (some .int), 2, none, "wordIn")
noncomputable def X7_wordIn (F : Nat)   (l0 : Int)  (h : HP) : Option (Int × HP) :=
  some (xand l0 63, h)
set_option maxRecDepth 100000 in
theorem SX7_wordIn {K : Ctx} {F : Nat} {r : Int} {hf : HP}     (l0 : Int)  (h : HP) (E : X7_wordIn F   l0 h = some (r, hf)) : Go K MX7_wordIn (QM K (some (vi r)) hf) hf 0 [(0, vi l0)] [] h := by
  unfold X7_wordIn at E
  refine go_iload_n (j := 0) (n := 1) rfl rfl dX7_wordIn_0 rfl ?_
  refine go_bipush (z := 63) (n := 3) ⟨by decide, by decide⟩ dX7_wordIn_1 rfl ?_
  refine go_iand (n := 4) dX7_wordIn_3 rfl ?_
  cases E
  exact go_ireturn rfl dX7_wordIn_4
theorem OX7_wordIn {F : Nat} {l0 : Int} {h hf : HP} {r : Int} (e : X7_wordIn F l0 h = some (r, hf)) : Ok MX7_wordIn [vi l0] (some (vi r)) h hf := fun K _ _ _ => SX7_wordIn l0 h e
abbrev MX7_minuteIn : MI := (RX7, cX7_minuteIn, 1, (some .int), 2, none, "minuteIn")
noncomputable def X7_minuteIn (F : Nat)   (l0 : Int)  (h : HP) : Option (Int × HP) :=
  some (xand (xush l0 10) 511, h)
set_option maxRecDepth 100000 in
theorem SX7_minuteIn {K : Ctx} {F : Nat} {r : Int} {hf : HP}     (l0 : Int)  (h : HP) (E : X7_minuteIn F   l0 h = some (r, hf)) : Go K MX7_minuteIn (QM K (some (vi r)) hf) hf 0 [(0, vi l0)] [] h := by
  unfold X7_minuteIn at E
  refine go_iload_n (j := 0) (n := 1) rfl rfl dX7_minuteIn_0 rfl ?_
  refine go_bipush (z := 10) (n := 3) ⟨by decide, by decide⟩ dX7_minuteIn_1 rfl ?_
  refine go_iushr (n := 4) dX7_minuteIn_3 rfl ?_
  refine go_sipush (z := 511) (n := 7) ⟨by decide, by decide⟩ dX7_minuteIn_4 rfl ?_
  refine go_iand (n := 8) dX7_minuteIn_7 rfl ?_
  cases E
  exact go_ireturn rfl dX7_minuteIn_8
theorem OX7_minuteIn {F : Nat} {l0 : Int} {h hf : HP} {r : Int} (e : X7_minuteIn F l0 h = some (r, hf)) : Ok MX7_minuteIn [vi l0] (some (vi r)) h hf := fun K _ _ _ => SX7_minuteIn l0 h e
theorem fl_RX7_48 : FL RX7 48 7 10 7 false := ⟨RX7, TX7, ci_7, by decide, bw_of 239 (by decide +kernel) rfl, rfl, rfl⟩
theorem wml_RX7_78 : Cond.methodLink RX7 78 Lib.Math.min.name ∈ BW := bw_of 813 (by decide +kernel) rfl
theorem jm_min_i : JM Lib.Math.min.name Lib.Math.min.code 2 .int := ⟨bw_of 790 (by decide +kernel) rfl, bw_of 135 (by decide +kernel) rfl, bw_of 791 (by decide +kernel) rfl⟩
theorem fl_RX7_30 : FL RX7 30 7 10 6 true := ⟨RX7, TX7, ci_7, by decide, bw_of 238 (by decide +kernel) rfl, rfl, rfl⟩
theorem yw_X7_wordIn : YW yX7_wordIn cX7_wordIn 1 (some .int) 1 := ⟨bw_of 695 (by decide +kernel) rfl, bw_of 121 (by decide +kernel) rfl, ⟨by decide +kernel, by decide +kernel, by decide +kernel⟩, by decide +kernel⟩
theorem wml_RX7_55 : Cond.methodLink RX7 55 yX7_wordIn ∈ BW := bw_of 693 (by decide +kernel) rfl
theorem wst_X7_wordIn : Cond.static yX7_wordIn ∈ BW := bw_of 694 (by decide +kernel) rfl
theorem yw_X7_minuteIn : YW yX7_minuteIn cX7_minuteIn 1 (some .int) 1 := ⟨bw_of 1011 (by decide +kernel) rfl, bw_of 121 (by decide +kernel) rfl, ⟨by decide +kernel, by decide +kernel, by decide +kernel⟩, by decide +kernel⟩
theorem wml_RX7_40 : Cond.methodLink RX7 40 yX7_minuteIn ∈ BW := bw_of 1009 (by decide +kernel) rfl
theorem wst_X7_minuteIn : Cond.static yX7_minuteIn ∈ BW := bw_of 1010 (by decide +kernel) rfl
abbrev MX7_latestRow : MI := (RX7, cX7_latestRow, 4, (some .int), 3, none, "latestRow")
noncomputable def X7_latestRow_L45 (F : Nat)  (rc13 : Nat → Int → Int → Int → HP → Option (Int × HP)) (l0 : Nat) (l1 : Int) (l2 : Int) (l3 : Int)  (h : HP) : Option (Int × HP) :=
  rc13 l0 l1 l2 (w32 (l3 + (-1))) h
set_option maxRecDepth 100000 in
theorem SX7_latestRow_L45 {K : Ctx} {F : Nat} {r : Int} {hf : HP}   (rc13 : Nat → Int → Int → Int → HP → Option (Int × HP)) (hrc13 : ∀ l0 l1 l2 l3 h, rc13 l0 l1 l2 l3 h = some (r, hf) → Go K MX7_latestRow (QM K (some (vi r)) hf) hf 13 [(0, vr (some l0)), (1, vi l1), (2, vi l2), (3, vi l3)] [] h) (l0 : Nat) (l1 : Int) (l2 : Int) (l3 : Int)  (h : HP) (E : X7_latestRow_L45 F  rc13 l0 l1 l2 l3 h = some (r, hf)) : Go K MX7_latestRow (QM K (some (vi r)) hf) hf 45 [(0, vr (some l0)), (1, vi l1), (2, vi l2), (3, vi l3)] [] h := by
  unfold X7_latestRow_L45 at E
  refine go_iinc (j := 3) (n := 48) (lv' := [(3, vi (w32 (l3 + (-1)))), (0, vr (some l0)), (1, vi l1), (2, vi l2)]) rfl dX7_latestRow_45 rfl (Nat.le_of_ble_eq_true rfl) rfl ?_
  refine go_goto (tgt := 13) dX7_latestRow_48 rfl ?_
  refine go_pick (lv' := [(0, vr (some l0)), (1, vi l1), (2, vi l2), (3, vi (w32 (l3 + (-1))))]) [1, 2, 3, 0] rfl ?_
  exact hrc13 _ _ _ _ _ E
noncomputable def X7_latestRow_L13 (F : Nat)   (k : Nat) : Nat → Int → Int → Int → HP → Option (Int × HP) :=
  Nat.rec (motive := fun _ => Nat → Int → Int → Int → HP → Option (Int × HP)) (fun _ _ _ _ _ => none) (fun _ rc13 l0 l1 l2 l3 h =>
    if l3 < 0 then
      some ((-1), h)
    else
      (xgP h (some l0) 7 10 6).bind fun v2 =>
      (xaI h v2 100 l3).bind fun v3 =>
      xb (X7_wordIn F v3 h) fun v4 h5 =>
      if v4 = l1 then
        (xgP h5 (some l0) 7 10 6).bind fun v7 =>
        (xaI h5 v7 100 l3).bind fun v8 =>
        xb (X7_minuteIn F v8 h5) fun v9 h10 =>
        if l2 < v9 then
          X7_latestRow_L45 F rc13 l0 l1 l2 l3 h10
        else
          some (l3, h10)
      else
        X7_latestRow_L45 F rc13 l0 l1 l2 l3 h5) k
theorem X7_latestRow_L13_s (F : Nat)   (k : Nat) (l0 : Nat) (l1 : Int) (l2 : Int) (l3 : Int)  (h : HP) : X7_latestRow_L13 F   (k + 1) l0 l1 l2 l3 h =
    if l3 < 0 then
      some ((-1), h)
    else
      (xgP h (some l0) 7 10 6).bind fun v2 =>
      (xaI h v2 100 l3).bind fun v3 =>
      xb (X7_wordIn F v3 h) fun v4 h5 =>
      if v4 = l1 then
        (xgP h5 (some l0) 7 10 6).bind fun v7 =>
        (xaI h5 v7 100 l3).bind fun v8 =>
        xb (X7_minuteIn F v8 h5) fun v9 h10 =>
        if l2 < v9 then
          X7_latestRow_L45 F (X7_latestRow_L13 F k) l0 l1 l2 l3 h10
        else
          some (l3, h10)
      else
        X7_latestRow_L45 F (X7_latestRow_L13 F k) l0 l1 l2 l3 h5 := rfl
set_option maxRecDepth 100000 in
theorem SX7_latestRow_L13 {K : Ctx} {F : Nat} {r : Int} {hf : HP}     : ∀ (k : Nat) (l0 : Nat) (l1 : Int) (l2 : Int) (l3 : Int)  (h : HP), X7_latestRow_L13 F   k l0 l1 l2 l3 h = some (r, hf) → Go K MX7_latestRow (QM K (some (vi r)) hf) hf 13 [(0, vr (some l0)), (1, vi l1), (2, vi l2), (3, vi l3)] [] h := by
  intro k
  induction k with
  | zero => intro l0 l1 l2 l3 h E; exact nomatch E
  | succ k hrc13 =>
    intro l0 l1 l2 l3 h E
    rw [X7_latestRow_L13_s] at E
    refine go_iload_n (j := 3) (n := 14) rfl rfl dX7_latestRow_13 rfl ?_
    refine go_if_lt (tgt := 51) (n := 17) dX7_latestRow_14 rfl rfl (fun c1 => ?_) (fun c1 => ?_)
    · rw [if_pos c1] at E
      refine go_iconst (z := (-1)) (n := 52) ⟨by decide, by decide⟩ dX7_latestRow_51 rfl ?_
      cases E
      exact go_ireturn rfl dX7_latestRow_52
    · rw [if_neg c1] at E
      refine go_aload_n (j := 0) (n := 18) rfl rfl dX7_latestRow_17 rfl ?_
      replace E := Option.bind_eq_some_iff.mp E; obtain ⟨v2, ev2, E⟩ := E
      refine go_getP (n := 21) ev2 fl_RX7_30 rfl dX7_latestRow_18 rfl ?_
      refine go_iload_n (j := 3) (n := 22) rfl rfl dX7_latestRow_21 rfl ?_
      replace E := Option.bind_eq_some_iff.mp E; obtain ⟨v3, ev3, E⟩ := E
      refine go_iaload (n := 23) ev3 dX7_latestRow_22 rfl ?_
      replace E := xb_some E; obtain ⟨v4, h5, ev4, E⟩ := E
      refine go_callS (y := yX7_wordIn) (n := 26) (st := []) (as := [vi v3]) (stk9 := [vi v4]) (OX7_wordIn ev4) yw_X7_wordIn wml_RX7_55 wst_X7_wordIn (Nat.le_of_ble_eq_true rfl) rfl ⟨Nat.le_of_ble_eq_true rfl, Nat.le_of_ble_eq_true rfl⟩ (Nat.le_of_ble_eq_true rfl) dX7_latestRow_23 rfl rfl rfl ?_
      refine go_iload_n (j := 1) (n := 27) rfl rfl dX7_latestRow_26 rfl ?_
      refine go_icmp_ne (tgt := 45) (n := 30) dX7_latestRow_27 rfl rfl (fun c6 => ?_) (fun c6 => ?_)
      · rw [if_neg c6] at E
        exact SX7_latestRow_L45   _ hrc13 _ _ _ _  _ E
      · rw [if_pos c6] at E
        refine go_aload_n (j := 0) (n := 31) rfl rfl dX7_latestRow_30 rfl ?_
        replace E := Option.bind_eq_some_iff.mp E; obtain ⟨v7, ev7, E⟩ := E
        refine go_getP (n := 34) ev7 fl_RX7_30 rfl dX7_latestRow_31 rfl ?_
        refine go_iload_n (j := 3) (n := 35) rfl rfl dX7_latestRow_34 rfl ?_
        replace E := Option.bind_eq_some_iff.mp E; obtain ⟨v8, ev8, E⟩ := E
        refine go_iaload (n := 36) ev8 dX7_latestRow_35 rfl ?_
        replace E := xb_some E; obtain ⟨v9, h10, ev9, E⟩ := E
        refine go_callS (y := yX7_minuteIn) (n := 39) (st := []) (as := [vi v8]) (stk9 := [vi v9]) (OX7_minuteIn ev9) yw_X7_minuteIn wml_RX7_40 wst_X7_minuteIn (Nat.le_of_ble_eq_true rfl) rfl ⟨Nat.le_of_ble_eq_true rfl, Nat.le_of_ble_eq_true rfl⟩ (Nat.le_of_ble_eq_true rfl) dX7_latestRow_36 rfl rfl rfl ?_
        refine go_iload_n (j := 2) (n := 40) rfl rfl dX7_latestRow_39 rfl ?_
        refine go_icmp_gt (tgt := 45) (n := 43) dX7_latestRow_40 rfl rfl (fun c11 => ?_) (fun c11 => ?_)
        · rw [if_pos c11] at E
          exact SX7_latestRow_L45   _ hrc13 _ _ _ _  _ E
        · rw [if_neg c11] at E
          refine go_iload_n (j := 3) (n := 44) rfl rfl dX7_latestRow_43 rfl ?_
          cases E
          exact go_ireturn rfl dX7_latestRow_44
noncomputable def X7_latestRow (F : Nat)   (l0 : Nat) (l1 : Int) (l2 : Int)  (h : HP) : Option (Int × HP) :=
  (xgI h (some l0) 7 10 7).bind fun v1 =>
  X7_latestRow_L13 F F l0 l1 l2 (w32 ((min v1 5120) - 1)) h
set_option maxRecDepth 100000 in
theorem SX7_latestRow {K : Ctx} {F : Nat} {r : Int} {hf : HP}     (l0 : Nat) (l1 : Int) (l2 : Int)  (h : HP) (E : X7_latestRow F   l0 l1 l2 h = some (r, hf)) : Go K MX7_latestRow (QM K (some (vi r)) hf) hf 0 [(0, vr (some l0)), (1, vi l1), (2, vi l2)] [] h := by
  unfold X7_latestRow at E
  refine go_aload_n (j := 0) (n := 1) rfl rfl dX7_latestRow_0 rfl ?_
  replace E := Option.bind_eq_some_iff.mp E; obtain ⟨v1, ev1, E⟩ := E
  refine go_getI (n := 4) ev1 fl_RX7_48 rfl dX7_latestRow_1 rfl ?_
  refine go_sipush (z := 5120) (n := 7) ⟨by decide, by decide⟩ dX7_latestRow_4 rfl ?_
  refine go_mmin (n := 10) wml_RX7_78 jm_min_i (Nat.le_of_ble_eq_true rfl) (Nat.le_of_ble_eq_true rfl) dX7_latestRow_7 rfl ?_
  refine go_iconst (z := 1) (n := 11) ⟨by decide, by decide⟩ dX7_latestRow_10 rfl ?_
  refine go_isub (n := 12) dX7_latestRow_11 rfl ?_
  refine go_istore_n (n := 13) (lv' := [(3, vi (w32 ((min v1 5120) - 1))), (0, vr (some l0)), (1, vi l1), (2, vi l2)]) rfl dX7_latestRow_12 rfl (Nat.le_of_ble_eq_true rfl) rfl ?_
  refine go_pick (lv' := [(0, vr (some l0)), (1, vi l1), (2, vi l2), (3, vi (w32 ((min v1 5120) - 1)))]) [1, 2, 3, 0] rfl ?_
  exact SX7_latestRow_L13     F _ _ _ _ _ E
theorem OX7_latestRow {F : Nat} {l0 : Nat} {l1 : Int} {l2 : Int} {h hf : HP} {r : Int} (e : X7_latestRow F l0 l1 l2 h = some (r, hf)) : Ok MX7_latestRow [vr (some l0), vi l1, vi l2] (some (vi r)) h hf := fun K _ _ _ => SX7_latestRow l0 l1 l2 h e
theorem fl_RX7_24 : FL RX7 24 7 10 4 true := ⟨RX7, TX7, ci_7, by decide, bw_of 236 (by decide +kernel) rfl, rfl, rfl⟩
theorem fl_RX7_27 : FL RX7 27 7 10 5 true := ⟨RX7, TX7, ci_7, by decide, bw_of 237 (by decide +kernel) rfl, rfl, rfl⟩
abbrev MX7_valueOf : MI := (RX7, cX7_valueOf, 2, (some .int), 2, none, "valueOf")
noncomputable def X7_valueOf (F : Nat)   (l0 : Nat) (l1 : Int)  (h : HP) : Option (Int × HP) :=
  if l1 < 0 then
    some (0, h)
  else
    if 5120 ≤ l1 then
      some (0, h)
    else
      (xgP h (some l0) 7 10 4).bind fun v3 =>
      (xaI h v3 100 l1).bind fun v4 =>
      (xgP h (some l0) 7 10 5).bind fun v5 =>
      (xaI h v5 100 l1).bind fun v6 =>
      some (xxor v4 v6, h)
set_option maxRecDepth 100000 in
theorem SX7_valueOf {K : Ctx} {F : Nat} {r : Int} {hf : HP}     (l0 : Nat) (l1 : Int)  (h : HP) (E : X7_valueOf F   l0 l1 h = some (r, hf)) : Go K MX7_valueOf (QM K (some (vi r)) hf) hf 0 [(0, vr (some l0)), (1, vi l1)] [] h := by
  unfold X7_valueOf at E
  refine go_iload_n (j := 1) (n := 1) rfl rfl dX7_valueOf_0 rfl ?_
  refine go_if_lt (tgt := 27) (n := 4) dX7_valueOf_1 rfl rfl (fun c1 => ?_) (fun c1 => ?_)
  · rw [if_pos c1] at E
    refine go_iconst (z := 0) (n := 28) ⟨by decide, by decide⟩ dX7_valueOf_27 rfl ?_
    cases E
    exact go_ireturn rfl dX7_valueOf_28
  · rw [if_neg c1] at E
    refine go_iload_n (j := 1) (n := 5) rfl rfl dX7_valueOf_4 rfl ?_
    refine go_sipush (z := 5120) (n := 8) ⟨by decide, by decide⟩ dX7_valueOf_5 rfl ?_
    refine go_icmp_ge (tgt := 27) (n := 11) dX7_valueOf_8 rfl rfl (fun c2 => ?_) (fun c2 => ?_)
    · rw [if_pos c2] at E
      refine go_iconst (z := 0) (n := 28) ⟨by decide, by decide⟩ dX7_valueOf_27 rfl ?_
      cases E
      exact go_ireturn rfl dX7_valueOf_28
    · rw [if_neg c2] at E
      refine go_aload_n (j := 0) (n := 12) rfl rfl dX7_valueOf_11 rfl ?_
      replace E := Option.bind_eq_some_iff.mp E; obtain ⟨v3, ev3, E⟩ := E
      refine go_getP (n := 15) ev3 fl_RX7_24 rfl dX7_valueOf_12 rfl ?_
      refine go_iload_n (j := 1) (n := 16) rfl rfl dX7_valueOf_15 rfl ?_
      replace E := Option.bind_eq_some_iff.mp E; obtain ⟨v4, ev4, E⟩ := E
      refine go_iaload (n := 17) ev4 dX7_valueOf_16 rfl ?_
      refine go_aload_n (j := 0) (n := 18) rfl rfl dX7_valueOf_17 rfl ?_
      replace E := Option.bind_eq_some_iff.mp E; obtain ⟨v5, ev5, E⟩ := E
      refine go_getP (n := 21) ev5 fl_RX7_27 rfl dX7_valueOf_18 rfl ?_
      refine go_iload_n (j := 1) (n := 22) rfl rfl dX7_valueOf_21 rfl ?_
      replace E := Option.bind_eq_some_iff.mp E; obtain ⟨v6, ev6, E⟩ := E
      refine go_iaload (n := 23) ev6 dX7_valueOf_22 rfl ?_
      refine go_ixor (n := 24) dX7_valueOf_23 rfl ?_
      refine go_goto (tgt := 28) dX7_valueOf_24 rfl ?_
      cases E
      exact go_ireturn rfl dX7_valueOf_28
theorem OX7_valueOf {F : Nat} {l0 : Nat} {l1 : Int} {h hf : HP} {r : Int} (e : X7_valueOf F l0 l1 h = some (r, hf)) : Ok MX7_valueOf [vr (some l0), vi l1] (some (vi r)) h hf := fun K _ _ _ => SX7_valueOf l0 l1 h e
theorem fl_RX11_60 : FL RX11 60 4 12 1 true := ⟨RX4, TX4, ci_4, by decide, bw_of 518 (by decide +kernel) rfl, rfl, rfl⟩
theorem yw_X7_latestRow : YW yX7_latestRow cX7_latestRow 4 (some .int) 2 := ⟨bw_of 1042 (by decide +kernel) rfl, bw_of 121 (by decide +kernel) rfl, ⟨by decide +kernel, by decide +kernel, by decide +kernel⟩, by decide +kernel⟩
theorem wml_RX11_78 : Cond.methodLink RX11 78 yX7_latestRow ∈ BW := bw_of 1039 (by decide +kernel) rfl
theorem wim_X7_latestRow : Cond.instanceMethod yX7_latestRow ∈ BW := bw_of 1040 (by decide +kernel) rfl
theorem wse_X7_latestRow : Cond.selects RX7 yX7_latestRow yX7_latestRow ∈ BW := bw_of 1041 (by decide +kernel) rfl
theorem yw_X7_valueOf : YW yX7_valueOf cX7_valueOf 2 (some .int) 1 := ⟨bw_of 1046 (by decide +kernel) rfl, bw_of 121 (by decide +kernel) rfl, ⟨by decide +kernel, by decide +kernel, by decide +kernel⟩, by decide +kernel⟩
theorem wml_RX11_81 : Cond.methodLink RX11 81 yX7_valueOf ∈ BW := bw_of 1043 (by decide +kernel) rfl
theorem wim_X7_valueOf : Cond.instanceMethod yX7_valueOf ∈ BW := bw_of 1044 (by decide +kernel) rfl
theorem wse_X7_valueOf : Cond.selects RX7 yX7_valueOf yX7_valueOf ∈ BW := bw_of 1045 (by decide +kernel) rfl
abbrev MX11_as : MI := (RX11, cX11_as, 4, (some .int), 13, some [], "as")
noncomputable def X11_as (F : Nat)   (l0 : Nat) (l1 : Int) (l2 : Int)  (h : HP) : Option ((String ⊕ Int) × HP) :=
  xth (X11_needPlace F l1 64 h) fun v1 h2 =>
  (xgP h2 (some l0) 11 6 2).bind fun v3 =>
  (xgP h2 v3 4 12 1).bind fun v4 =>
  (xrc h2 v4 7 10).bind fun a7 =>
  xb (X7_latestRow F a7 l1 l2 h2) fun v5 h6 =>
  if v5 = (-1) then
    some (.inr 0, h6)
  else
    (xgP h6 (some l0) 11 6 2).bind fun v9 =>
    (xgP h6 v9 4 12 1).bind fun v10 =>
    (xrc h6 v10 7 10).bind fun a13 =>
    xb (X7_valueOf F a13 v5 h6) fun v11 h12 =>
    some (.inr v11, h12)
set_option maxRecDepth 100000 in
theorem SX11_as {K : Ctx} {F : Nat} {r : String ⊕ Int} {hf : HP}     (l0 : Nat) (l1 : Int) (l2 : Int)  (h : HP) (E : X11_as F   l0 l1 l2 h = some (r, hf)) : Go K MX11_as (QMX K (rI r) hf) hf 0 [(0, vr (some l0)), (1, vi l1), (2, vi l2)] [] h := by
  unfold X11_as at E
  refine go_iload_n (j := 1) (n := 1) rfl rfl dX11_as_0 rfl ?_
  refine go_bipush (z := 64) (n := 3) ⟨by decide, by decide⟩ dX11_as_1 rfl ?_
  replace E := xth_some E; rcases E with ⟨x14, ev1, rfl⟩ | ⟨v1, h2, ev1, E⟩
  · exact go_callXSt (y := yX11_needPlace) (as := [vi l1, vi 64]) (st := []) (OXX11_needPlace ev1) yw_X11_needPlace wml_RX11_54 wst_X11_needPlace (Nat.le_of_ble_eq_true rfl) rfl ⟨Nat.le_of_ble_eq_true rfl, Nat.le_of_ble_eq_true rfl⟩ (Nat.le_of_ble_eq_true rfl) dX11_as_3 rfl rfl
  refine go_callXSr (y := yX11_needPlace) (n := 6) (st := []) (as := [vi l1, vi 64]) (stk9 := []) (OXX11_needPlace ev1) yw_X11_needPlace wml_RX11_54 wst_X11_needPlace (Nat.le_of_ble_eq_true rfl) rfl ⟨Nat.le_of_ble_eq_true rfl, Nat.le_of_ble_eq_true rfl⟩ (Nat.le_of_ble_eq_true rfl) dX11_as_3 rfl rfl rfl ?_
  refine go_aload_n (j := 0) (n := 7) rfl rfl dX11_as_6 rfl ?_
  replace E := Option.bind_eq_some_iff.mp E; obtain ⟨v3, ev3, E⟩ := E
  refine go_getP (n := 10) ev3 fl_RX11_23 rfl dX11_as_7 rfl ?_
  replace E := Option.bind_eq_some_iff.mp E; obtain ⟨v4, ev4, E⟩ := E
  refine go_getP (n := 13) ev4 fl_RX11_60 rfl dX11_as_10 rfl ?_
  refine go_iload_n (j := 1) (n := 14) rfl rfl dX11_as_13 rfl ?_
  refine go_iload_n (j := 2) (n := 15) rfl rfl dX11_as_14 rfl ?_
  replace E := Option.bind_eq_some_iff.mp E; obtain ⟨a7, ea7, E⟩ := E
  obtain ⟨fa7, ga7⟩ := xrc_some ea7
  replace E := xb_some E; obtain ⟨v5, h6, ev5, E⟩ := E
  refine go_callV (y := yX7_latestRow) (n := 18) (st := []) (as := [vi l1, vi l2]) (stk9 := [vi v5]) (OX7_latestRow ev5) yw_X7_latestRow ci_7 ga7 wml_RX11_78 wim_X7_latestRow wse_X7_latestRow (Nat.le_of_ble_eq_true rfl) rfl ⟨Nat.le_of_ble_eq_true rfl, Nat.le_of_ble_eq_true rfl⟩ (Nat.le_of_ble_eq_true rfl) dX11_as_15 rfl (by cases fa7; rfl) rfl ?_
  refine go_istore_n (n := 19) (lv' := [(3, vi v5), (0, vr (some l0)), (1, vi l1), (2, vi l2)]) rfl dX11_as_18 rfl (Nat.le_of_ble_eq_true rfl) rfl ?_
  refine go_iload_n (j := 0) (n := 20) rfl rfl dX11_as_19 rfl ?_
  refine go_iconst (z := (-1)) (n := 21) ⟨by decide, by decide⟩ dX11_as_20 rfl ?_
  refine go_icmp_ne (tgt := 28) (n := 24) dX11_as_21 rfl rfl (fun c8 => ?_) (fun c8 => ?_)
  · rw [if_neg c8] at E
    refine go_aload_n (j := 1) (n := 29) rfl rfl dX11_as_28 rfl ?_
    replace E := Option.bind_eq_some_iff.mp E; obtain ⟨v9, ev9, E⟩ := E
    refine go_getP (n := 32) ev9 fl_RX11_23 rfl dX11_as_29 rfl ?_
    replace E := Option.bind_eq_some_iff.mp E; obtain ⟨v10, ev10, E⟩ := E
    refine go_getP (n := 35) ev10 fl_RX11_60 rfl dX11_as_32 rfl ?_
    refine go_iload_n (j := 0) (n := 36) rfl rfl dX11_as_35 rfl ?_
    replace E := Option.bind_eq_some_iff.mp E; obtain ⟨a13, ea13, E⟩ := E
    obtain ⟨fa13, ga13⟩ := xrc_some ea13
    replace E := xb_some E; obtain ⟨v11, h12, ev11, E⟩ := E
    refine go_callV (y := yX7_valueOf) (n := 39) (st := []) (as := [vi v5]) (stk9 := [vi v11]) (OX7_valueOf ev11) yw_X7_valueOf ci_7 ga13 wml_RX11_81 wim_X7_valueOf wse_X7_valueOf (Nat.le_of_ble_eq_true rfl) rfl ⟨Nat.le_of_ble_eq_true rfl, Nat.le_of_ble_eq_true rfl⟩ (Nat.le_of_ble_eq_true rfl) dX11_as_36 rfl (by cases fa13; rfl) rfl ?_
    cases E
    exact go_ret (go_ireturn rfl dX11_as_39)
  · rw [if_pos c8] at E
    refine go_iconst (z := 0) (n := 25) ⟨by decide, by decide⟩ dX11_as_24 rfl ?_
    refine go_goto (tgt := 39) dX11_as_25 rfl ?_
    cases E
    exact go_ret (go_ireturn rfl dX11_as_39)
theorem OXX11_as {F : Nat} {l0 : Nat} {l1 : Int} {l2 : Int} {h hf : HP} {r : String ⊕ Int} (e : X11_as F l0 l1 l2 h = some (r, hf)) : OkX MX11_as [vr (some l0), vi l1, vi l2] (rI r) h hf := fun K _ _ _ => SX11_as l0 l1 l2 h e
theorem wml_RX7_91 : Cond.methodLink RX7 91 Lib.Math.max.name ∈ BW := bw_of 826 (by decide +kernel) rfl
theorem jm_max_i : JM Lib.Math.max.name Lib.Math.max.code 2 .int := ⟨bw_of 718 (by decide +kernel) rfl, bw_of 135 (by decide +kernel) rfl, bw_of 719 (by decide +kernel) rfl⟩
theorem fl_RX7_9 : FL RX7 9 7 10 0 true := ⟨RX7, TX7, ci_7, by decide, bw_of 232 (by decide +kernel) rfl, rfl, rfl⟩
theorem wml_RX7_94 : Cond.methodLink RX7 94 arraycopyName ∈ BW := bw_of 827 (by decide +kernel) rfl
theorem w_copy : Cond.native arraycopyName ∈ BW ∧ Cond.static arraycopyName ∈ BW ∧ Cond.initialized "java/lang/System" ∈ BW := ⟨bw_of 829 (by decide +kernel) rfl, bw_of 828 (by decide +kernel) rfl, bw_of 141 (by decide +kernel) rfl⟩
theorem fl_RX7_15 : FL RX7 15 7 10 1 true := ⟨RX7, TX7, ci_7, by decide, bw_of 233 (by decide +kernel) rfl, rfl, rfl⟩
theorem fl_RX7_18 : FL RX7 18 7 10 2 true := ⟨RX7, TX7, ci_7, by decide, bw_of 234 (by decide +kernel) rfl, rfl, rfl⟩
theorem fl_RX7_21 : FL RX7 21 7 10 3 true := ⟨RX7, TX7, ci_7, by decide, bw_of 235 (by decide +kernel) rfl, rfl, rfl⟩
theorem fl_RX7_52 : FL RX7 52 7 10 8 false := ⟨RX7, TX7, ci_7, by decide, bw_of 241 (by decide +kernel) rfl, rfl, rfl⟩
theorem fl_RX7_36 : FL RX7 36 7 10 9 false := ⟨RX7, TX7, ci_7, by decide, bw_of 243 (by decide +kernel) rfl, rfl, rfl⟩
abbrev MX7_copyFrom : MI := (RX7, cX7_copyFrom, 3, none, 2, none, "copyFrom")
noncomputable def X7_copyFrom (F : Nat)   (l0 : Nat) (l1 : Option Nat)  (h : HP) : Option (Unit × HP) :=
  (xgI h l1 7 10 7).bind fun v1 =>
  (xgP h l1 7 10 0).bind fun v2 =>
  (xgP h (some l0) 7 10 0).bind fun v3 =>
  (xcp h v2 0 v3 0 64).bind fun h4 =>
  (xgP h4 l1 7 10 1).bind fun v5 =>
  (xgP h4 (some l0) 7 10 1).bind fun v6 =>
  (xcp h4 v5 0 v6 0 64).bind fun h7 =>
  (xgP h7 l1 7 10 2).bind fun v8 =>
  (xgP h7 (some l0) 7 10 2).bind fun v9 =>
  (xcp h7 v8 0 v9 0 16).bind fun h10 =>
  (xgP h10 l1 7 10 3).bind fun v11 =>
  (xgP h10 (some l0) 7 10 3).bind fun v12 =>
  (xcp h10 v11 0 v12 0 16).bind fun h13 =>
  (xgP h13 l1 7 10 4).bind fun v14 =>
  (xgP h13 (some l0) 7 10 4).bind fun v15 =>
  (xcp h13 v14 0 v15 0 (max 0 (min v1 5120))).bind fun h16 =>
  (xgP h16 l1 7 10 5).bind fun v17 =>
  (xgP h16 (some l0) 7 10 5).bind fun v18 =>
  (xcp h16 v17 0 v18 0 (max 0 (min v1 5120))).bind fun h19 =>
  (xgP h19 l1 7 10 6).bind fun v20 =>
  (xgP h19 (some l0) 7 10 6).bind fun v21 =>
  (xcp h19 v20 0 v21 0 (max 0 (min v1 5120))).bind fun h22 =>
  (xgI h22 l1 7 10 7).bind fun v23 =>
  (xpI h22 (some l0) 7 10 7 v23).bind fun h24 =>
  (xgI h24 l1 7 10 8).bind fun v25 =>
  (xpI h24 (some l0) 7 10 8 v25).bind fun h26 =>
  (xgI h26 l1 7 10 9).bind fun v27 =>
  (xpI h26 (some l0) 7 10 9 v27).bind fun h28 =>
  some ((), h28)
set_option maxRecDepth 100000 in
theorem SX7_copyFrom {K : Ctx} {F : Nat} {r : Unit} {hf : HP}     (l0 : Nat) (l1 : Option Nat)  (h : HP) (E : X7_copyFrom F   l0 l1 h = some (r, hf)) : Go K MX7_copyFrom (QM K none hf) hf 0 [(0, vr (some l0)), (1, vr l1)] [] h := by
  unfold X7_copyFrom at E
  refine go_iconst (z := 0) (n := 1) ⟨by decide, by decide⟩ dX7_copyFrom_0 rfl ?_
  refine go_aload_n (j := 1) (n := 2) rfl rfl dX7_copyFrom_1 rfl ?_
  replace E := Option.bind_eq_some_iff.mp E; obtain ⟨v1, ev1, E⟩ := E
  refine go_getI (n := 5) ev1 fl_RX7_48 rfl dX7_copyFrom_2 rfl ?_
  refine go_sipush (z := 5120) (n := 8) ⟨by decide, by decide⟩ dX7_copyFrom_5 rfl ?_
  refine go_mmin (n := 11) wml_RX7_78 jm_min_i (Nat.le_of_ble_eq_true rfl) (Nat.le_of_ble_eq_true rfl) dX7_copyFrom_8 rfl ?_
  refine go_mmax (n := 14) wml_RX7_91 jm_max_i (Nat.le_of_ble_eq_true rfl) (Nat.le_of_ble_eq_true rfl) dX7_copyFrom_11 rfl ?_
  refine go_istore_n (n := 15) (lv' := [(2, vi (max 0 (min v1 5120))), (0, vr (some l0)), (1, vr l1)]) rfl dX7_copyFrom_14 rfl (Nat.le_of_ble_eq_true rfl) rfl ?_
  refine go_aload_n (j := 2) (n := 16) rfl rfl dX7_copyFrom_15 rfl ?_
  replace E := Option.bind_eq_some_iff.mp E; obtain ⟨v2, ev2, E⟩ := E
  refine go_getP (n := 19) ev2 fl_RX7_9 rfl dX7_copyFrom_16 rfl ?_
  refine go_iconst (z := 0) (n := 20) ⟨by decide, by decide⟩ dX7_copyFrom_19 rfl ?_
  refine go_aload_n (j := 1) (n := 21) rfl rfl dX7_copyFrom_20 rfl ?_
  replace E := Option.bind_eq_some_iff.mp E; obtain ⟨v3, ev3, E⟩ := E
  refine go_getP (n := 24) ev3 fl_RX7_9 rfl dX7_copyFrom_21 rfl ?_
  refine go_iconst (z := 0) (n := 25) ⟨by decide, by decide⟩ dX7_copyFrom_24 rfl ?_
  refine go_bipush (z := 64) (n := 27) ⟨by decide, by decide⟩ dX7_copyFrom_25 rfl ?_
  replace E := Option.bind_eq_some_iff.mp E; obtain ⟨h4, eh4, E⟩ := E
  refine go_copy (n := 30) eh4 wml_RX7_94 w_copy (Nat.le_of_ble_eq_true rfl) (Nat.le_of_ble_eq_true rfl) dX7_copyFrom_27 rfl ?_
  refine go_aload_n (j := 2) (n := 31) rfl rfl dX7_copyFrom_30 rfl ?_
  replace E := Option.bind_eq_some_iff.mp E; obtain ⟨v5, ev5, E⟩ := E
  refine go_getP (n := 34) ev5 fl_RX7_15 rfl dX7_copyFrom_31 rfl ?_
  refine go_iconst (z := 0) (n := 35) ⟨by decide, by decide⟩ dX7_copyFrom_34 rfl ?_
  refine go_aload_n (j := 1) (n := 36) rfl rfl dX7_copyFrom_35 rfl ?_
  replace E := Option.bind_eq_some_iff.mp E; obtain ⟨v6, ev6, E⟩ := E
  refine go_getP (n := 39) ev6 fl_RX7_15 rfl dX7_copyFrom_36 rfl ?_
  refine go_iconst (z := 0) (n := 40) ⟨by decide, by decide⟩ dX7_copyFrom_39 rfl ?_
  refine go_bipush (z := 64) (n := 42) ⟨by decide, by decide⟩ dX7_copyFrom_40 rfl ?_
  replace E := Option.bind_eq_some_iff.mp E; obtain ⟨h7, eh7, E⟩ := E
  refine go_copy (n := 45) eh7 wml_RX7_94 w_copy (Nat.le_of_ble_eq_true rfl) (Nat.le_of_ble_eq_true rfl) dX7_copyFrom_42 rfl ?_
  refine go_aload_n (j := 2) (n := 46) rfl rfl dX7_copyFrom_45 rfl ?_
  replace E := Option.bind_eq_some_iff.mp E; obtain ⟨v8, ev8, E⟩ := E
  refine go_getP (n := 49) ev8 fl_RX7_18 rfl dX7_copyFrom_46 rfl ?_
  refine go_iconst (z := 0) (n := 50) ⟨by decide, by decide⟩ dX7_copyFrom_49 rfl ?_
  refine go_aload_n (j := 1) (n := 51) rfl rfl dX7_copyFrom_50 rfl ?_
  replace E := Option.bind_eq_some_iff.mp E; obtain ⟨v9, ev9, E⟩ := E
  refine go_getP (n := 54) ev9 fl_RX7_18 rfl dX7_copyFrom_51 rfl ?_
  refine go_iconst (z := 0) (n := 55) ⟨by decide, by decide⟩ dX7_copyFrom_54 rfl ?_
  refine go_bipush (z := 16) (n := 57) ⟨by decide, by decide⟩ dX7_copyFrom_55 rfl ?_
  replace E := Option.bind_eq_some_iff.mp E; obtain ⟨h10, eh10, E⟩ := E
  refine go_copy (n := 60) eh10 wml_RX7_94 w_copy (Nat.le_of_ble_eq_true rfl) (Nat.le_of_ble_eq_true rfl) dX7_copyFrom_57 rfl ?_
  refine go_aload_n (j := 2) (n := 61) rfl rfl dX7_copyFrom_60 rfl ?_
  replace E := Option.bind_eq_some_iff.mp E; obtain ⟨v11, ev11, E⟩ := E
  refine go_getP (n := 64) ev11 fl_RX7_21 rfl dX7_copyFrom_61 rfl ?_
  refine go_iconst (z := 0) (n := 65) ⟨by decide, by decide⟩ dX7_copyFrom_64 rfl ?_
  refine go_aload_n (j := 1) (n := 66) rfl rfl dX7_copyFrom_65 rfl ?_
  replace E := Option.bind_eq_some_iff.mp E; obtain ⟨v12, ev12, E⟩ := E
  refine go_getP (n := 69) ev12 fl_RX7_21 rfl dX7_copyFrom_66 rfl ?_
  refine go_iconst (z := 0) (n := 70) ⟨by decide, by decide⟩ dX7_copyFrom_69 rfl ?_
  refine go_bipush (z := 16) (n := 72) ⟨by decide, by decide⟩ dX7_copyFrom_70 rfl ?_
  replace E := Option.bind_eq_some_iff.mp E; obtain ⟨h13, eh13, E⟩ := E
  refine go_copy (n := 75) eh13 wml_RX7_94 w_copy (Nat.le_of_ble_eq_true rfl) (Nat.le_of_ble_eq_true rfl) dX7_copyFrom_72 rfl ?_
  refine go_aload_n (j := 2) (n := 76) rfl rfl dX7_copyFrom_75 rfl ?_
  replace E := Option.bind_eq_some_iff.mp E; obtain ⟨v14, ev14, E⟩ := E
  refine go_getP (n := 79) ev14 fl_RX7_24 rfl dX7_copyFrom_76 rfl ?_
  refine go_iconst (z := 0) (n := 80) ⟨by decide, by decide⟩ dX7_copyFrom_79 rfl ?_
  refine go_aload_n (j := 1) (n := 81) rfl rfl dX7_copyFrom_80 rfl ?_
  replace E := Option.bind_eq_some_iff.mp E; obtain ⟨v15, ev15, E⟩ := E
  refine go_getP (n := 84) ev15 fl_RX7_24 rfl dX7_copyFrom_81 rfl ?_
  refine go_iconst (z := 0) (n := 85) ⟨by decide, by decide⟩ dX7_copyFrom_84 rfl ?_
  refine go_iload_n (j := 0) (n := 86) rfl rfl dX7_copyFrom_85 rfl ?_
  replace E := Option.bind_eq_some_iff.mp E; obtain ⟨h16, eh16, E⟩ := E
  refine go_copy (n := 89) eh16 wml_RX7_94 w_copy (Nat.le_of_ble_eq_true rfl) (Nat.le_of_ble_eq_true rfl) dX7_copyFrom_86 rfl ?_
  refine go_aload_n (j := 2) (n := 90) rfl rfl dX7_copyFrom_89 rfl ?_
  replace E := Option.bind_eq_some_iff.mp E; obtain ⟨v17, ev17, E⟩ := E
  refine go_getP (n := 93) ev17 fl_RX7_27 rfl dX7_copyFrom_90 rfl ?_
  refine go_iconst (z := 0) (n := 94) ⟨by decide, by decide⟩ dX7_copyFrom_93 rfl ?_
  refine go_aload_n (j := 1) (n := 95) rfl rfl dX7_copyFrom_94 rfl ?_
  replace E := Option.bind_eq_some_iff.mp E; obtain ⟨v18, ev18, E⟩ := E
  refine go_getP (n := 98) ev18 fl_RX7_27 rfl dX7_copyFrom_95 rfl ?_
  refine go_iconst (z := 0) (n := 99) ⟨by decide, by decide⟩ dX7_copyFrom_98 rfl ?_
  refine go_iload_n (j := 0) (n := 100) rfl rfl dX7_copyFrom_99 rfl ?_
  replace E := Option.bind_eq_some_iff.mp E; obtain ⟨h19, eh19, E⟩ := E
  refine go_copy (n := 103) eh19 wml_RX7_94 w_copy (Nat.le_of_ble_eq_true rfl) (Nat.le_of_ble_eq_true rfl) dX7_copyFrom_100 rfl ?_
  refine go_aload_n (j := 2) (n := 104) rfl rfl dX7_copyFrom_103 rfl ?_
  replace E := Option.bind_eq_some_iff.mp E; obtain ⟨v20, ev20, E⟩ := E
  refine go_getP (n := 107) ev20 fl_RX7_30 rfl dX7_copyFrom_104 rfl ?_
  refine go_iconst (z := 0) (n := 108) ⟨by decide, by decide⟩ dX7_copyFrom_107 rfl ?_
  refine go_aload_n (j := 1) (n := 109) rfl rfl dX7_copyFrom_108 rfl ?_
  replace E := Option.bind_eq_some_iff.mp E; obtain ⟨v21, ev21, E⟩ := E
  refine go_getP (n := 112) ev21 fl_RX7_30 rfl dX7_copyFrom_109 rfl ?_
  refine go_iconst (z := 0) (n := 113) ⟨by decide, by decide⟩ dX7_copyFrom_112 rfl ?_
  refine go_iload_n (j := 0) (n := 114) rfl rfl dX7_copyFrom_113 rfl ?_
  replace E := Option.bind_eq_some_iff.mp E; obtain ⟨h22, eh22, E⟩ := E
  refine go_copy (n := 117) eh22 wml_RX7_94 w_copy (Nat.le_of_ble_eq_true rfl) (Nat.le_of_ble_eq_true rfl) dX7_copyFrom_114 rfl ?_
  refine go_aload_n (j := 1) (n := 118) rfl rfl dX7_copyFrom_117 rfl ?_
  refine go_aload_n (j := 2) (n := 119) rfl rfl dX7_copyFrom_118 rfl ?_
  replace E := Option.bind_eq_some_iff.mp E; obtain ⟨v23, ev23, E⟩ := E
  refine go_getI (n := 122) ev23 fl_RX7_48 rfl dX7_copyFrom_119 rfl ?_
  replace E := Option.bind_eq_some_iff.mp E; obtain ⟨h24, eh24, E⟩ := E
  refine go_putI (n := 125) eh24 fl_RX7_48 rfl dX7_copyFrom_122 rfl ?_
  refine go_aload_n (j := 1) (n := 126) rfl rfl dX7_copyFrom_125 rfl ?_
  refine go_aload_n (j := 2) (n := 127) rfl rfl dX7_copyFrom_126 rfl ?_
  replace E := Option.bind_eq_some_iff.mp E; obtain ⟨v25, ev25, E⟩ := E
  refine go_getI (n := 130) ev25 fl_RX7_52 rfl dX7_copyFrom_127 rfl ?_
  replace E := Option.bind_eq_some_iff.mp E; obtain ⟨h26, eh26, E⟩ := E
  refine go_putI (n := 133) eh26 fl_RX7_52 rfl dX7_copyFrom_130 rfl ?_
  refine go_aload_n (j := 1) (n := 134) rfl rfl dX7_copyFrom_133 rfl ?_
  refine go_aload_n (j := 2) (n := 135) rfl rfl dX7_copyFrom_134 rfl ?_
  replace E := Option.bind_eq_some_iff.mp E; obtain ⟨v27, ev27, E⟩ := E
  refine go_getI (n := 138) ev27 fl_RX7_36 rfl dX7_copyFrom_135 rfl ?_
  replace E := Option.bind_eq_some_iff.mp E; obtain ⟨h28, eh28, E⟩ := E
  refine go_putI (n := 141) eh28 fl_RX7_36 rfl dX7_copyFrom_138 rfl ?_
  cases E
  exact go_return rfl dX7_copyFrom_141
theorem OX7_copyFrom {F : Nat} {l0 : Nat} {l1 : Option Nat} {h hf : HP} {r : Unit} (e : X7_copyFrom F l0 l1 h = some (r, hf)) : Ok MX7_copyFrom [vr (some l0), vr l1] none h hf := fun K _ _ _ => SX7_copyFrom l0 l1 h e
theorem fl_RX2_9 : FL RX2 9 2 18 0 false := ⟨RX2, TX2, ci_2, by decide, bw_of 305 (by decide +kernel) rfl, rfl, rfl⟩
theorem fl_RX2_15 : FL RX2 15 2 18 1 false := ⟨RX2, TX2, ci_2, by decide, bw_of 308 (by decide +kernel) rfl, rfl, rfl⟩
theorem fl_RX2_18 : FL RX2 18 2 18 2 false := ⟨RX2, TX2, ci_2, by decide, bw_of 310 (by decide +kernel) rfl, rfl, rfl⟩
theorem fl_RX2_21 : FL RX2 21 2 18 3 false := ⟨RX2, TX2, ci_2, by decide, bw_of 314 (by decide +kernel) rfl, rfl, rfl⟩
theorem fl_RX2_24 : FL RX2 24 2 18 4 false := ⟨RX2, TX2, ci_2, by decide, bw_of 315 (by decide +kernel) rfl, rfl, rfl⟩
theorem fl_RX2_28 : FL RX2 28 2 18 5 false := ⟨RX2, TX2, ci_2, by decide, bw_of 317 (by decide +kernel) rfl, rfl, rfl⟩
theorem fl_RX2_32 : FL RX2 32 2 18 6 false := ⟨RX2, TX2, ci_2, by decide, bw_of 319 (by decide +kernel) rfl, rfl, rfl⟩
theorem fl_RX2_35 : FL RX2 35 2 18 7 false := ⟨RX2, TX2, ci_2, by decide, bw_of 322 (by decide +kernel) rfl, rfl, rfl⟩
theorem fl_RX2_38 : FL RX2 38 2 18 8 false := ⟨RX2, TX2, ci_2, by decide, bw_of 325 (by decide +kernel) rfl, rfl, rfl⟩
theorem fl_RX2_41 : FL RX2 41 2 18 9 false := ⟨RX2, TX2, ci_2, by decide, bw_of 328 (by decide +kernel) rfl, rfl, rfl⟩
theorem fl_RX2_44 : FL RX2 44 2 18 10 false := ⟨RX2, TX2, ci_2, by decide, bw_of 332 (by decide +kernel) rfl, rfl, rfl⟩
theorem fl_RX2_47 : FL RX2 47 2 18 11 false := ⟨RX2, TX2, ci_2, by decide, bw_of 336 (by decide +kernel) rfl, rfl, rfl⟩
theorem fl_RX2_50 : FL RX2 50 2 18 12 false := ⟨RX2, TX2, ci_2, by decide, bw_of 337 (by decide +kernel) rfl, rfl, rfl⟩
theorem fl_RX2_53 : FL RX2 53 2 18 13 false := ⟨RX2, TX2, ci_2, by decide, bw_of 339 (by decide +kernel) rfl, rfl, rfl⟩
theorem fl_RX2_56 : FL RX2 56 2 18 14 false := ⟨RX2, TX2, ci_2, by decide, bw_of 342 (by decide +kernel) rfl, rfl, rfl⟩
theorem fl_RX2_59 : FL RX2 59 2 18 15 false := ⟨RX2, TX2, ci_2, by decide, bw_of 343 (by decide +kernel) rfl, rfl, rfl⟩
theorem fl_RX2_62 : FL RX2 62 2 18 16 false := ⟨RX2, TX2, ci_2, by decide, bw_of 344 (by decide +kernel) rfl, rfl, rfl⟩
theorem fl_RX2_65 : FL RX2 65 2 18 17 false := ⟨RX2, TX2, ci_2, by decide, bw_of 346 (by decide +kernel) rfl, rfl, rfl⟩
abbrev MX2_copyFrom : MI := (RX2, cX2_copyFrom, 2, none, 2, none, "copyFrom")
noncomputable def X2_copyFrom (F : Nat)   (l0 : Nat) (l1 : Option Nat)  (h : HP) : Option (Unit × HP) :=
  (xgI h l1 2 18 0).bind fun v1 =>
  (xpI h (some l0) 2 18 0 v1).bind fun h2 =>
  (xgI h2 l1 2 18 1).bind fun v3 =>
  (xpI h2 (some l0) 2 18 1 v3).bind fun h4 =>
  (xgI h4 l1 2 18 2).bind fun v5 =>
  (xpI h4 (some l0) 2 18 2 v5).bind fun h6 =>
  (xgI h6 l1 2 18 3).bind fun v7 =>
  (xpI h6 (some l0) 2 18 3 v7).bind fun h8 =>
  (xgI h8 l1 2 18 4).bind fun v9 =>
  (xpZ h8 (some l0) 2 18 4 v9).bind fun h10 =>
  (xgP h10 l1 2 18 5).bind fun v11 =>
  (xpP h10 (some l0) 2 18 5 v11).bind fun h12 =>
  (xgI h12 l1 2 18 6).bind fun v13 =>
  (xpI h12 (some l0) 2 18 6 v13).bind fun h14 =>
  (xgI h14 l1 2 18 7).bind fun v15 =>
  (xpI h14 (some l0) 2 18 7 v15).bind fun h16 =>
  (xgI h16 l1 2 18 8).bind fun v17 =>
  (xpI h16 (some l0) 2 18 8 v17).bind fun h18 =>
  (xgI h18 l1 2 18 9).bind fun v19 =>
  (xpI h18 (some l0) 2 18 9 v19).bind fun h20 =>
  (xgI h20 l1 2 18 10).bind fun v21 =>
  (xpI h20 (some l0) 2 18 10 v21).bind fun h22 =>
  (xgI h22 l1 2 18 11).bind fun v23 =>
  (xpI h22 (some l0) 2 18 11 v23).bind fun h24 =>
  (xgI h24 l1 2 18 12).bind fun v25 =>
  (xpI h24 (some l0) 2 18 12 v25).bind fun h26 =>
  (xgI h26 l1 2 18 13).bind fun v27 =>
  (xpI h26 (some l0) 2 18 13 v27).bind fun h28 =>
  (xgI h28 l1 2 18 14).bind fun v29 =>
  (xpI h28 (some l0) 2 18 14 v29).bind fun h30 =>
  (xgI h30 l1 2 18 15).bind fun v31 =>
  (xpI h30 (some l0) 2 18 15 v31).bind fun h32 =>
  (xgI h32 l1 2 18 16).bind fun v33 =>
  (xpI h32 (some l0) 2 18 16 v33).bind fun h34 =>
  (xgI h34 l1 2 18 17).bind fun v35 =>
  (xpI h34 (some l0) 2 18 17 v35).bind fun h36 =>
  some ((), h36)
set_option maxRecDepth 100000 in
theorem SX2_copyFrom {K : Ctx} {F : Nat} {r : Unit} {hf : HP}     (l0 : Nat) (l1 : Option Nat)  (h : HP) (E : X2_copyFrom F   l0 l1 h = some (r, hf)) : Go K MX2_copyFrom (QM K none hf) hf 0 [(0, vr (some l0)), (1, vr l1)] [] h := by
  unfold X2_copyFrom at E
  refine go_aload_n (j := 0) (n := 1) rfl rfl dX2_copyFrom_0 rfl ?_
  refine go_aload_n (j := 1) (n := 2) rfl rfl dX2_copyFrom_1 rfl ?_
  replace E := Option.bind_eq_some_iff.mp E; obtain ⟨v1, ev1, E⟩ := E
  refine go_getI (n := 5) ev1 fl_RX2_9 rfl dX2_copyFrom_2 rfl ?_
  replace E := Option.bind_eq_some_iff.mp E; obtain ⟨h2, eh2, E⟩ := E
  refine go_putI (n := 8) eh2 fl_RX2_9 rfl dX2_copyFrom_5 rfl ?_
  refine go_aload_n (j := 0) (n := 9) rfl rfl dX2_copyFrom_8 rfl ?_
  refine go_aload_n (j := 1) (n := 10) rfl rfl dX2_copyFrom_9 rfl ?_
  replace E := Option.bind_eq_some_iff.mp E; obtain ⟨v3, ev3, E⟩ := E
  refine go_getI (n := 13) ev3 fl_RX2_15 rfl dX2_copyFrom_10 rfl ?_
  replace E := Option.bind_eq_some_iff.mp E; obtain ⟨h4, eh4, E⟩ := E
  refine go_putI (n := 16) eh4 fl_RX2_15 rfl dX2_copyFrom_13 rfl ?_
  refine go_aload_n (j := 0) (n := 17) rfl rfl dX2_copyFrom_16 rfl ?_
  refine go_aload_n (j := 1) (n := 18) rfl rfl dX2_copyFrom_17 rfl ?_
  replace E := Option.bind_eq_some_iff.mp E; obtain ⟨v5, ev5, E⟩ := E
  refine go_getI (n := 21) ev5 fl_RX2_18 rfl dX2_copyFrom_18 rfl ?_
  replace E := Option.bind_eq_some_iff.mp E; obtain ⟨h6, eh6, E⟩ := E
  refine go_putI (n := 24) eh6 fl_RX2_18 rfl dX2_copyFrom_21 rfl ?_
  refine go_aload_n (j := 0) (n := 25) rfl rfl dX2_copyFrom_24 rfl ?_
  refine go_aload_n (j := 1) (n := 26) rfl rfl dX2_copyFrom_25 rfl ?_
  replace E := Option.bind_eq_some_iff.mp E; obtain ⟨v7, ev7, E⟩ := E
  refine go_getI (n := 29) ev7 fl_RX2_21 rfl dX2_copyFrom_26 rfl ?_
  replace E := Option.bind_eq_some_iff.mp E; obtain ⟨h8, eh8, E⟩ := E
  refine go_putI (n := 32) eh8 fl_RX2_21 rfl dX2_copyFrom_29 rfl ?_
  refine go_aload_n (j := 0) (n := 33) rfl rfl dX2_copyFrom_32 rfl ?_
  refine go_aload_n (j := 1) (n := 34) rfl rfl dX2_copyFrom_33 rfl ?_
  replace E := Option.bind_eq_some_iff.mp E; obtain ⟨v9, ev9, E⟩ := E
  refine go_getI (n := 37) ev9 fl_RX2_24 rfl dX2_copyFrom_34 rfl ?_
  replace E := Option.bind_eq_some_iff.mp E; obtain ⟨h10, eh10, E⟩ := E
  refine go_putZ (n := 40) eh10 fl_RX2_24 rfl dX2_copyFrom_37 rfl ?_
  refine go_aload_n (j := 0) (n := 41) rfl rfl dX2_copyFrom_40 rfl ?_
  refine go_aload_n (j := 1) (n := 42) rfl rfl dX2_copyFrom_41 rfl ?_
  replace E := Option.bind_eq_some_iff.mp E; obtain ⟨v11, ev11, E⟩ := E
  refine go_getP (n := 45) ev11 fl_RX2_28 rfl dX2_copyFrom_42 rfl ?_
  replace E := Option.bind_eq_some_iff.mp E; obtain ⟨h12, eh12, E⟩ := E
  refine go_putP (n := 48) eh12 fl_RX2_28 rfl dX2_copyFrom_45 rfl ?_
  refine go_aload_n (j := 0) (n := 49) rfl rfl dX2_copyFrom_48 rfl ?_
  refine go_aload_n (j := 1) (n := 50) rfl rfl dX2_copyFrom_49 rfl ?_
  replace E := Option.bind_eq_some_iff.mp E; obtain ⟨v13, ev13, E⟩ := E
  refine go_getI (n := 53) ev13 fl_RX2_32 rfl dX2_copyFrom_50 rfl ?_
  replace E := Option.bind_eq_some_iff.mp E; obtain ⟨h14, eh14, E⟩ := E
  refine go_putI (n := 56) eh14 fl_RX2_32 rfl dX2_copyFrom_53 rfl ?_
  refine go_aload_n (j := 0) (n := 57) rfl rfl dX2_copyFrom_56 rfl ?_
  refine go_aload_n (j := 1) (n := 58) rfl rfl dX2_copyFrom_57 rfl ?_
  replace E := Option.bind_eq_some_iff.mp E; obtain ⟨v15, ev15, E⟩ := E
  refine go_getI (n := 61) ev15 fl_RX2_35 rfl dX2_copyFrom_58 rfl ?_
  replace E := Option.bind_eq_some_iff.mp E; obtain ⟨h16, eh16, E⟩ := E
  refine go_putI (n := 64) eh16 fl_RX2_35 rfl dX2_copyFrom_61 rfl ?_
  refine go_aload_n (j := 0) (n := 65) rfl rfl dX2_copyFrom_64 rfl ?_
  refine go_aload_n (j := 1) (n := 66) rfl rfl dX2_copyFrom_65 rfl ?_
  replace E := Option.bind_eq_some_iff.mp E; obtain ⟨v17, ev17, E⟩ := E
  refine go_getI (n := 69) ev17 fl_RX2_38 rfl dX2_copyFrom_66 rfl ?_
  replace E := Option.bind_eq_some_iff.mp E; obtain ⟨h18, eh18, E⟩ := E
  refine go_putI (n := 72) eh18 fl_RX2_38 rfl dX2_copyFrom_69 rfl ?_
  refine go_aload_n (j := 0) (n := 73) rfl rfl dX2_copyFrom_72 rfl ?_
  refine go_aload_n (j := 1) (n := 74) rfl rfl dX2_copyFrom_73 rfl ?_
  replace E := Option.bind_eq_some_iff.mp E; obtain ⟨v19, ev19, E⟩ := E
  refine go_getI (n := 77) ev19 fl_RX2_41 rfl dX2_copyFrom_74 rfl ?_
  replace E := Option.bind_eq_some_iff.mp E; obtain ⟨h20, eh20, E⟩ := E
  refine go_putI (n := 80) eh20 fl_RX2_41 rfl dX2_copyFrom_77 rfl ?_
  refine go_aload_n (j := 0) (n := 81) rfl rfl dX2_copyFrom_80 rfl ?_
  refine go_aload_n (j := 1) (n := 82) rfl rfl dX2_copyFrom_81 rfl ?_
  replace E := Option.bind_eq_some_iff.mp E; obtain ⟨v21, ev21, E⟩ := E
  refine go_getI (n := 85) ev21 fl_RX2_44 rfl dX2_copyFrom_82 rfl ?_
  replace E := Option.bind_eq_some_iff.mp E; obtain ⟨h22, eh22, E⟩ := E
  refine go_putI (n := 88) eh22 fl_RX2_44 rfl dX2_copyFrom_85 rfl ?_
  refine go_aload_n (j := 0) (n := 89) rfl rfl dX2_copyFrom_88 rfl ?_
  refine go_aload_n (j := 1) (n := 90) rfl rfl dX2_copyFrom_89 rfl ?_
  replace E := Option.bind_eq_some_iff.mp E; obtain ⟨v23, ev23, E⟩ := E
  refine go_getI (n := 93) ev23 fl_RX2_47 rfl dX2_copyFrom_90 rfl ?_
  replace E := Option.bind_eq_some_iff.mp E; obtain ⟨h24, eh24, E⟩ := E
  refine go_putI (n := 96) eh24 fl_RX2_47 rfl dX2_copyFrom_93 rfl ?_
  refine go_aload_n (j := 0) (n := 97) rfl rfl dX2_copyFrom_96 rfl ?_
  refine go_aload_n (j := 1) (n := 98) rfl rfl dX2_copyFrom_97 rfl ?_
  replace E := Option.bind_eq_some_iff.mp E; obtain ⟨v25, ev25, E⟩ := E
  refine go_getI (n := 101) ev25 fl_RX2_50 rfl dX2_copyFrom_98 rfl ?_
  replace E := Option.bind_eq_some_iff.mp E; obtain ⟨h26, eh26, E⟩ := E
  refine go_putI (n := 104) eh26 fl_RX2_50 rfl dX2_copyFrom_101 rfl ?_
  refine go_aload_n (j := 0) (n := 105) rfl rfl dX2_copyFrom_104 rfl ?_
  refine go_aload_n (j := 1) (n := 106) rfl rfl dX2_copyFrom_105 rfl ?_
  replace E := Option.bind_eq_some_iff.mp E; obtain ⟨v27, ev27, E⟩ := E
  refine go_getI (n := 109) ev27 fl_RX2_53 rfl dX2_copyFrom_106 rfl ?_
  replace E := Option.bind_eq_some_iff.mp E; obtain ⟨h28, eh28, E⟩ := E
  refine go_putI (n := 112) eh28 fl_RX2_53 rfl dX2_copyFrom_109 rfl ?_
  refine go_aload_n (j := 0) (n := 113) rfl rfl dX2_copyFrom_112 rfl ?_
  refine go_aload_n (j := 1) (n := 114) rfl rfl dX2_copyFrom_113 rfl ?_
  replace E := Option.bind_eq_some_iff.mp E; obtain ⟨v29, ev29, E⟩ := E
  refine go_getI (n := 117) ev29 fl_RX2_56 rfl dX2_copyFrom_114 rfl ?_
  replace E := Option.bind_eq_some_iff.mp E; obtain ⟨h30, eh30, E⟩ := E
  refine go_putI (n := 120) eh30 fl_RX2_56 rfl dX2_copyFrom_117 rfl ?_
  refine go_aload_n (j := 0) (n := 121) rfl rfl dX2_copyFrom_120 rfl ?_
  refine go_aload_n (j := 1) (n := 122) rfl rfl dX2_copyFrom_121 rfl ?_
  replace E := Option.bind_eq_some_iff.mp E; obtain ⟨v31, ev31, E⟩ := E
  refine go_getI (n := 125) ev31 fl_RX2_59 rfl dX2_copyFrom_122 rfl ?_
  replace E := Option.bind_eq_some_iff.mp E; obtain ⟨h32, eh32, E⟩ := E
  refine go_putI (n := 128) eh32 fl_RX2_59 rfl dX2_copyFrom_125 rfl ?_
  refine go_aload_n (j := 0) (n := 129) rfl rfl dX2_copyFrom_128 rfl ?_
  refine go_aload_n (j := 1) (n := 130) rfl rfl dX2_copyFrom_129 rfl ?_
  replace E := Option.bind_eq_some_iff.mp E; obtain ⟨v33, ev33, E⟩ := E
  refine go_getI (n := 133) ev33 fl_RX2_62 rfl dX2_copyFrom_130 rfl ?_
  replace E := Option.bind_eq_some_iff.mp E; obtain ⟨h34, eh34, E⟩ := E
  refine go_putI (n := 136) eh34 fl_RX2_62 rfl dX2_copyFrom_133 rfl ?_
  refine go_aload_n (j := 0) (n := 137) rfl rfl dX2_copyFrom_136 rfl ?_
  refine go_aload_n (j := 1) (n := 138) rfl rfl dX2_copyFrom_137 rfl ?_
  replace E := Option.bind_eq_some_iff.mp E; obtain ⟨v35, ev35, E⟩ := E
  refine go_getI (n := 141) ev35 fl_RX2_65 rfl dX2_copyFrom_138 rfl ?_
  replace E := Option.bind_eq_some_iff.mp E; obtain ⟨h36, eh36, E⟩ := E
  refine go_putI (n := 144) eh36 fl_RX2_65 rfl dX2_copyFrom_141 rfl ?_
  cases E
  exact go_return rfl dX2_copyFrom_144
theorem OX2_copyFrom {F : Nat} {l0 : Nat} {l1 : Option Nat} {h hf : HP} {r : Unit} (e : X2_copyFrom F l0 l1 h = some (r, hf)) : Ok MX2_copyFrom [vr (some l0), vr l1] none h hf := fun K _ _ _ => SX2_copyFrom l0 l1 h e
theorem fl_RX3_17 : FL RX3 17 3 7 1 true := ⟨RX3, TX3, ci_3, by decide, bw_of 387 (by decide +kernel) rfl, rfl, rfl⟩
theorem wml_RX3_115 : Cond.methodLink RX3 115 arraycopyName ∈ BW := bw_of 838 (by decide +kernel) rfl
theorem fl_RX3_21 : FL RX3 21 3 7 2 true := ⟨RX3, TX3, ci_3, by decide, bw_of 388 (by decide +kernel) rfl, rfl, rfl⟩
theorem fl_RX3_36 : FL RX3 36 3 7 5 false := ⟨RX3, TX3, ci_3, by decide, bw_of 391 (by decide +kernel) rfl, rfl, rfl⟩
theorem wml_RX3_52 : Cond.methodLink RX3 52 yX3_at ∈ BW := bw_of 659 (by decide +kernel) rfl
theorem yw_X2_copyFrom : YW yX2_copyFrom cX2_copyFrom 2 none 1 := ⟨bw_of 837 (by decide +kernel) rfl, bw_of 123 (by decide +kernel) rfl, ⟨by decide +kernel, by decide +kernel, by decide +kernel⟩, by decide +kernel⟩
theorem wml_RX3_111 : Cond.methodLink RX3 111 yX2_copyFrom ∈ BW := bw_of 834 (by decide +kernel) rfl
theorem wim_X2_copyFrom : Cond.instanceMethod yX2_copyFrom ∈ BW := bw_of 835 (by decide +kernel) rfl
theorem wse_X2_copyFrom : Cond.selects RX2 yX2_copyFrom yX2_copyFrom ∈ BW := bw_of 836 (by decide +kernel) rfl
abbrev MX3_copyFrom : MI := (RX3, cX3_copyFrom, 3, none, 3, none, "copyFrom")
noncomputable def X3_copyFrom_L2 (F : Nat)   (k : Nat) : Nat → Option Nat → Int → HP → Option (Unit × HP) :=
  Nat.rec (motive := fun _ => Nat → Option Nat → Int → HP → Option (Unit × HP)) (fun _ _ _ _ => none) (fun _ rc2 l0 l1 l2 h =>
    if 12 ≤ l2 then
      (xgP h l1 3 7 1).bind fun v2 =>
      (xgP h (some l0) 3 7 1).bind fun v3 =>
      (xcp h v2 0 v3 0 12).bind fun h4 =>
      (xgP h4 l1 3 7 2).bind fun v5 =>
      (xgP h4 (some l0) 3 7 2).bind fun v6 =>
      (xcp h4 v5 0 v6 0 12).bind fun h7 =>
      (xgI h7 l1 3 7 4).bind fun v8 =>
      (xpZ h7 (some l0) 3 7 4 v8).bind fun h9 =>
      (xgI h9 l1 3 7 5).bind fun v10 =>
      (xpI h9 (some l0) 3 7 5 v10).bind fun h11 =>
      some ((), h11)
    else
      (xrc h (some l0) 3 7).bind fun a14 =>
      xb (X3_at F a14 l2 h) fun v12 h13 =>
      (xrc h13 l1 3 7).bind fun a17 =>
      xb (X3_at F a17 l2 h13) fun v15 h16 =>
      (xrc h16 v12 2 18).bind fun a20 =>
      xb (X2_copyFrom F a20 v15 h16) fun v18 h19 =>
      rc2 l0 l1 (w32 (l2 + 1)) h19) k
theorem X3_copyFrom_L2_s (F : Nat)   (k : Nat) (l0 : Nat) (l1 : Option Nat) (l2 : Int)  (h : HP) : X3_copyFrom_L2 F   (k + 1) l0 l1 l2 h =
    if 12 ≤ l2 then
      (xgP h l1 3 7 1).bind fun v2 =>
      (xgP h (some l0) 3 7 1).bind fun v3 =>
      (xcp h v2 0 v3 0 12).bind fun h4 =>
      (xgP h4 l1 3 7 2).bind fun v5 =>
      (xgP h4 (some l0) 3 7 2).bind fun v6 =>
      (xcp h4 v5 0 v6 0 12).bind fun h7 =>
      (xgI h7 l1 3 7 4).bind fun v8 =>
      (xpZ h7 (some l0) 3 7 4 v8).bind fun h9 =>
      (xgI h9 l1 3 7 5).bind fun v10 =>
      (xpI h9 (some l0) 3 7 5 v10).bind fun h11 =>
      some ((), h11)
    else
      (xrc h (some l0) 3 7).bind fun a14 =>
      xb (X3_at F a14 l2 h) fun v12 h13 =>
      (xrc h13 l1 3 7).bind fun a17 =>
      xb (X3_at F a17 l2 h13) fun v15 h16 =>
      (xrc h16 v12 2 18).bind fun a20 =>
      xb (X2_copyFrom F a20 v15 h16) fun v18 h19 =>
      (X3_copyFrom_L2 F k) l0 l1 (w32 (l2 + 1)) h19 := rfl
set_option maxRecDepth 100000 in
theorem SX3_copyFrom_L2 {K : Ctx} {F : Nat} {r : Unit} {hf : HP}     : ∀ (k : Nat) (l0 : Nat) (l1 : Option Nat) (l2 : Int)  (h : HP), X3_copyFrom_L2 F   k l0 l1 l2 h = some (r, hf) → Go K MX3_copyFrom (QM K none hf) hf 2 [(0, vr (some l0)), (1, vr l1), (2, vi l2)] [] h := by
  intro k
  induction k with
  | zero => intro l0 l1 l2 h E; exact nomatch E
  | succ k hrc2 =>
    intro l0 l1 l2 h E
    rw [X3_copyFrom_L2_s] at E
    refine go_iload_n (j := 2) (n := 3) rfl rfl dX3_copyFrom_2 rfl ?_
    refine go_bipush (z := 12) (n := 5) ⟨by decide, by decide⟩ dX3_copyFrom_3 rfl ?_
    refine go_icmp_ge (tgt := 27) (n := 8) dX3_copyFrom_5 rfl rfl (fun c1 => ?_) (fun c1 => ?_)
    · rw [if_pos c1] at E
      refine go_aload_n (j := 1) (n := 28) rfl rfl dX3_copyFrom_27 rfl ?_
      replace E := Option.bind_eq_some_iff.mp E; obtain ⟨v2, ev2, E⟩ := E
      refine go_getP (n := 31) ev2 fl_RX3_17 rfl dX3_copyFrom_28 rfl ?_
      refine go_iconst (z := 0) (n := 32) ⟨by decide, by decide⟩ dX3_copyFrom_31 rfl ?_
      refine go_aload_n (j := 0) (n := 33) rfl rfl dX3_copyFrom_32 rfl ?_
      replace E := Option.bind_eq_some_iff.mp E; obtain ⟨v3, ev3, E⟩ := E
      refine go_getP (n := 36) ev3 fl_RX3_17 rfl dX3_copyFrom_33 rfl ?_
      refine go_iconst (z := 0) (n := 37) ⟨by decide, by decide⟩ dX3_copyFrom_36 rfl ?_
      refine go_bipush (z := 12) (n := 39) ⟨by decide, by decide⟩ dX3_copyFrom_37 rfl ?_
      replace E := Option.bind_eq_some_iff.mp E; obtain ⟨h4, eh4, E⟩ := E
      refine go_copy (n := 42) eh4 wml_RX3_115 w_copy (Nat.le_of_ble_eq_true rfl) (Nat.le_of_ble_eq_true rfl) dX3_copyFrom_39 rfl ?_
      refine go_aload_n (j := 1) (n := 43) rfl rfl dX3_copyFrom_42 rfl ?_
      replace E := Option.bind_eq_some_iff.mp E; obtain ⟨v5, ev5, E⟩ := E
      refine go_getP (n := 46) ev5 fl_RX3_21 rfl dX3_copyFrom_43 rfl ?_
      refine go_iconst (z := 0) (n := 47) ⟨by decide, by decide⟩ dX3_copyFrom_46 rfl ?_
      refine go_aload_n (j := 0) (n := 48) rfl rfl dX3_copyFrom_47 rfl ?_
      replace E := Option.bind_eq_some_iff.mp E; obtain ⟨v6, ev6, E⟩ := E
      refine go_getP (n := 51) ev6 fl_RX3_21 rfl dX3_copyFrom_48 rfl ?_
      refine go_iconst (z := 0) (n := 52) ⟨by decide, by decide⟩ dX3_copyFrom_51 rfl ?_
      refine go_bipush (z := 12) (n := 54) ⟨by decide, by decide⟩ dX3_copyFrom_52 rfl ?_
      replace E := Option.bind_eq_some_iff.mp E; obtain ⟨h7, eh7, E⟩ := E
      refine go_copy (n := 57) eh7 wml_RX3_115 w_copy (Nat.le_of_ble_eq_true rfl) (Nat.le_of_ble_eq_true rfl) dX3_copyFrom_54 rfl ?_
      refine go_aload_n (j := 0) (n := 58) rfl rfl dX3_copyFrom_57 rfl ?_
      refine go_aload_n (j := 1) (n := 59) rfl rfl dX3_copyFrom_58 rfl ?_
      replace E := Option.bind_eq_some_iff.mp E; obtain ⟨v8, ev8, E⟩ := E
      refine go_getI (n := 62) ev8 fl_RX3_27 rfl dX3_copyFrom_59 rfl ?_
      replace E := Option.bind_eq_some_iff.mp E; obtain ⟨h9, eh9, E⟩ := E
      refine go_putZ (n := 65) eh9 fl_RX3_27 rfl dX3_copyFrom_62 rfl ?_
      refine go_aload_n (j := 0) (n := 66) rfl rfl dX3_copyFrom_65 rfl ?_
      refine go_aload_n (j := 1) (n := 67) rfl rfl dX3_copyFrom_66 rfl ?_
      replace E := Option.bind_eq_some_iff.mp E; obtain ⟨v10, ev10, E⟩ := E
      refine go_getI (n := 70) ev10 fl_RX3_36 rfl dX3_copyFrom_67 rfl ?_
      replace E := Option.bind_eq_some_iff.mp E; obtain ⟨h11, eh11, E⟩ := E
      refine go_putI (n := 73) eh11 fl_RX3_36 rfl dX3_copyFrom_70 rfl ?_
      cases E
      exact go_return rfl dX3_copyFrom_73
    · rw [if_neg c1] at E
      refine go_aload_n (j := 0) (n := 9) rfl rfl dX3_copyFrom_8 rfl ?_
      refine go_iload_n (j := 2) (n := 10) rfl rfl dX3_copyFrom_9 rfl ?_
      replace E := Option.bind_eq_some_iff.mp E; obtain ⟨a14, ea14, E⟩ := E
      obtain ⟨fa14, ga14⟩ := xrc_some ea14
      replace E := xb_some E; obtain ⟨v12, h13, ev12, E⟩ := E
      refine go_callV (y := yX3_at) (n := 13) (st := []) (as := [vi l2]) (stk9 := [vr v12]) (OX3_at ev12) yw_X3_at ci_3 ga14 wml_RX3_52 wim_X3_at wse_X3_at (Nat.le_of_ble_eq_true rfl) rfl ⟨Nat.le_of_ble_eq_true rfl, Nat.le_of_ble_eq_true rfl⟩ (Nat.le_of_ble_eq_true rfl) dX3_copyFrom_10 rfl (by cases fa14; rfl) rfl ?_
      refine go_aload_n (j := 1) (n := 14) rfl rfl dX3_copyFrom_13 rfl ?_
      refine go_iload_n (j := 2) (n := 15) rfl rfl dX3_copyFrom_14 rfl ?_
      replace E := Option.bind_eq_some_iff.mp E; obtain ⟨a17, ea17, E⟩ := E
      obtain ⟨fa17, ga17⟩ := xrc_some ea17
      replace E := xb_some E; obtain ⟨v15, h16, ev15, E⟩ := E
      refine go_callV (y := yX3_at) (n := 18) (st := [vr v12]) (as := [vi l2]) (stk9 := [vr v15, vr v12]) (OX3_at ev15) yw_X3_at ci_3 ga17 wml_RX3_52 wim_X3_at wse_X3_at (Nat.le_of_ble_eq_true rfl) rfl ⟨Nat.le_of_ble_eq_true rfl, Nat.le_of_ble_eq_true rfl⟩ (Nat.le_of_ble_eq_true rfl) dX3_copyFrom_15 rfl (by cases fa17; rfl) rfl ?_
      replace E := Option.bind_eq_some_iff.mp E; obtain ⟨a20, ea20, E⟩ := E
      obtain ⟨fa20, ga20⟩ := xrc_some ea20
      replace E := xb_some E; obtain ⟨v18, h19, ev18, E⟩ := E
      refine go_callV (y := yX2_copyFrom) (n := 21) (st := []) (as := [vr v15]) (stk9 := []) (OX2_copyFrom ev18) yw_X2_copyFrom ci_2 ga20 wml_RX3_111 wim_X2_copyFrom wse_X2_copyFrom (Nat.le_of_ble_eq_true rfl) rfl ⟨Nat.le_of_ble_eq_true rfl, Nat.le_of_ble_eq_true rfl⟩ (Nat.le_of_ble_eq_true rfl) dX3_copyFrom_18 rfl (by cases fa20; rfl) rfl ?_
      refine go_iinc (j := 2) (n := 24) (lv' := [(2, vi (w32 (l2 + 1))), (0, vr (some l0)), (1, vr l1)]) rfl dX3_copyFrom_21 rfl (Nat.le_of_ble_eq_true rfl) rfl ?_
      refine go_goto (tgt := 2) dX3_copyFrom_24 rfl ?_
      refine go_pick (lv' := [(0, vr (some l0)), (1, vr l1), (2, vi (w32 (l2 + 1)))]) [1, 2, 0] rfl ?_
      exact hrc2 _ _ _ _ E
noncomputable def X3_copyFrom (F : Nat)   (l0 : Nat) (l1 : Option Nat)  (h : HP) : Option (Unit × HP) :=
  X3_copyFrom_L2 F F l0 l1 0 h
set_option maxRecDepth 100000 in
theorem SX3_copyFrom {K : Ctx} {F : Nat} {r : Unit} {hf : HP}     (l0 : Nat) (l1 : Option Nat)  (h : HP) (E : X3_copyFrom F   l0 l1 h = some (r, hf)) : Go K MX3_copyFrom (QM K none hf) hf 0 [(0, vr (some l0)), (1, vr l1)] [] h := by
  unfold X3_copyFrom at E
  refine go_iconst (z := 0) (n := 1) ⟨by decide, by decide⟩ dX3_copyFrom_0 rfl ?_
  refine go_istore_n (n := 2) (lv' := [(2, vi 0), (0, vr (some l0)), (1, vr l1)]) rfl dX3_copyFrom_1 rfl (Nat.le_of_ble_eq_true rfl) rfl ?_
  refine go_pick (lv' := [(0, vr (some l0)), (1, vr l1), (2, vi 0)]) [1, 2, 0] rfl ?_
  exact SX3_copyFrom_L2     F _ _ _ _ E
theorem OX3_copyFrom {F : Nat} {l0 : Nat} {l1 : Option Nat} {h hf : HP} {r : Unit} (e : X3_copyFrom F l0 l1 h = some (r, hf)) : Ok MX3_copyFrom [vr (some l0), vr l1] none h hf := fun K _ _ _ => SX3_copyFrom l0 l1 h e
