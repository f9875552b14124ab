def BW : List Cond := lw_tbl.filter goodWord
theorem bw_of {w : Cond} (i : Nat) (h : lw_tbl[i]? = some w) (g : goodWord w = true) : w ∈ BW := List.mem_filter.mpr ⟨List.mem_of_getElem? h, g⟩
theorem bw_good (y : MethodName) (b : ByteArray) (n : Nat) (t : Option FieldType) (h : Cond.code y b n t ∈ BW) : GoodIn BW (Cond.code y b n t :: BW) := by
  intro w hw
  have h1 : w ∈ BW := by
    rcases List.mem_cons.mp hw with q | q
    · rw [q]; exact h
    · exact q
  exact ⟨h1, good_of_word (List.mem_filter.mp h1).2⟩
theorem bw_lay (C : String) (T : u_T) (N : Nat) (h : ∀ w ∈ u_ws C T N, w ∈ lw_tbl) : ∀ w ∈ u_ws C T N, w ∈ BW := by
  intro w hw
  refine List.mem_filter.mpr ⟨h w hw, ?_⟩
  obtain ⟨k, -, rfl⟩ := List.mem_map.mp hw
  unfold u_lay
  split <;> rfl
/-- a class whose objects the heap holds: number, name, fields -/
def CI (ci : Nat) (C : String) (T : u_T) (N : Nat) : Prop := vwCl[ci]? = some (C, T, N) ∧ (∀ w ∈ u_ws C T N, w ∈ BW) ∧ (∀ k, k < N → parseFieldDescriptor (T k).2.2.1 = some (ftp ci k)) ∧ (∀ a, a < N → ∀ b, b < N → a ≠ b → (T a).2.1 ≠ (T b).2.1) ∧ ci < 99

theorem ci_0 : CI 0 RX0 TX0 10 := ⟨rfl, bw_lay _ _ _ inX0, tyX0_ok, nmX0, by decide⟩
theorem ci_1 : CI 1 RX1 TX1 8 := ⟨rfl, bw_lay _ _ _ inX1, tyX1_ok, nmX1, by decide⟩
theorem ci_2 : CI 2 RX2 TX2 18 := ⟨rfl, bw_lay _ _ _ inX2, tyX2_ok, nmX2, by decide⟩
theorem ci_3 : CI 3 RX3 TX3 7 := ⟨rfl, bw_lay _ _ _ inX3, tyX3_ok, nmX3, by decide⟩
theorem ci_4 : CI 4 RX4 TX4 12 := ⟨rfl, bw_lay _ _ _ inX4, tyX4_ok, nmX4, by decide⟩
theorem ci_5 : CI 5 RX5 TX5 6 := ⟨rfl, bw_lay _ _ _ inX5, tyX5_ok, nmX5, by decide⟩
theorem ci_6 : CI 6 RX6 TX6 15 := ⟨rfl, bw_lay _ _ _ inX6, tyX6_ok, nmX6, by decide⟩
theorem ci_7 : CI 7 RX7 TX7 10 := ⟨rfl, bw_lay _ _ _ inX7, tyX7_ok, nmX7, by decide⟩
theorem ci_8 : CI 8 RX8 TX8 17 := ⟨rfl, bw_lay _ _ _ inX8, tyX8_ok, nmX8, by decide⟩
theorem ci_9 : CI 9 RX9 TX9 4 := ⟨rfl, bw_lay _ _ _ inX9, tyX9_ok, nmX9, by decide⟩
theorem ci_10 : CI 10 RX10 TX10 10 := ⟨rfl, bw_lay _ _ _ inX10, tyX10_ok, nmX10, by decide⟩
theorem ci_11 : CI 11 RX11 TX11 6 := ⟨rfl, bw_lay _ _ _ inX11, tyX11_ok, nmX11, by decide⟩
theorem ci_12 : CI 12 RX12 TX12 31 := ⟨rfl, bw_lay _ _ _ inX12, tyX12_ok, nmX12, by decide⟩
abbrev tyl (tc : Nat → ClassId) : List (ClassId × FieldType) := [(tc 0, FieldType.int), (tc 1, .long), (tc 2, .byte), (tc 3, .boolean), (tc 4, .object "TeaNight$Job")]
def STR : List (String × Nat × String) := [("TeaNight$Tape", 181, "repeat set sum from to round by ask stop if or and not word old day weather "), ("TeaNightModel", 222, "repeat"), ("TeaNightModel", 224, "set"), ("TeaNightModel", 226, "sum"), ("TeaNightModel", 228, "round"), ("TeaNightModel", 230, "ask"), ("TeaNightModel", 232, "stop"), ("TeaNightModel", 208, "if"), ("TeaNightModel", 190, "not"), ("TeaNightModel", 162, "day"), ("TeaNightModel", 164, "weather"), ("TeaNightModel", 166, "old"), ("TeaNightModel", 168, "word"), ("TeaNightModel", 201, "and"), ("TeaNightModel", 206, "or"), ("TeaNightModel", 216, "from"), ("TeaNightModel", 218, "to"), ("TeaNightModel", 220, "by"),
  ("TeaNight", 347, "the number is none"), ("TeaNight", 344, "there is none such"), ("TeaNight", 96, "the text is wrong"), ("TeaNight", 112, "there are 12 jobs"), ("TeaNight", 172, "the machine would be out too long"), ("TeaNight", 349, "nothing such is told"), ("TeaNight", 193, "no bit is turned"), ("TeaNight", 263, "there are 20 workers"), ("TeaNight", 272, "the wages are paid"), ("TeaNight", 304, "no such row")]
/-- the texts of the first 18, as bytes -/
def STB (j : Nat) : List Int32 := (((STR[j]?.getD ("", 0, "")).2.2).toList.map (fun c => Int32.ofNat c.toNat))
def NWl : List Cond := [.methodLinkNest "TeaNight" 11 yX8_init "TeaNight", .methodLinkNest "TeaNight" 22 yX4_init "TeaNight", .methodLinkNest "TeaNight" 32 yX6_init "TeaNight", .methodLinkNest "TeaNight$Doer" 11 yX7_init "TeaNight", .methodLinkNest "TeaNight$Doer" 74 yX11_outOfBounds "TeaNight", .methodLinkNest "TeaNight$Jobs" 31 yX2_init "TeaNight", .methodLinkNest "TeaNight$Night" 11 yX1_init "TeaNight", .methodLinkNest "TeaNight$Night" 32 yX10_init "TeaNight", .methodLinkNest "TeaNight$Night" 46 yX5_init "TeaNight"]
def NCl : List (String × String) := [("java/lang/IllegalArgumentException", "java/lang/IndexOutOfBoundsException"), ("java/util/NoSuchElementException", "java/lang/IndexOutOfBoundsException"), ("java/lang/UnsupportedOperationException", "java/lang/IllegalArgumentException"), ("java/lang/IllegalStateException", "java/lang/IllegalArgumentException"), ("java/lang/IllegalStateException", "java/lang/IndexOutOfBoundsException")]
def XCl : List String := ["java/lang/IllegalArgumentException", "java/lang/IndexOutOfBoundsException", "java/lang/UnsupportedOperationException", "java/lang/IllegalStateException", "java/util/NoSuchElementException"]
def XWl : List Cond := [.declares (Bundle.initS "java/lang/RuntimeException"), .declares (Bundle.initS "java/lang/Exception"), .declares (Bundle.initS "java/lang/Throwable"), .castable "java/lang/IllegalArgumentException" "java/lang/IllegalArgumentException", .castable "java/lang/IndexOutOfBoundsException" "java/lang/IndexOutOfBoundsException", .castable "java/lang/UnsupportedOperationException" "java/lang/UnsupportedOperationException", .castable "java/lang/IllegalStateException" "java/lang/IllegalStateException", .castable "java/util/NoSuchElementException" "java/util/NoSuchElementException"]
/-- what of the start stays true of the machine outside the heap's places: statics, texts, words of the nest -/
def SF (A : Nat → Prop) (ad0 : Nat → Nat) (U : State) (H : Heap) : Prop :=
  vx_Zq Bundle.tN "UNASSIGNED_STACK" Bundle.steD A U H ∧ vx_Zq Bundle.tN "SUPPRESSED_SENTINEL" Bundle.listD A U H ∧
  (∀ j : Nat, j < 18 → va_O "java/lang/String" (ad0 (1000000 + j)) A U H ∧ va_OF "java/lang/String" "coder" "B" (.int 0) (ad0 (1000000 + j)) A U H ∧ va_OF "java/lang/String" "value" "[B" (.ref (ad0 (2000000 + j))) (ad0 (1000000 + j)) A U H ∧ va_T .byte (ad0 (2000000 + j)) (STB j).length (fun k => .int ((STB j).getD k 0)) A U H) ∧
  (∀ (j : Nat) (q : String × Nat × String), STR[j]? = some q → vk_R q.1 q.2.1 q.2.2 (ad0 (1000000 + j)) U) ∧
  (∀ w ∈ NWl, va_Nw w U) ∧ (∀ q ∈ NCl, va_Nc q.1 q.2 U) ∧ va_Z "java/lang/String" "COMPACT_STRINGS" "Z" (.int 1) A U H ∧ va_AO "TeaNight$Job" U ∧ (∀ w ∈ XWl, va_Nw w U) ∧ (va_Z "jdk/internal/util/Preconditions" "SIOOBE_FORMATTER" "Ljava/util/function/BiFunction;" .null A U H ∨ va_Z "jdk/internal/util/Preconditions" "SIOOBE_FORMATTER" "Ljava/util/function/BiFunction;" (.ref (ad0 3000000)) A U H)
def Am (p : Program) (l : Launch) (R : Room) (s : State) (m : MethodId) (args : Array Value) (meth : Method) (c : Code) (D : va_G) (tc : Nat → ClassId) (A : Nat → Prop) (ad0 : Nat → Nat) (n0 c0 s0 : Nat) (own : String) (cc : ByteArray) (nL : Nat) (ret : Option FieldType) (d : Nat) (tb : Option (List ExceptionTableEntry)) (nm : String) (hf : HP) : Prop :=
  p.tables.exec = Jvm.exec ∧ c.code = cc ∧ c.maxLocals = nL ∧ s.vm.findClass own = some m.cls ∧ (∀ w ∈ BW, w.before args s = true) ∧ va_K D vwCl (tyl tc) s ∧ meth.locks = false ∧ meth.sig.returnType = ret ∧ SF A ad0 s s.heap ∧ (∀ q, s.heap.size ≤ q → A q) ∧ (d ≤ R.frames ∧ 100 * d ≤ R.locals ∧ gc hf - c0 ≤ R.cells ∧ gs hf - s0 ≤ R.slots) ∧ l.stackTraces = false ∧ (∀ T, tb = some T → c.exceptionTable.toList = T) ∧ meth.name = nm
/-- from here the method comes to its end Q, with hf the heap at its end (only its counts matter here) -/
def GoE (p : Program) (l : Launch) (e : Env) (R : Room) (s : State) (m : MethodId) (args : Array Value) (below : List Frame) (meth : Method) (c : Code) (D : va_G) (tc : Nat → ClassId) (A : Nat → Prop) (ad0 : Nat → Nat) (n0 c0 s0 : Nat) (own : String) (cc : ByteArray) (nL : Nat) (ret : Option FieldType) (d : Nat) (tb : Option (List ExceptionTableEntry)) (nm : String) (Q : State → Prop) (hf : HP) (pc : Nat) (lv : List (Nat × AV)) (st : List AV) (h : HP) : Prop :=
  Mo h hf ∧ (Am p l R s m args meth c D tc A ad0 n0 c0 s0 own cc nL ret d tb nm hf → WFh h → wvl (gn h) lv → wvs (gn h) st → n0 ≤ gn h → c0 ≤ gc h → s0 ≤ gs h →
    ∀ (ad : Nat → Nat) (H : Heap) (locs : List Loc) (ls : Array Slot), (∀ r, okr n0 r → ad r = ad0 r) → va_P D vwCl (hpool tc ad h) H → va_D A (hpool tc ad h) → va_S A s.heap H locs → lv_has ls nL (tl ad lv) →
      W p l e R s m args below meth c H locs (gc h - c0) (gs h - s0) Q (F0 m pc ls (st.map (tv ad))))
abbrev Ctx : Type := Program × Launch × Env × Room × State × MethodId × Array Value × List Frame × Method × Code × va_G × (Nat → ClassId) × (Nat → Prop) × (Nat → Nat) × Nat × Nat × Nat
abbrev MI : Type := String × ByteArray × Nat × Option FieldType × Nat × Option (List ExceptionTableEntry) × String
def kS (K : Ctx) : State := K.2.2.2.2.1
def kArgs (K : Ctx) : Array Value := K.2.2.2.2.2.2.1
def kBelow (K : Ctx) : List Frame := K.2.2.2.2.2.2.2.1
def kD (K : Ctx) : va_G := K.2.2.2.2.2.2.2.2.2.2.1
def kTc (K : Ctx) : Nat → ClassId := K.2.2.2.2.2.2.2.2.2.2.2.1
def kA (K : Ctx) : Nat → Prop := K.2.2.2.2.2.2.2.2.2.2.2.2.1
def kAd (K : Ctx) : Nat → Nat := K.2.2.2.2.2.2.2.2.2.2.2.2.2.1
def kN (K : Ctx) : Nat := K.2.2.2.2.2.2.2.2.2.2.2.2.2.2.1
def kC (K : Ctx) : Nat := K.2.2.2.2.2.2.2.2.2.2.2.2.2.2.2.1
def kSl (K : Ctx) : Nat := K.2.2.2.2.2.2.2.2.2.2.2.2.2.2.2.2
def Go (K : Ctx) (M : MI) (Q : State → Prop) (hf : HP) (pc : Nat) (lv : List (Nat × AV)) (st : List AV) (h : HP) : Prop :=
  GoE K.1 K.2.1 K.2.2.1 K.2.2.2.1 K.2.2.2.2.1 K.2.2.2.2.2.1 K.2.2.2.2.2.2.1 K.2.2.2.2.2.2.2.1 K.2.2.2.2.2.2.2.2.1 K.2.2.2.2.2.2.2.2.2.1 K.2.2.2.2.2.2.2.2.2.2.1 K.2.2.2.2.2.2.2.2.2.2.2.1 K.2.2.2.2.2.2.2.2.2.2.2.2.1 K.2.2.2.2.2.2.2.2.2.2.2.2.2.1 K.2.2.2.2.2.2.2.2.2.2.2.2.2.2.1 K.2.2.2.2.2.2.2.2.2.2.2.2.2.2.2.1 K.2.2.2.2.2.2.2.2.2.2.2.2.2.2.2.2 M.1 M.2.1 M.2.2.1 M.2.2.2.1 M.2.2.2.2.1 M.2.2.2.2.2.1 M.2.2.2.2.2.2 Q hf pc lv st h
theorem wvs_c {n : Nat} {v : AV} {st : List AV} (h : wvs n (v :: st)) : wv n v ∧ wvs n st := List.forall_mem_cons.mp h
theorem wvs_k {n : Nat} {v : AV} {st : List AV} (h1 : wv n v) (h2 : wvs n st) : wvs n (v :: st) := List.forall_mem_cons.mpr ⟨h1, h2⟩
theorem wv_cast {n n' : Nat} {v : AV} (h : wv n v) (e : n' = n) : wv n' v := by rw [e]; exact h
section GO
variable {K : Ctx} {M : MI} {Q : State → Prop} {hf : HP} {pc n : Nat} {lv : List (Nat × AV)} {st : List AV} {h : HP}

theorem go_iconst {z : Int} (hz : -1 ≤ z ∧ z ≤ 5) (hd : decode M.2.1 pc = .ok (.iconst z, 1)) (hn : pc + 1 = n) (k : Go K M Q hf n lv (vi z :: st) h) : Go K M Q hf pc lv (st) h := by
  obtain ⟨p, l, e, R, s, m, args, below, meth, c, D, tc, A, ad0, n0, c0, s0⟩ := K
  obtain ⟨own, cc, nL, ret, d, tb, nm⟩ := M
  subst hn
  refine ⟨k.1, fun hA wf wl ws g1 g2 g3 ad H locs ls he hR hD hS hl => ?_⟩
  obtain ⟨hx, hb, hml, hown, hts, hK, -⟩ := id hA
  have wk : wvs (gn h) (vi z :: st) := wvs_k (by unfold wv in32; omega) ws
  have kk := k.2 hA wf wl wk g1 g2 g3 ad H locs ls he hR hD hS hl
  exact lv_iconst hx hb hd rfl kk
theorem go_bipush {z : Int} (hz : -128 ≤ z ∧ z < 128) (hd : decode M.2.1 pc = .ok (.bipush z, 2)) (hn : pc + 2 = n) (k : Go K M Q hf n lv (vi z :: st) h) : Go K M Q hf pc lv (st) h := by
  obtain ⟨p, l, e, R, s, m, args, below, meth, c, D, tc, A, ad0, n0, c0, s0⟩ := K
  obtain ⟨own, cc, nL, ret, d, tb, nm⟩ := M
  subst hn
  refine ⟨k.1, fun hA wf wl ws g1 g2 g3 ad H locs ls he hR hD hS hl => ?_⟩
  obtain ⟨hx, hb, hml, hown, hts, hK, -⟩ := id hA
  have wk : wvs (gn h) (vi z :: st) := wvs_k (by unfold wv in32; omega) ws
  have kk := k.2 hA wf wl wk g1 g2 g3 ad H locs ls he hR hD hS hl
  refine lv_bipush hx hb hd ?_ kk
  apply Int32.toInt_inj.mp
  rw [Int8.toInt_toInt32, Int8.toInt_ofInt_of_le (by omega) (by omega), t32i (by unfold in32; omega)]
theorem go_sipush {z : Int} (hz : -32768 ≤ z ∧ z < 32768) (hd : decode M.2.1 pc = .ok (.sipush z, 3)) (hn : pc + 3 = n) (k : Go K M Q hf n lv (vi z :: st) h) : Go K M Q hf pc lv (st) h := by
  obtain ⟨p, l, e, R, s, m, args, below, meth, c, D, tc, A, ad0, n0, c0, s0⟩ := K
  obtain ⟨own, cc, nL, ret, d, tb, nm⟩ := M
  subst hn
  refine ⟨k.1, fun hA wf wl ws g1 g2 g3 ad H locs ls he hR hD hS hl => ?_⟩
  obtain ⟨hx, hb, hml, hown, hts, hK, -⟩ := id hA
  have wk : wvs (gn h) (vi z :: st) := wvs_k (by unfold wv in32; omega) ws
  have kk := k.2 hA wf wl wk g1 g2 g3 ad H locs ls he hR hD hS hl
  refine lv_sipush hx hb hd ?_ kk
  apply Int32.toInt_inj.mp
  rw [Int16.toInt_toInt32, Int16.toInt_ofInt_of_le (by omega) (by omega), t32i (by unfold in32; omega)]
theorem go_lconst {z : Fin 2} {w : Int} (hw9 : ((z : Nat) : Int) = w) (hd : decode M.2.1 pc = .ok (.lconst z, 1)) (hn : pc + 1 = n) (k : Go K M Q hf n lv (vl w :: st) h) : Go K M Q hf pc lv (st) h := by
  obtain ⟨p, l, e, R, s, m, args, below, meth, c, D, tc, A, ad0, n0, c0, s0⟩ := K
  obtain ⟨own, cc, nL, ret, d, tb, nm⟩ := M
  subst hn
  refine ⟨k.1, fun hA wf wl ws g1 g2 g3 ad H locs ls he hR hD hS hl => ?_⟩
  obtain ⟨hx, hb, hml, hown, hts, hK, -⟩ := id hA
  subst hw9
  have wk : wvs (gn h) (vl ((z : Nat) : Int) :: st) := wvs_k (by have := z.isLt; unfold wv in64; omega) ws
  have kk := k.2 hA wf wl wk g1 g2 g3 ad H locs ls he hR hD hS hl
  refine lv_lconst hx hb hd ?_ kk
  have := z.isLt
  apply Int64.toInt_inj.mp
  rw [t64i (by unfold in64; omega), Int64.toInt_ofNat_of_lt (by omega)]
theorem go_ldc {z : Int} {i : Nat} (hz : -2147483648 ≤ z ∧ z < 2147483648) (hw : Cond.constant M.1 i (Int32.ofInt z) ∈ BW) (hd : decode M.2.1 pc = .ok (.ldc i, 2)) (hn : pc + 2 = n) (k : Go K M Q hf n lv (vi z :: st) h) : Go K M Q hf pc lv (st) h := by
  obtain ⟨p, l, e, R, s, m, args, below, meth, c, D, tc, A, ad0, n0, c0, s0⟩ := K
  obtain ⟨own, cc, nL, ret, d, tb, nm⟩ := M
  subst hn
  refine ⟨k.1, fun hA wf wl ws g1 g2 g3 ad H locs ls he hR hD hS hl => ?_⟩
  obtain ⟨hx, hb, hml, hown, hts, hK, -⟩ := id hA
  have wk : wvs (gn h) (vi z :: st) := wvs_k hz ws
  have kk := k.2 hA wf wl wk g1 g2 g3 ad H locs ls he hR hD hS hl
  exact lv_ldc hx hb hown (hts _ hw) hd kk
theorem go_ldcw {z : Int} {i : Nat} (hz : -2147483648 ≤ z ∧ z < 2147483648) (hw : Cond.constant M.1 i (Int32.ofInt z) ∈ BW) (hd : decode M.2.1 pc = .ok (.ldc_w i, 3)) (hn : pc + 3 = n) (k : Go K M Q hf n lv (vi z :: st) h) : Go K M Q hf pc lv (st) h := by
  obtain ⟨p, l, e, R, s, m, args, below, meth, c, D, tc, A, ad0, n0, c0, s0⟩ := K
  obtain ⟨own, cc, nL, ret, d, tb, nm⟩ := M
  subst hn
  refine ⟨k.1, fun hA wf wl ws g1 g2 g3 ad H locs ls he hR hD hS hl => ?_⟩
  obtain ⟨hx, hb, hml, hown, hts, hK, -⟩ := id hA
  have wk : wvs (gn h) (vi z :: st) := wvs_k hz ws
  have kk := k.2 hA wf wl wk g1 g2 g3 ad H locs ls he hR hD hS hl
  exact lv_ldcw hx hb hown (hts _ hw) hd kk
theorem go_ldc2 {z : Int} {i : Nat} (hz : -9223372036854775808 ≤ z ∧ z < 9223372036854775808) (hw : Cond.constantLong M.1 i (Int64.ofInt z) ∈ BW) (hd : decode M.2.1 pc = .ok (.ldc2_w i, 3)) (hn : pc + 3 = n) (k : Go K M Q hf n lv (vl z :: st) h) : Go K M Q hf pc lv (st) h := by
  obtain ⟨p, l, e, R, s, m, args, below, meth, c, D, tc, A, ad0, n0, c0, s0⟩ := K
  obtain ⟨own, cc, nL, ret, d, tb, nm⟩ := M
  subst hn
  refine ⟨k.1, fun hA wf wl ws g1 g2 g3 ad H locs ls he hR hD hS hl => ?_⟩
  obtain ⟨hx, hb, hml, hown, hts, hK, -⟩ := id hA
  have wk : wvs (gn h) (vl z :: st) := wvs_k hz ws
  have kk := k.2 hA wf wl wk g1 g2 g3 ad H locs ls he hR hD hS hl
  exact lv_ldc2 hx hb hown (hts _ hw) hd kk
theorem go_null   (hd : decode M.2.1 pc = .ok (.aconst_null, 1)) (hn : pc + 1 = n) (k : Go K M Q hf n lv (vr none :: st) h) : Go K M Q hf pc lv (st) h := by
  obtain ⟨p, l, e, R, s, m, args, below, meth, c, D, tc, A, ad0, n0, c0, s0⟩ := K
  obtain ⟨own, cc, nL, ret, d, tb, nm⟩ := M
  subst hn
  refine ⟨k.1, fun hA wf wl ws g1 g2 g3 ad H locs ls he hR hD hS hl => ?_⟩
  obtain ⟨hx, hb, hml, hown, hts, hK, -⟩ := id hA
  have wk : wvs (gn h) (vr none :: st) := wvs_k (fun a q => by cases q) ws
  have kk := k.2 hA wf wl wk g1 g2 g3 ad H locs ls he hR hD hS hl
  exact lv_null hx hb hd kk
theorem tl_at {ad : Nat → Nat} {ls : Array Slot} {nL : Nat} {lv : List (Nat × AV)} (hl : lv_has ls nL (tl ad lv)) {j i : Nat} {v : AV} (hj : lv[j]? = some (i, v)) : ls[i]? = some (.val (tv ad v)) :=
  hl.2.2 (i, tv ad v) (List.mem_map.mpr ⟨(i, v), List.mem_of_getElem? hj, rfl⟩)
theorem wvl_at {n : Nat} {lv : List (Nat × AV)} (h : wvl n lv) {j i : Nat} {v : AV} (hj : lv[j]? = some (i, v)) : wv n v := h (i, v) (List.mem_of_getElem? hj)
theorem go_iload_n {z : Int} {q : Fin 4} {i j : Nat} (hi : (q : Nat) = i) (hj : lv[j]? = some (i, vi z)) (hd : decode M.2.1 pc = .ok (.iload_n q, 1)) (hn : pc + 1 = n) (k : Go K M Q hf n lv (vi z :: st) h) : Go K M Q hf pc lv (st) h := by
  obtain ⟨p, l, e, R, s, m, args, below, meth, c, D, tc, A, ad0, n0, c0, s0⟩ := K
  obtain ⟨own, cc, nL, ret, d, tb, nm⟩ := M
  subst hn
  refine ⟨k.1, fun hA wf wl ws g1 g2 g3 ad H locs ls he hR hD hS hl => ?_⟩
  obtain ⟨hx, hb, hml, hown, hts, hK, -⟩ := id hA
  have wk : wvs (gn h) (vi z :: st) := wvs_k (wvl_at wl hj) ws
  have kk := k.2 hA wf wl wk g1 g2 g3 ad H locs ls he hR hD hS hl
  exact lv_iload_n hx hb hd hi (tl_at hl hj) kk
theorem go_iload {z : Int} {i j : Nat} (hj : lv[j]? = some (i, vi z)) (hd : decode M.2.1 pc = .ok (.iload i, 2)) (hn : pc + 2 = n) (k : Go K M Q hf n lv (vi z :: st) h) : Go K M Q hf pc lv (st) h := by
  obtain ⟨p, l, e, R, s, m, args, below, meth, c, D, tc, A, ad0, n0, c0, s0⟩ := K
  obtain ⟨own, cc, nL, ret, d, tb, nm⟩ := M
  subst hn
  refine ⟨k.1, fun hA wf wl ws g1 g2 g3 ad H locs ls he hR hD hS hl => ?_⟩
  obtain ⟨hx, hb, hml, hown, hts, hK, -⟩ := id hA
  have wk : wvs (gn h) (vi z :: st) := wvs_k (wvl_at wl hj) ws
  have kk := k.2 hA wf wl wk g1 g2 g3 ad H locs ls he hR hD hS hl
  exact lv_iload hx hb hd (tl_at hl hj) kk
theorem go_lload_n {z : Int} {q : Fin 4} {i j : Nat} (hi : (q : Nat) = i) (hj : lv[j]? = some (i, vl z)) (hd : decode M.2.1 pc = .ok (.lload_n q, 1)) (hn : pc + 1 = n) (k : Go K M Q hf n lv (vl z :: st) h) : Go K M Q hf pc lv (st) h := by
  obtain ⟨p, l, e, R, s, m, args, below, meth, c, D, tc, A, ad0, n0, c0, s0⟩ := K
  obtain ⟨own, cc, nL, ret, d, tb, nm⟩ := M
  subst hn
  refine ⟨k.1, fun hA wf wl ws g1 g2 g3 ad H locs ls he hR hD hS hl => ?_⟩
  obtain ⟨hx, hb, hml, hown, hts, hK, -⟩ := id hA
  have wk : wvs (gn h) (vl z :: st) := wvs_k (wvl_at wl hj) ws
  have kk := k.2 hA wf wl wk g1 g2 g3 ad H locs ls he hR hD hS hl
  exact lv_lload_n hx hb hd hi (tl_at hl hj) kk
theorem go_lload {z : Int} {i j : Nat} (hj : lv[j]? = some (i, vl z)) (hd : decode M.2.1 pc = .ok (.lload i, 2)) (hn : pc + 2 = n) (k : Go K M Q hf n lv (vl z :: st) h) : Go K M Q hf pc lv (st) h := by
  obtain ⟨p, l, e, R, s, m, args, below, meth, c, D, tc, A, ad0, n0, c0, s0⟩ := K
  obtain ⟨own, cc, nL, ret, d, tb, nm⟩ := M
  subst hn
  refine ⟨k.1, fun hA wf wl ws g1 g2 g3 ad H locs ls he hR hD hS hl => ?_⟩
  obtain ⟨hx, hb, hml, hown, hts, hK, -⟩ := id hA
  have wk : wvs (gn h) (vl z :: st) := wvs_k (wvl_at wl hj) ws
  have kk := k.2 hA wf wl wk g1 g2 g3 ad H locs ls he hR hD hS hl
  exact lv_lload hx hb hd (tl_at hl hj) kk
theorem go_aload_n {r : Option Nat} {q : Fin 4} {i j : Nat} (hi : (q : Nat) = i) (hj : lv[j]? = some (i, vr r)) (hd : decode M.2.1 pc = .ok (.aload_n q, 1)) (hn : pc + 1 = n) (k : Go K M Q hf n lv (vr r :: st) h) : Go K M Q hf pc lv (st) h := by
  obtain ⟨p, l, e, R, s, m, args, below, meth, c, D, tc, A, ad0, n0, c0, s0⟩ := K
  obtain ⟨own, cc, nL, ret, d, tb, nm⟩ := M
  subst hn
  refine ⟨k.1, fun hA wf wl ws g1 g2 g3 ad H locs ls he hR hD hS hl => ?_⟩
  obtain ⟨hx, hb, hml, hown, hts, hK, -⟩ := id hA
  have wk : wvs (gn h) (vr r :: st) := wvs_k (wvl_at wl hj) ws
  have kk := k.2 hA wf wl wk g1 g2 g3 ad H locs ls he hR hD hS hl
  have hj9 := tl_at hl hj
  match r with
  | none => exact lv_aload_nN hx hb hd hi hj9 kk
  | some x9 => exact lv_aload_n hx hb hd hi hj9 kk
theorem go_aload {r : Option Nat} {i j : Nat} (hj : lv[j]? = some (i, vr r)) (hd : decode M.2.1 pc = .ok (.aload i, 2)) (hn : pc + 2 = n) (k : Go K M Q hf n lv (vr r :: st) h) : Go K M Q hf pc lv (st) h := by
  obtain ⟨p, l, e, R, s, m, args, below, meth, c, D, tc, A, ad0, n0, c0, s0⟩ := K
  obtain ⟨own, cc, nL, ret, d, tb, nm⟩ := M
  subst hn
  refine ⟨k.1, fun hA wf wl ws g1 g2 g3 ad H locs ls he hR hD hS hl => ?_⟩
  obtain ⟨hx, hb, hml, hown, hts, hK, -⟩ := id hA
  have wk : wvs (gn h) (vr r :: st) := wvs_k (wvl_at wl hj) ws
  have kk := k.2 hA wf wl wk g1 g2 g3 ad H locs ls he hR hD hS hl
  have hj9 := tl_at hl hj
  match r with
  | none => exact lv_aloadN hx hb hd hj9 kk
  | some x9 => exact lv_aload hx hb hd hj9 kk
def flt1 (i : Nat) (lv : List (Nat × AV)) : List (Nat × AV) := lv.filter (fun q => !(q.1 == i) && !(q.1 + 1 == i && catv q.2 == 2))
def flt2 (i : Nat) (lv : List (Nat × AV)) : List (Nat × AV) := lv.filter (fun q => !(q.1 == i) && (!(q.1 == i + 1) && !(q.1 + 1 == i && catv q.2 == 2)))
theorem flt1_tl (ad : Nat → Nat) (i : Nat) (lv : List (Nat × AV)) : (tl ad lv).filter (fun q => !(q.1 == i) && !(q.1 + 1 == i && q.2.category == 2)) = tl ad (flt1 i lv) := by
  unfold tl flt1
  rw [List.filter_map]
  congr 1
  apply List.filter_congr
  intro q _
  show (!(q.1 == i) && !(q.1 + 1 == i && (tv ad q.2).category == 2)) = _
  rw [cat_tv]
theorem flt2_tl (ad : Nat → Nat) (i : Nat) (lv : List (Nat × AV)) : (tl ad lv).filter (fun q => !(q.1 == i) && (!(q.1 == i + 1) && !(q.1 + 1 == i && q.2.category == 2))) = tl ad (flt2 i lv) := by
  unfold tl flt2
  rw [List.filter_map]
  congr 1
  apply List.filter_congr
  intro q _
  show (!(q.1 == i) && (!(q.1 == i + 1) && !(q.1 + 1 == i && (tv ad q.2).category == 2))) = _
  rw [cat_tv]
theorem wvl_f1 {n i : Nat} {v : AV} {lv : List (Nat × AV)} (hv : wv n v) (h : wvl n lv) : wvl n ((i, v) :: flt1 i lv) := by
  intro q hq
  rcases List.mem_cons.mp hq with e | e
  · rw [e]; exact hv
  · exact h q (List.mem_filter.mp e).1
theorem wvl_f2 {n i : Nat} {v : AV} {lv : List (Nat × AV)} (hv : wv n v) (h : wvl n lv) : wvl n ((i, v) :: flt2 i lv) := by
  intro q hq
  rcases List.mem_cons.mp hq with e | e
  · rw [e]; exact hv
  · exact h q (List.mem_filter.mp e).1
theorem go_istore_n {z : Int} {q : Fin 4} {i : Nat} {lv' : List (Nat × AV)} (hi : (q : Nat) = i) (hd : decode M.2.1 pc = .ok (.istore_n q, 1)) (hn : pc + 1 = n) (hi9 : i < M.2.2.1) (hl' : (i, vi z) :: flt1 i lv = lv') (k : Go K M Q hf n lv' st h) : Go K M Q hf pc lv (vi z :: st) h := by
  obtain ⟨p, l, e, R, s, m, args, below, meth, c, D, tc, A, ad0, n0, c0, s0⟩ := K
  obtain ⟨own, cc, nL, ret, d, tb, nm⟩ := M
  subst hn
  subst hl'
  refine ⟨k.1, fun hA wf wl ws g1 g2 g3 ad H locs ls he hR hD hS hl => ?_⟩
  obtain ⟨hx, hb, hml, hown, hts, hK, -⟩ := id hA
  obtain ⟨w1, w2⟩ := wvs_c ws
  have kk := fun (ls' : Array Slot) (hl9 : lv_has ls' nL (tl ad ((i, vi z) :: flt1 i lv))) => k.2 hA wf (wvl_f1 w1 wl) w2 g1 g2 g3 ad H locs ls' he hR hD hS hl9
  exact lv_istore_n hx hb hd hi hl hi9 (by rw [flt1_tl]; rfl) kk
theorem go_istore {z : Int} {i : Nat} {lv' : List (Nat × AV)}  (hd : decode M.2.1 pc = .ok (.istore i, 2)) (hn : pc + 2 = n) (hi9 : i < M.2.2.1) (hl' : (i, vi z) :: flt1 i lv = lv') (k : Go K M Q hf n lv' st h) : Go K M Q hf pc lv (vi z :: st) h := by
  obtain ⟨p, l, e, R, s, m, args, below, meth, c, D, tc, A, ad0, n0, c0, s0⟩ := K
  obtain ⟨own, cc, nL, ret, d, tb, nm⟩ := M
  subst hn
  subst hl'
  refine ⟨k.1, fun hA wf wl ws g1 g2 g3 ad H locs ls he hR hD hS hl => ?_⟩
  obtain ⟨hx, hb, hml, hown, hts, hK, -⟩ := id hA
  obtain ⟨w1, w2⟩ := wvs_c ws
  have kk := fun (ls' : Array Slot) (hl9 : lv_has ls' nL (tl ad ((i, vi z) :: flt1 i lv))) => k.2 hA wf (wvl_f1 w1 wl) w2 g1 g2 g3 ad H locs ls' he hR hD hS hl9
  exact lv_istore hx hb hd hl hi9 (by rw [flt1_tl]; rfl) kk
theorem go_lstore_n {z : Int} {q : Fin 4} {i : Nat} {lv' : List (Nat × AV)} (hi : (q : Nat) = i) (hd : decode M.2.1 pc = .ok (.lstore_n q, 1)) (hn : pc + 1 = n) (hi9 : i + 1 < M.2.2.1) (hl' : (i, vl z) :: flt2 i lv = lv') (k : Go K M Q hf n lv' st h) : Go K M Q hf pc lv (vl z :: st) h := by
  obtain ⟨p, l, e, R, s, m, args, below, meth, c, D, tc, A, ad0, n0, c0, s0⟩ := K
  obtain ⟨own, cc, nL, ret, d, tb, nm⟩ := M
  subst hn
  subst hl'
  refine ⟨k.1, fun hA wf wl ws g1 g2 g3 ad H locs ls he hR hD hS hl => ?_⟩
  obtain ⟨hx, hb, hml, hown, hts, hK, -⟩ := id hA
  obtain ⟨w1, w2⟩ := wvs_c ws
  have kk := fun (ls' : Array Slot) (hl9 : lv_has ls' nL (tl ad ((i, vl z) :: flt2 i lv))) => k.2 hA wf (wvl_f2 w1 wl) w2 g1 g2 g3 ad H locs ls' he hR hD hS hl9
  exact lv_lstore_n hx hb hd hi hl hi9 (by rw [flt2_tl]; rfl) kk
theorem go_lstore {z : Int} {i : Nat} {lv' : List (Nat × AV)}  (hd : decode M.2.1 pc = .ok (.lstore i, 2)) (hn : pc + 2 = n) (hi9 : i + 1 < M.2.2.1) (hl' : (i, vl z) :: flt2 i lv = lv') (k : Go K M Q hf n lv' st h) : Go K M Q hf pc lv (vl z :: st) h := by
  obtain ⟨p, l, e, R, s, m, args, below, meth, c, D, tc, A, ad0, n0, c0, s0⟩ := K
  obtain ⟨own, cc, nL, ret, d, tb, nm⟩ := M
  subst hn
  subst hl'
  refine ⟨k.1, fun hA wf wl ws g1 g2 g3 ad H locs ls he hR hD hS hl => ?_⟩
  obtain ⟨hx, hb, hml, hown, hts, hK, -⟩ := id hA
  obtain ⟨w1, w2⟩ := wvs_c ws
  have kk := fun (ls' : Array Slot) (hl9 : lv_has ls' nL (tl ad ((i, vl z) :: flt2 i lv))) => k.2 hA wf (wvl_f2 w1 wl) w2 g1 g2 g3 ad H locs ls' he hR hD hS hl9
  exact lv_lstore hx hb hd hl hi9 (by rw [flt2_tl]; rfl) kk
theorem go_astore_n {r : Option Nat} {q : Fin 4} {i : Nat} {lv' : List (Nat × AV)} (hi : (q : Nat) = i) (hd : decode M.2.1 pc = .ok (.astore_n q, 1)) (hn : pc + 1 = n) (hi9 : i < M.2.2.1) (hl' : (i, vr r) :: flt1 i lv = lv') (k : Go K M Q hf n lv' st h) : Go K M Q hf pc lv (vr r :: st) h := by
  obtain ⟨p, l, e, R, s, m, args, below, meth, c, D, tc, A, ad0, n0, c0, s0⟩ := K
  obtain ⟨own, cc, nL, ret, d, tb, nm⟩ := M
  subst hn
  subst hl'
  refine ⟨k.1, fun hA wf wl ws g1 g2 g3 ad H locs ls he hR hD hS hl => ?_⟩
  obtain ⟨hx, hb, hml, hown, hts, hK, -⟩ := id hA
  obtain ⟨w1, w2⟩ := wvs_c ws
  have kk := fun (ls' : Array Slot) (hl9 : lv_has ls' nL (tl ad ((i, vr r) :: flt1 i lv))) => k.2 hA wf (wvl_f1 w1 wl) w2 g1 g2 g3 ad H locs ls' he hR hD hS hl9
  match r with
  | none => exact lv_astore_nN hx hb hd hi hl hi9 (by rw [flt1_tl]; rfl) kk
  | some x9 => exact lv_astore_n hx hb hd hi hl hi9 (by rw [flt1_tl]; rfl) kk
theorem go_astore {r : Option Nat} {i : Nat} {lv' : List (Nat × AV)}  (hd : decode M.2.1 pc = .ok (.astore i, 2)) (hn : pc + 2 = n) (hi9 : i < M.2.2.1) (hl' : (i, vr r) :: flt1 i lv = lv') (k : Go K M Q hf n lv' st h) : Go K M Q hf pc lv (vr r :: st) h := by
  obtain ⟨p, l, e, R, s, m, args, below, meth, c, D, tc, A, ad0, n0, c0, s0⟩ := K
  obtain ⟨own, cc, nL, ret, d, tb, nm⟩ := M
  subst hn
  subst hl'
  refine ⟨k.1, fun hA wf wl ws g1 g2 g3 ad H locs ls he hR hD hS hl => ?_⟩
  obtain ⟨hx, hb, hml, hown, hts, hK, -⟩ := id hA
  obtain ⟨w1, w2⟩ := wvs_c ws
  have kk := fun (ls' : Array Slot) (hl9 : lv_has ls' nL (tl ad ((i, vr r) :: flt1 i lv))) => k.2 hA wf (wvl_f1 w1 wl) w2 g1 g2 g3 ad H locs ls' he hR hD hS hl9
  match r with
  | none => exact lv_astoreN hx hb hd hl hi9 (by rw [flt1_tl]; rfl) kk
  | some x9 => exact lv_astore hx hb hd hl hi9 (by rw [flt1_tl]; rfl) kk
theorem go_iinc {z : Int} {dz : Int} {i j : Nat} {lv' : List (Nat × AV)} (hj : lv[j]? = some (i, vi z)) (hd : decode M.2.1 pc = .ok (.iinc i dz, 3)) (hn : pc + 3 = n) (hi9 : i < M.2.2.1) (hl' : (i, vi (w32 (z + dz))) :: flt1 i lv = lv') (k : Go K M Q hf n lv' st h) : Go K M Q hf pc lv st h := by
  obtain ⟨p, l, e, R, s, m, args, below, meth, c, D, tc, A, ad0, n0, c0, s0⟩ := K
  obtain ⟨own, cc, nL, ret, d, tb, nm⟩ := M
  subst hn
  subst hl'
  refine ⟨k.1, fun hA wf wl ws g1 g2 g3 ad H locs ls he hR hD hS hl => ?_⟩
  obtain ⟨hx, hb, hml, hown, hts, hK, -⟩ := id hA
  have kk := fun (ls' : Array Slot) (hl9 : lv_has ls' nL (tl ad ((i, vi (w32 (z + dz))) :: flt1 i lv))) => k.2 hA wf (wvl_f1 (w32_in _) wl) ws g1 g2 g3 ad H locs ls' he hR hD hS hl9
  have hjj : (tl ad lv)[j]? = some (i, .int (Int32.ofInt z)) := by
    unfold tl; rw [List.getElem?_map, hj]; rfl
  exact lv_iinc hx hb hd hl hjj (o32_add z dz) hi9 (by rw [flt1_tl]; rfl) kk
/-- fewer locals are known -/
theorem go_sub {lv' : List (Nat × AV)} (hs : ∀ q ∈ lv', q ∈ lv) (k : Go K M Q hf pc lv' st h) : Go K M Q hf pc lv st h := by
  obtain ⟨p, l, e, R, s, m, args, below, meth, c, D, tc, A, ad0, n0, c0, s0⟩ := K
  obtain ⟨own, cc, nL, ret, d, tb, nm⟩ := M
  refine ⟨k.1, fun hA wf wl ws g1 g2 g3 ad H locs ls he hR hD hS hl => ?_⟩
  refine k.2 hA wf (fun q hq => wl q (hs q hq)) ws g1 g2 g3 ad H locs ls he hR hD hS ⟨hl.1, hl.2.1, fun q hq => ?_⟩
  obtain ⟨q0, h0, rfl⟩ := List.mem_map.mp hq
  exact hl.2.2 _ (List.mem_map.mpr ⟨q0, hs q0 h0, rfl⟩)
theorem go_iadd {a b : Int}  (hd : decode M.2.1 pc = .ok (.iadd, 1)) (hn : pc + 1 = n) (k : Go K M Q hf n lv (vi (w32 (a + b)) :: st) h) : Go K M Q hf pc lv (vi b :: vi a :: st) h := by
  obtain ⟨p, l, e, R, s, m, args, below, meth, c, D, tc, A, ad0, n0, c0, s0⟩ := K
  obtain ⟨own, cc, nL, ret, d, tb, nm⟩ := M
  subst hn
  refine ⟨k.1, fun hA wf wl ws g1 g2 g3 ad H locs ls he hR hD hS hl => ?_⟩
  obtain ⟨hx, hb, hml, hown, hts, hK, -⟩ := id hA
  obtain ⟨wb, ws1⟩ := wvs_c ws
  obtain ⟨wa, ws2⟩ := wvs_c ws1
  have wk : wvs (gn h) (vi (w32 (a + b)) :: st) := wvs_k (w32_in _) ws2
  have kk := k.2 hA wf wl wk g1 g2 g3 ad H locs ls he hR hD hS hl
  refine lv_iadd hx hb hd ?_
  rw [o32_add]; exact kk
theorem go_isub {a b : Int}  (hd : decode M.2.1 pc = .ok (.isub, 1)) (hn : pc + 1 = n) (k : Go K M Q hf n lv (vi (w32 (a - b)) :: st) h) : Go K M Q hf pc lv (vi b :: vi a :: st) h := by
  obtain ⟨p, l, e, R, s, m, args, below, meth, c, D, tc, A, ad0, n0, c0, s0⟩ := K
  obtain ⟨own, cc, nL, ret, d, tb, nm⟩ := M
  subst hn
  refine ⟨k.1, fun hA wf wl ws g1 g2 g3 ad H locs ls he hR hD hS hl => ?_⟩
  obtain ⟨hx, hb, hml, hown, hts, hK, -⟩ := id hA
  obtain ⟨wb, ws1⟩ := wvs_c ws
  obtain ⟨wa, ws2⟩ := wvs_c ws1
  have wk : wvs (gn h) (vi (w32 (a - b)) :: st) := wvs_k (w32_in _) ws2
  have kk := k.2 hA wf wl wk g1 g2 g3 ad H locs ls he hR hD hS hl
  refine lv_isub hx hb hd ?_
  rw [o32_sub]; exact kk
theorem go_imul {a b : Int}  (hd : decode M.2.1 pc = .ok (.imul, 1)) (hn : pc + 1 = n) (k : Go K M Q hf n lv (vi (w32 (a * b)) :: st) h) : Go K M Q hf pc lv (vi b :: vi a :: st) h := by
  obtain ⟨p, l, e, R, s, m, args, below, meth, c, D, tc, A, ad0, n0, c0, s0⟩ := K
  obtain ⟨own, cc, nL, ret, d, tb, nm⟩ := M
  subst hn
  refine ⟨k.1, fun hA wf wl ws g1 g2 g3 ad H locs ls he hR hD hS hl => ?_⟩
  obtain ⟨hx, hb, hml, hown, hts, hK, -⟩ := id hA
  obtain ⟨wb, ws1⟩ := wvs_c ws
  obtain ⟨wa, ws2⟩ := wvs_c ws1
  have wk : wvs (gn h) (vi (w32 (a * b)) :: st) := wvs_k (w32_in _) ws2
  have kk := k.2 hA wf wl wk g1 g2 g3 ad H locs ls he hR hD hS hl
  refine lv_imul hx hb hd ?_
  rw [o32_mul]; exact kk
theorem go_ladd {a b : Int}  (hd : decode M.2.1 pc = .ok (.ladd, 1)) (hn : pc + 1 = n) (k : Go K M Q hf n lv (vl (w64 (a + b)) :: st) h) : Go K M Q hf pc lv (vl b :: vl a :: st) h := by
  obtain ⟨p, l, e, R, s, m, args, below, meth, c, D, tc, A, ad0, n0, c0, s0⟩ := K
  obtain ⟨own, cc, nL, ret, d, tb, nm⟩ := M
  subst hn
  refine ⟨k.1, fun hA wf wl ws g1 g2 g3 ad H locs ls he hR hD hS hl => ?_⟩
  obtain ⟨hx, hb, hml, hown, hts, hK, -⟩ := id hA
  obtain ⟨wb, ws1⟩ := wvs_c ws
  obtain ⟨wa, ws2⟩ := wvs_c ws1
  have wk : wvs (gn h) (vl (w64 (a + b)) :: st) := wvs_k (w64_in _) ws2
  have kk := k.2 hA wf wl wk g1 g2 g3 ad H locs ls he hR hD hS hl
  refine lv_ladd hx hb hd ?_
  rw [o64_add]; exact kk
theorem go_lsub {a b : Int}  (hd : decode M.2.1 pc = .ok (.lsub, 1)) (hn : pc + 1 = n) (k : Go K M Q hf n lv (vl (w64 (a - b)) :: st) h) : Go K M Q hf pc lv (vl b :: vl a :: st) h := by
  obtain ⟨p, l, e, R, s, m, args, below, meth, c, D, tc, A, ad0, n0, c0, s0⟩ := K
  obtain ⟨own, cc, nL, ret, d, tb, nm⟩ := M
  subst hn
  refine ⟨k.1, fun hA wf wl ws g1 g2 g3 ad H locs ls he hR hD hS hl => ?_⟩
  obtain ⟨hx, hb, hml, hown, hts, hK, -⟩ := id hA
  obtain ⟨wb, ws1⟩ := wvs_c ws
  obtain ⟨wa, ws2⟩ := wvs_c ws1
  have wk : wvs (gn h) (vl (w64 (a - b)) :: st) := wvs_k (w64_in _) ws2
  have kk := k.2 hA wf wl wk g1 g2 g3 ad H locs ls he hR hD hS hl
  refine lv_lsub hx hb hd ?_
  rw [o64_sub]; exact kk
theorem go_lmul {a b : Int}  (hd : decode M.2.1 pc = .ok (.lmul, 1)) (hn : pc + 1 = n) (k : Go K M Q hf n lv (vl (w64 (a * b)) :: st) h) : Go K M Q hf pc lv (vl b :: vl a :: st) h := by
  obtain ⟨p, l, e, R, s, m, args, below, meth, c, D, tc, A, ad0, n0, c0, s0⟩ := K
  obtain ⟨own, cc, nL, ret, d, tb, nm⟩ := M
  subst hn
  refine ⟨k.1, fun hA wf wl ws g1 g2 g3 ad H locs ls he hR hD hS hl => ?_⟩
  obtain ⟨hx, hb, hml, hown, hts, hK, -⟩ := id hA
  obtain ⟨wb, ws1⟩ := wvs_c ws
  obtain ⟨wa, ws2⟩ := wvs_c ws1
  have wk : wvs (gn h) (vl (w64 (a * b)) :: st) := wvs_k (w64_in _) ws2
  have kk := k.2 hA wf wl wk g1 g2 g3 ad H locs ls he hR hD hS hl
  refine lv_lmul hx hb hd ?_
  rw [o64_mul]; exact kk
theorem go_idiv {a b : Int} (h0 : ¬ b = 0) (hd : decode M.2.1 pc = .ok (.idiv, 1)) (hn : pc + 1 = n) (k : Go K M Q hf n lv (vi (w32 (a.tdiv b)) :: st) h) : Go K M Q hf pc lv (vi b :: vi a :: st) h := by
  obtain ⟨p, l, e, R, s, m, args, below, meth, c, D, tc, A, ad0, n0, c0, s0⟩ := K
  obtain ⟨own, cc, nL, ret, d, tb, nm⟩ := M
  subst hn
  refine ⟨k.1, fun hA wf wl ws g1 g2 g3 ad H locs ls he hR hD hS hl => ?_⟩
  obtain ⟨hx, hb, hml, hown, hts, hK, -⟩ := id hA
  obtain ⟨wb, ws1⟩ := wvs_c ws
  obtain ⟨wa, ws2⟩ := wvs_c ws1
  have wk : wvs (gn h) (vi (w32 (a.tdiv b)) :: st) := wvs_k (w32_in _) ws2
  have kk := k.2 hA wf wl wk g1 g2 g3 ad H locs ls he hR hD hS hl
  refine lv_idiv hx hb hd (fun q => h0 ((o32_eq wb in32_0).mp q)) ?_
  rw [o32_div wa wb]; exact kk
theorem go_irem {a b : Int} (h0 : ¬ b = 0) (hd : decode M.2.1 pc = .ok (.irem, 1)) (hn : pc + 1 = n) (k : Go K M Q hf n lv (vi (a.tmod b) :: st) h) : Go K M Q hf pc lv (vi b :: vi a :: st) h := by
  obtain ⟨p, l, e, R, s, m, args, below, meth, c, D, tc, A, ad0, n0, c0, s0⟩ := K
  obtain ⟨own, cc, nL, ret, d, tb, nm⟩ := M
  subst hn
  refine ⟨k.1, fun hA wf wl ws g1 g2 g3 ad H locs ls he hR hD hS hl => ?_⟩
  obtain ⟨hx, hb, hml, hown, hts, hK, -⟩ := id hA
  obtain ⟨wb, ws1⟩ := wvs_c ws
  obtain ⟨wa, ws2⟩ := wvs_c ws1
  have wk : wvs (gn h) (vi (a.tmod b) :: st) := wvs_k (tmod_in32 wa) ws2
  have kk := k.2 hA wf wl wk g1 g2 g3 ad H locs ls he hR hD hS hl
  refine lv_irem hx hb hd (fun q => h0 ((o32_eq wb in32_0).mp q)) ?_
  rw [o32_rem wa wb]; exact kk
theorem go_ldiv {a b : Int} (h0 : ¬ b = 0) (hd : decode M.2.1 pc = .ok (.ldiv, 1)) (hn : pc + 1 = n) (k : Go K M Q hf n lv (vl (w64 (a.tdiv b)) :: st) h) : Go K M Q hf pc lv (vl b :: vl a :: st) h := by
  obtain ⟨p, l, e, R, s, m, args, below, meth, c, D, tc, A, ad0, n0, c0, s0⟩ := K
  obtain ⟨own, cc, nL, ret, d, tb, nm⟩ := M
  subst hn
  refine ⟨k.1, fun hA wf wl ws g1 g2 g3 ad H locs ls he hR hD hS hl => ?_⟩
  obtain ⟨hx, hb, hml, hown, hts, hK, -⟩ := id hA
  obtain ⟨wb, ws1⟩ := wvs_c ws
  obtain ⟨wa, ws2⟩ := wvs_c ws1
  have wk : wvs (gn h) (vl (w64 (a.tdiv b)) :: st) := wvs_k (w64_in _) ws2
  have kk := k.2 hA wf wl wk g1 g2 g3 ad H locs ls he hR hD hS hl
  refine lv_ldiv hx hb hd (fun q => h0 ((o64_eq wb (by unfold in64; omega)).mp q)) ?_
  rw [o64_div wa wb]; exact kk
theorem go_lrem {a b : Int} (h0 : ¬ b = 0) (hd : decode M.2.1 pc = .ok (.lrem, 1)) (hn : pc + 1 = n) (k : Go K M Q hf n lv (vl (a.tmod b) :: st) h) : Go K M Q hf pc lv (vl b :: vl a :: st) h := by
  obtain ⟨p, l, e, R, s, m, args, below, meth, c, D, tc, A, ad0, n0, c0, s0⟩ := K
  obtain ⟨own, cc, nL, ret, d, tb, nm⟩ := M
  subst hn
  refine ⟨k.1, fun hA wf wl ws g1 g2 g3 ad H locs ls he hR hD hS hl => ?_⟩
  obtain ⟨hx, hb, hml, hown, hts, hK, -⟩ := id hA
  obtain ⟨wb, ws1⟩ := wvs_c ws
  obtain ⟨wa, ws2⟩ := wvs_c ws1
  have wk : wvs (gn h) (vl (a.tmod b) :: st) := wvs_k (tmod_in64 wa) ws2
  have kk := k.2 hA wf wl wk g1 g2 g3 ad H locs ls he hR hD hS hl
  refine lv_lrem hx hb hd (fun q => h0 ((o64_eq wb (by unfold in64; omega)).mp q)) ?_
  rw [o64_rem wa wb]; exact kk
theorem go_iand {a b : Int}  (hd : decode M.2.1 pc = .ok (.iand, 1)) (hn : pc + 1 = n) (k : Go K M Q hf n lv (vi (xand a b) :: st) h) : Go K M Q hf pc lv (vi b :: vi a :: st) h := by
  obtain ⟨p, l, e, R, s, m, args, below, meth, c, D, tc, A, ad0, n0, c0, s0⟩ := K
  obtain ⟨own, cc, nL, ret, d, tb, nm⟩ := M
  subst hn
  refine ⟨k.1, fun hA wf wl ws g1 g2 g3 ad H locs ls he hR hD hS hl => ?_⟩
  obtain ⟨hx, hb, hml, hown, hts, hK, -⟩ := id hA
  obtain ⟨wb, ws1⟩ := wvs_c ws
  obtain ⟨wa, ws2⟩ := wvs_c ws1
  have wk : wvs (gn h) (vi (xand a b) :: st) := wvs_k (in32_toInt _) ws2
  have kk := k.2 hA wf wl wk g1 g2 g3 ad H locs ls he hR hD hS hl
  refine lv_iand hx hb hd ?_
  have e9 : Int32.ofInt (xand a b) = _ := o32 _
  rw [← e9]; exact kk
theorem go_ior {a b : Int}  (hd : decode M.2.1 pc = .ok (.ior, 1)) (hn : pc + 1 = n) (k : Go K M Q hf n lv (vi (xor_ a b) :: st) h) : Go K M Q hf pc lv (vi b :: vi a :: st) h := by
  obtain ⟨p, l, e, R, s, m, args, below, meth, c, D, tc, A, ad0, n0, c0, s0⟩ := K
  obtain ⟨own, cc, nL, ret, d, tb, nm⟩ := M
  subst hn
  refine ⟨k.1, fun hA wf wl ws g1 g2 g3 ad H locs ls he hR hD hS hl => ?_⟩
  obtain ⟨hx, hb, hml, hown, hts, hK, -⟩ := id hA
  obtain ⟨wb, ws1⟩ := wvs_c ws
  obtain ⟨wa, ws2⟩ := wvs_c ws1
  have wk : wvs (gn h) (vi (xor_ a b) :: st) := wvs_k (in32_toInt _) ws2
  have kk := k.2 hA wf wl wk g1 g2 g3 ad H locs ls he hR hD hS hl
  refine lv_ior hx hb hd ?_
  have e9 : Int32.ofInt (xor_ a b) = _ := o32 _
  rw [← e9]; exact kk
theorem go_ixor {a b : Int}  (hd : decode M.2.1 pc = .ok (.ixor, 1)) (hn : pc + 1 = n) (k : Go K M Q hf n lv (vi (xxor a b) :: st) h) : Go K M Q hf pc lv (vi b :: vi a :: st) h := by
  obtain ⟨p, l, e, R, s, m, args, below, meth, c, D, tc, A, ad0, n0, c0, s0⟩ := K
  obtain ⟨own, cc, nL, ret, d, tb, nm⟩ := M
  subst hn
  refine ⟨k.1, fun hA wf wl ws g1 g2 g3 ad H locs ls he hR hD hS hl => ?_⟩
  obtain ⟨hx, hb, hml, hown, hts, hK, -⟩ := id hA
  obtain ⟨wb, ws1⟩ := wvs_c ws
  obtain ⟨wa, ws2⟩ := wvs_c ws1
  have wk : wvs (gn h) (vi (xxor a b) :: st) := wvs_k (in32_toInt _) ws2
  have kk := k.2 hA wf wl wk g1 g2 g3 ad H locs ls he hR hD hS hl
  refine lv_ixor hx hb hd ?_
  have e9 : Int32.ofInt (xxor a b) = _ := o32 _
  rw [← e9]; exact kk
theorem go_ishl {a b : Int}  (hd : decode M.2.1 pc = .ok (.ishl, 1)) (hn : pc + 1 = n) (k : Go K M Q hf n lv (vi (xshl a b) :: st) h) : Go K M Q hf pc lv (vi b :: vi a :: st) h := by
  obtain ⟨p, l, e, R, s, m, args, below, meth, c, D, tc, A, ad0, n0, c0, s0⟩ := K
  obtain ⟨own, cc, nL, ret, d, tb, nm⟩ := M
  subst hn
  refine ⟨k.1, fun hA wf wl ws g1 g2 g3 ad H locs ls he hR hD hS hl => ?_⟩
  obtain ⟨hx, hb, hml, hown, hts, hK, -⟩ := id hA
  obtain ⟨wb, ws1⟩ := wvs_c ws
  obtain ⟨wa, ws2⟩ := wvs_c ws1
  have wk : wvs (gn h) (vi (xshl a b) :: st) := wvs_k (in32_toInt _) ws2
  have kk := k.2 hA wf wl wk g1 g2 g3 ad H locs ls he hR hD hS hl
  refine lv_ishl hx hb hd ?_
  have e9 : Int32.ofInt (xshl a b) = _ := o32 _
  rw [← e9]; exact kk
theorem go_ishr {a b : Int}  (hd : decode M.2.1 pc = .ok (.ishr, 1)) (hn : pc + 1 = n) (k : Go K M Q hf n lv (vi (xshr a b) :: st) h) : Go K M Q hf pc lv (vi b :: vi a :: st) h := by
  obtain ⟨p, l, e, R, s, m, args, below, meth, c, D, tc, A, ad0, n0, c0, s0⟩ := K
  obtain ⟨own, cc, nL, ret, d, tb, nm⟩ := M
  subst hn
  refine ⟨k.1, fun hA wf wl ws g1 g2 g3 ad H locs ls he hR hD hS hl => ?_⟩
  obtain ⟨hx, hb, hml, hown, hts, hK, -⟩ := id hA
  obtain ⟨wb, ws1⟩ := wvs_c ws
  obtain ⟨wa, ws2⟩ := wvs_c ws1
  have wk : wvs (gn h) (vi (xshr a b) :: st) := wvs_k (in32_toInt _) ws2
  have kk := k.2 hA wf wl wk g1 g2 g3 ad H locs ls he hR hD hS hl
  refine lv_ishr hx hb hd ?_
  have e9 : Int32.ofInt (xshr a b) = _ := o32 _
  rw [← e9]; exact kk
theorem go_iushr {a b : Int}  (hd : decode M.2.1 pc = .ok (.iushr, 1)) (hn : pc + 1 = n) (k : Go K M Q hf n lv (vi (xush a b) :: st) h) : Go K M Q hf pc lv (vi b :: vi a :: st) h := by
  obtain ⟨p, l, e, R, s, m, args, below, meth, c, D, tc, A, ad0, n0, c0, s0⟩ := K
  obtain ⟨own, cc, nL, ret, d, tb, nm⟩ := M
  subst hn
  refine ⟨k.1, fun hA wf wl ws g1 g2 g3 ad H locs ls he hR hD hS hl => ?_⟩
  obtain ⟨hx, hb, hml, hown, hts, hK, -⟩ := id hA
  obtain ⟨wb, ws1⟩ := wvs_c ws
  obtain ⟨wa, ws2⟩ := wvs_c ws1
  have wk : wvs (gn h) (vi (xush a b) :: st) := wvs_k (in32_toInt _) ws2
  have kk := k.2 hA wf wl wk g1 g2 g3 ad H locs ls he hR hD hS hl
  exact lv_iushr hx hb hd (o32 _).symm kk
theorem go_land {a b : Int}  (hd : decode M.2.1 pc = .ok (.land, 1)) (hn : pc + 1 = n) (k : Go K M Q hf n lv (vl (yand a b) :: st) h) : Go K M Q hf pc lv (vl b :: vl a :: st) h := by
  obtain ⟨p, l, e, R, s, m, args, below, meth, c, D, tc, A, ad0, n0, c0, s0⟩ := K
  obtain ⟨own, cc, nL, ret, d, tb, nm⟩ := M
  subst hn
  refine ⟨k.1, fun hA wf wl ws g1 g2 g3 ad H locs ls he hR hD hS hl => ?_⟩
  obtain ⟨hx, hb, hml, hown, hts, hK, -⟩ := id hA
  obtain ⟨wb, ws1⟩ := wvs_c ws
  obtain ⟨wa, ws2⟩ := wvs_c ws1
  have wk : wvs (gn h) (vl (yand a b) :: st) := wvs_k (in64_toInt _) ws2
  have kk := k.2 hA wf wl wk g1 g2 g3 ad H locs ls he hR hD hS hl
  refine lv_land hx hb hd ?_
  have e9 : Int64.ofInt (yand a b) = _ := o64 _
  rw [← e9]; exact kk
theorem go_lor {a b : Int}  (hd : decode M.2.1 pc = .ok (.lor, 1)) (hn : pc + 1 = n) (k : Go K M Q hf n lv (vl (yor a b) :: st) h) : Go K M Q hf pc lv (vl b :: vl a :: st) h := by
  obtain ⟨p, l, e, R, s, m, args, below, meth, c, D, tc, A, ad0, n0, c0, s0⟩ := K
  obtain ⟨own, cc, nL, ret, d, tb, nm⟩ := M
  subst hn
  refine ⟨k.1, fun hA wf wl ws g1 g2 g3 ad H locs ls he hR hD hS hl => ?_⟩
  obtain ⟨hx, hb, hml, hown, hts, hK, -⟩ := id hA
  obtain ⟨wb, ws1⟩ := wvs_c ws
  obtain ⟨wa, ws2⟩ := wvs_c ws1
  have wk : wvs (gn h) (vl (yor a b) :: st) := wvs_k (in64_toInt _) ws2
  have kk := k.2 hA wf wl wk g1 g2 g3 ad H locs ls he hR hD hS hl
  refine lv_lor hx hb hd ?_
  have e9 : Int64.ofInt (yor a b) = _ := o64 _
  rw [← e9]; exact kk
theorem go_lxor {a b : Int}  (hd : decode M.2.1 pc = .ok (.lxor, 1)) (hn : pc + 1 = n) (k : Go K M Q hf n lv (vl (yxor a b) :: st) h) : Go K M Q hf pc lv (vl b :: vl a :: st) h := by
  obtain ⟨p, l, e, R, s, m, args, below, meth, c, D, tc, A, ad0, n0, c0, s0⟩ := K
  obtain ⟨own, cc, nL, ret, d, tb, nm⟩ := M
  subst hn
  refine ⟨k.1, fun hA wf wl ws g1 g2 g3 ad H locs ls he hR hD hS hl => ?_⟩
  obtain ⟨hx, hb, hml, hown, hts, hK, -⟩ := id hA
  obtain ⟨wb, ws1⟩ := wvs_c ws
  obtain ⟨wa, ws2⟩ := wvs_c ws1
  have wk : wvs (gn h) (vl (yxor a b) :: st) := wvs_k (in64_toInt _) ws2
  have kk := k.2 hA wf wl wk g1 g2 g3 ad H locs ls he hR hD hS hl
  refine lv_lxor hx hb hd ?_
  have e9 : Int64.ofInt (yxor a b) = _ := o64 _
  rw [← e9]; exact kk
theorem go_lshl {a b : Int}  (hd : decode M.2.1 pc = .ok (.lshl, 1)) (hn : pc + 1 = n) (k : Go K M Q hf n lv (vl (yshl a b) :: st) h) : Go K M Q hf pc lv (vi b :: vl a :: st) h := by
  obtain ⟨p, l, e, R, s, m, args, below, meth, c, D, tc, A, ad0, n0, c0, s0⟩ := K
  obtain ⟨own, cc, nL, ret, d, tb, nm⟩ := M
  subst hn
  refine ⟨k.1, fun hA wf wl ws g1 g2 g3 ad H locs ls he hR hD hS hl => ?_⟩
  obtain ⟨hx, hb, hml, hown, hts, hK, -⟩ := id hA
  obtain ⟨wb, ws1⟩ := wvs_c ws
  obtain ⟨wa, ws2⟩ := wvs_c ws1
  have wk : wvs (gn h) (vl (yshl a b) :: st) := wvs_k (in64_toInt _) ws2
  have kk := k.2 hA wf wl wk g1 g2 g3 ad H locs ls he hR hD hS hl
  exact lv_lshl hx hb hd (o64 _).symm kk
theorem go_lshr {a b : Int}  (hd : decode M.2.1 pc = .ok (.lshr, 1)) (hn : pc + 1 = n) (k : Go K M Q hf n lv (vl (yshr a b) :: st) h) : Go K M Q hf pc lv (vi b :: vl a :: st) h := by
  obtain ⟨p, l, e, R, s, m, args, below, meth, c, D, tc, A, ad0, n0, c0, s0⟩ := K
  obtain ⟨own, cc, nL, ret, d, tb, nm⟩ := M
  subst hn
  refine ⟨k.1, fun hA wf wl ws g1 g2 g3 ad H locs ls he hR hD hS hl => ?_⟩
  obtain ⟨hx, hb, hml, hown, hts, hK, -⟩ := id hA
  obtain ⟨wb, ws1⟩ := wvs_c ws
  obtain ⟨wa, ws2⟩ := wvs_c ws1
  have wk : wvs (gn h) (vl (yshr a b) :: st) := wvs_k (in64_toInt _) ws2
  have kk := k.2 hA wf wl wk g1 g2 g3 ad H locs ls he hR hD hS hl
  exact lv_lshr hx hb hd (o64 _).symm kk
theorem go_lushr {a b : Int}  (hd : decode M.2.1 pc = .ok (.lushr, 1)) (hn : pc + 1 = n) (k : Go K M Q hf n lv (vl (yush a b) :: st) h) : Go K M Q hf pc lv (vi b :: vl a :: st) h := by
  obtain ⟨p, l, e, R, s, m, args, below, meth, c, D, tc, A, ad0, n0, c0, s0⟩ := K
  obtain ⟨own, cc, nL, ret, d, tb, nm⟩ := M
  subst hn
  refine ⟨k.1, fun hA wf wl ws g1 g2 g3 ad H locs ls he hR hD hS hl => ?_⟩
  obtain ⟨hx, hb, hml, hown, hts, hK, -⟩ := id hA
  obtain ⟨wb, ws1⟩ := wvs_c ws
  obtain ⟨wa, ws2⟩ := wvs_c ws1
  have wk : wvs (gn h) (vl (yush a b) :: st) := wvs_k (in64_toInt _) ws2
  have kk := k.2 hA wf wl wk g1 g2 g3 ad H locs ls he hR hD hS hl
  exact lv_lushr hx hb hd (o64 _).symm kk
theorem go_ineg {a : Int}  (hd : decode M.2.1 pc = .ok (.ineg, 1)) (hn : pc + 1 = n) (k : Go K M Q hf n lv (vi (w32 (-a)) :: st) h) : Go K M Q hf pc lv (vi a :: st) h := by
  obtain ⟨p, l, e, R, s, m, args, below, meth, c, D, tc, A, ad0, n0, c0, s0⟩ := K
  obtain ⟨own, cc, nL, ret, d, tb, nm⟩ := M
  subst hn
  refine ⟨k.1, fun hA wf wl ws g1 g2 g3 ad H locs ls he hR hD hS hl => ?_⟩
  obtain ⟨hx, hb, hml, hown, hts, hK, -⟩ := id hA
  obtain ⟨wa, ws2⟩ := wvs_c ws
  have wk : wvs (gn h) (vi (w32 (-a)) :: st) := wvs_k (w32_in _) ws2
  have kk := k.2 hA wf wl wk g1 g2 g3 ad H locs ls he hR hD hS hl
  refine lv_ineg hx hb hd ?_
  rw [o32_neg]; exact kk
theorem go_i2l {a : Int}  (hd : decode M.2.1 pc = .ok (.i2l, 1)) (hn : pc + 1 = n) (k : Go K M Q hf n lv (vl (a) :: st) h) : Go K M Q hf pc lv (vi a :: st) h := by
  obtain ⟨p, l, e, R, s, m, args, below, meth, c, D, tc, A, ad0, n0, c0, s0⟩ := K
  obtain ⟨own, cc, nL, ret, d, tb, nm⟩ := M
  subst hn
  refine ⟨k.1, fun hA wf wl ws g1 g2 g3 ad H locs ls he hR hD hS hl => ?_⟩
  obtain ⟨hx, hb, hml, hown, hts, hK, -⟩ := id hA
  obtain ⟨wa, ws2⟩ := wvs_c ws
  have wk : wvs (gn h) (vl (a) :: st) := wvs_k (by have q : in32 a := wa; unfold in32 at q; unfold wv in64; omega) ws2
  have kk := k.2 hA wf wl wk g1 g2 g3 ad H locs ls he hR hD hS hl
  exact lv_i2l hx hb hd (o32_i2l wa) kk
theorem go_l2i {a : Int}  (hd : decode M.2.1 pc = .ok (.l2i, 1)) (hn : pc + 1 = n) (k : Go K M Q hf n lv (vi (w32 a) :: st) h) : Go K M Q hf pc lv (vl a :: st) h := by
  obtain ⟨p, l, e, R, s, m, args, below, meth, c, D, tc, A, ad0, n0, c0, s0⟩ := K
  obtain ⟨own, cc, nL, ret, d, tb, nm⟩ := M
  subst hn
  refine ⟨k.1, fun hA wf wl ws g1 g2 g3 ad H locs ls he hR hD hS hl => ?_⟩
  obtain ⟨hx, hb, hml, hown, hts, hK, -⟩ := id hA
  obtain ⟨wa, ws2⟩ := wvs_c ws
  have wk : wvs (gn h) (vi (w32 a) :: st) := wvs_k (w32_in _) ws2
  have kk := k.2 hA wf wl wk g1 g2 g3 ad H locs ls he hR hD hS hl
  exact lv_l2i hx hb hd (o64_l2i wa) kk
theorem go_i2b {a : Int}  (hd : decode M.2.1 pc = .ok (.i2b, 1)) (hn : pc + 1 = n) (k : Go K M Q hf n lv (vi (wbyte a) :: st) h) : Go K M Q hf pc lv (vi a :: st) h := by
  obtain ⟨p, l, e, R, s, m, args, below, meth, c, D, tc, A, ad0, n0, c0, s0⟩ := K
  obtain ⟨own, cc, nL, ret, d, tb, nm⟩ := M
  subst hn
  refine ⟨k.1, fun hA wf wl ws g1 g2 g3 ad H locs ls he hR hD hS hl => ?_⟩
  obtain ⟨hx, hb, hml, hown, hts, hK, -⟩ := id hA
  obtain ⟨wa, ws2⟩ := wvs_c ws
  have wk : wvs (gn h) (vi (wbyte a) :: st) := wvs_k (in32_toInt _) ws2
  have kk := k.2 hA wf wl wk g1 g2 g3 ad H locs ls he hR hD hS hl
  exact lv_i2b hx hb hd (o32 _).symm kk
theorem go_lcmp {a b : Int}  (hd : decode M.2.1 pc = .ok (.lcmp, 1)) (hn : pc + 1 = n) (k : Go K M Q hf n lv (vi (xcmp a b) :: st) h) : Go K M Q hf pc lv (vl b :: vl a :: st) h := by
  obtain ⟨p, l, e, R, s, m, args, below, meth, c, D, tc, A, ad0, n0, c0, s0⟩ := K
  obtain ⟨own, cc, nL, ret, d, tb, nm⟩ := M
  subst hn
  refine ⟨k.1, fun hA wf wl ws g1 g2 g3 ad H locs ls he hR hD hS hl => ?_⟩
  obtain ⟨hx, hb, hml, hown, hts, hK, -⟩ := id hA
  obtain ⟨wb, ws1⟩ := wvs_c ws
  obtain ⟨wa, ws2⟩ := wvs_c ws1
  have wk : wvs (gn h) (vi (xcmp a b) :: st) := wvs_k (xcmp_in a b) ws2
  have kk := k.2 hA wf wl wk g1 g2 g3 ad H locs ls he hR hD hS hl
  refine W.lcmp hx hb hd ?_
  rw [o32_cmp wa wb]; exact kk
theorem go_dup {v : AV} (hc1 : catv v = 1) (hd : decode M.2.1 pc = .ok (.dup, 1)) (hn : pc + 1 = n) (k : Go K M Q hf n lv (v :: v :: st) h) : Go K M Q hf pc lv (v :: st) h := by
  obtain ⟨p, l, e, R, s, m, args, below, meth, c, D, tc, A, ad0, n0, c0, s0⟩ := K
  obtain ⟨own, cc, nL, ret, d, tb, nm⟩ := M
  subst hn
  refine ⟨k.1, fun hA wf wl ws g1 g2 g3 ad H locs ls he hR hD hS hl => ?_⟩
  obtain ⟨hx, hb, hml, hown, hts, hK, -⟩ := id hA
  have wk : wvs (gn h) (v :: v :: st) := wvs_k (wvs_c ws).1 ws
  have kk := k.2 hA wf wl wk g1 g2 g3 ad H locs ls he hR hD hS hl
  exact lv_dup hx hb hd ((cat_tv ad v).trans hc1) kk
theorem go_dup2 {v w : AV} (hc1 : catv v = 1) (hc2 : catv w = 1) (hd : decode M.2.1 pc = .ok (.dup2, 1)) (hn : pc + 1 = n) (k : Go K M Q hf n lv (v :: w :: v :: w :: st) h) : Go K M Q hf pc lv (v :: w :: st) h := by
  obtain ⟨p, l, e, R, s, m, args, below, meth, c, D, tc, A, ad0, n0, c0, s0⟩ := K
  obtain ⟨own, cc, nL, ret, d, tb, nm⟩ := M
  subst hn
  refine ⟨k.1, fun hA wf wl ws g1 g2 g3 ad H locs ls he hR hD hS hl => ?_⟩
  obtain ⟨hx, hb, hml, hown, hts, hK, -⟩ := id hA
  have wk : wvs (gn h) (v :: w :: v :: w :: st) := wvs_k (wvs_c ws).1 (wvs_k (wvs_c (wvs_c ws).2).1 ws)
  have kk := k.2 hA wf wl wk g1 g2 g3 ad H locs ls he hR hD hS hl
  exact lv_dup2_11 hx hb hd ((cat_tv ad v).trans hc1) ((cat_tv ad w).trans hc2) kk
theorem go_dup_x1 {v w : AV} (hc1 : catv v = 1) (hc2 : catv w = 1) (hd : decode M.2.1 pc = .ok (.dup_x1, 1)) (hn : pc + 1 = n) (k : Go K M Q hf n lv (v :: w :: v :: st) h) : Go K M Q hf pc lv (v :: w :: st) h := by
  obtain ⟨p, l, e, R, s, m, args, below, meth, c, D, tc, A, ad0, n0, c0, s0⟩ := K
  obtain ⟨own, cc, nL, ret, d, tb, nm⟩ := M
  subst hn
  refine ⟨k.1, fun hA wf wl ws g1 g2 g3 ad H locs ls he hR hD hS hl => ?_⟩
  obtain ⟨hx, hb, hml, hown, hts, hK, -⟩ := id hA
  have wk : wvs (gn h) (v :: w :: v :: st) := wvs_k (wvs_c ws).1 (wvs_k (wvs_c (wvs_c ws).2).1 (wvs_k (wvs_c ws).1 (wvs_c (wvs_c ws).2).2))
  have kk := k.2 hA wf wl wk g1 g2 g3 ad H locs ls he hR hD hS hl
  exact lv_dup_x1 hx hb hd ((cat_tv ad v).trans hc1) ((cat_tv ad w).trans hc2) kk
theorem go_pop {v : AV} (hc1 : catv v = 1) (hd : decode M.2.1 pc = .ok (.pop, 1)) (hn : pc + 1 = n) (k : Go K M Q hf n lv (st) h) : Go K M Q hf pc lv (v :: st) h := by
  obtain ⟨p, l, e, R, s, m, args, below, meth, c, D, tc, A, ad0, n0, c0, s0⟩ := K
  obtain ⟨own, cc, nL, ret, d, tb, nm⟩ := M
  subst hn
  refine ⟨k.1, fun hA wf wl ws g1 g2 g3 ad H locs ls he hR hD hS hl => ?_⟩
  obtain ⟨hx, hb, hml, hown, hts, hK, -⟩ := id hA
  have wk : wvs (gn h) st := (wvs_c ws).2
  have kk := k.2 hA wf wl wk g1 g2 g3 ad H locs ls he hR hD hS hl
  exact lv_pop hx hb hd ((cat_tv ad v).trans hc1) kk
theorem o32_ge0 {a : Int} (ha : in32 a) : (0 : Int32) ≤ Int32.ofInt a ↔ 0 ≤ a := o32_le in32_0 ha
theorem o32_gt0 {a : Int} (ha : in32 a) : (0 : Int32) < Int32.ofInt a ↔ 0 < a := o32_lt in32_0 ha
theorem o32_le0 {a : Int} (ha : in32 a) : Int32.ofInt a ≤ 0 ↔ a ≤ 0 := o32_le ha in32_0
theorem o32_lt0 {a : Int} (ha : in32 a) : Int32.ofInt a < 0 ↔ a < 0 := o32_lt ha in32_0
theorem o32_eq0 {a : Int} (ha : in32 a) : Int32.ofInt a = 0 ↔ a = 0 := o32_eq ha in32_0
theorem go_if_eq {tgt : Nat} {off : Int} {a : Int} (hd : decode M.2.1 pc = .ok (.ifCond .eq off, 3)) (ht : (pc : Int) + off = (tgt : Int)) (hn : pc + 3 = n) (kt : a = 0 → Go K M Q hf tgt lv st h) (kf : ¬ a = 0 → Go K M Q hf n lv st h) : Go K M Q hf pc lv (vi a :: st) h := by
  obtain ⟨p, l, e, R, s, m, args, below, meth, c, D, tc, A, ad0, n0, c0, s0⟩ := K
  obtain ⟨own, cc, nL, ret, d, tb, nm⟩ := M
  subst hn
  by_cases cd : a = 0
  · have k := kt cd
    refine ⟨k.1, fun hA wf wl ws g1 g2 g3 ad H locs ls he hR hD hS hl => ?_⟩
    obtain ⟨hx, hb, hml, hown, hts, hK, -⟩ := id hA
    obtain ⟨wa, wk⟩ := wvs_c ws
    have kk := k.2 hA wf wl wk g1 g2 g3 ad H locs ls he hR hD hS hl
    exact lv_if_eq hx hb hd ht (fun _ => kk) (fun q => absurd ((o32_eq0 wa).mpr cd) q)
  · have k := kf cd
    refine ⟨k.1, fun hA wf wl ws g1 g2 g3 ad H locs ls he hR hD hS hl => ?_⟩
    obtain ⟨hx, hb, hml, hown, hts, hK, -⟩ := id hA
    obtain ⟨wa, wk⟩ := wvs_c ws
    have kk := k.2 hA wf wl wk g1 g2 g3 ad H locs ls he hR hD hS hl
    exact lv_if_eq hx hb hd ht (fun q => absurd ((o32_eq0 wa).mp q) cd) (fun _ => kk)
theorem go_if_ne {tgt : Nat} {off : Int} {a : Int} (hd : decode M.2.1 pc = .ok (.ifCond .ne off, 3)) (ht : (pc : Int) + off = (tgt : Int)) (hn : pc + 3 = n) (kt : ¬ a = 0 → Go K M Q hf tgt lv st h) (kf : a = 0 → Go K M Q hf n lv st h) : Go K M Q hf pc lv (vi a :: st) h := by
  obtain ⟨p, l, e, R, s, m, args, below, meth, c, D, tc, A, ad0, n0, c0, s0⟩ := K
  obtain ⟨own, cc, nL, ret, d, tb, nm⟩ := M
  subst hn
  by_cases cd : a = 0
  · have k := kf cd
    refine ⟨k.1, fun hA wf wl ws g1 g2 g3 ad H locs ls he hR hD hS hl => ?_⟩
    obtain ⟨hx, hb, hml, hown, hts, hK, -⟩ := id hA
    obtain ⟨wa, wk⟩ := wvs_c ws
    have kk := k.2 hA wf wl wk g1 g2 g3 ad H locs ls he hR hD hS hl
    exact lv_if_ne hx hb hd ht (fun q => absurd ((o32_eq0 wa).mpr cd) q) (fun _ => kk)
  · have k := kt cd
    refine ⟨k.1, fun hA wf wl ws g1 g2 g3 ad H locs ls he hR hD hS hl => ?_⟩
    obtain ⟨hx, hb, hml, hown, hts, hK, -⟩ := id hA
    obtain ⟨wa, wk⟩ := wvs_c ws
    have kk := k.2 hA wf wl wk g1 g2 g3 ad H locs ls he hR hD hS hl
    exact lv_if_ne hx hb hd ht (fun _ => kk) (fun q => absurd ((o32_eq0 wa).mp q) cd)
theorem go_if_lt {tgt : Nat} {off : Int} {a : Int} (hd : decode M.2.1 pc = .ok (.ifCond .lt off, 3)) (ht : (pc : Int) + off = (tgt : Int)) (hn : pc + 3 = n) (kt : a < 0 → Go K M Q hf tgt lv st h) (kf : ¬ a < 0 → Go K M Q hf n lv st h) : Go K M Q hf pc lv (vi a :: st) h := by
  obtain ⟨p, l, e, R, s, m, args, below, meth, c, D, tc, A, ad0, n0, c0, s0⟩ := K
  obtain ⟨own, cc, nL, ret, d, tb, nm⟩ := M
  subst hn
  by_cases cd : a < 0
  · have k := kt cd
    refine ⟨k.1, fun hA wf wl ws g1 g2 g3 ad H locs ls he hR hD hS hl => ?_⟩
    obtain ⟨hx, hb, hml, hown, hts, hK, -⟩ := id hA
    obtain ⟨wa, wk⟩ := wvs_c ws
    have kk := k.2 hA wf wl wk g1 g2 g3 ad H locs ls he hR hD hS hl
    exact lv_if_lt hx hb hd ht (fun _ => kk) (fun q => absurd ((o32_lt0 wa).mpr cd) q)
  · have k := kf cd
    refine ⟨k.1, fun hA wf wl ws g1 g2 g3 ad H locs ls he hR hD hS hl => ?_⟩
    obtain ⟨hx, hb, hml, hown, hts, hK, -⟩ := id hA
    obtain ⟨wa, wk⟩ := wvs_c ws
    have kk := k.2 hA wf wl wk g1 g2 g3 ad H locs ls he hR hD hS hl
    exact lv_if_lt hx hb hd ht (fun q => absurd ((o32_lt0 wa).mp q) cd) (fun _ => kk)
theorem go_if_ge {tgt : Nat} {off : Int} {a : Int} (hd : decode M.2.1 pc = .ok (.ifCond .ge off, 3)) (ht : (pc : Int) + off = (tgt : Int)) (hn : pc + 3 = n) (kt : 0 ≤ a → Go K M Q hf tgt lv st h) (kf : ¬ 0 ≤ a → Go K M Q hf n lv st h) : Go K M Q hf pc lv (vi a :: st) h := by
  obtain ⟨p, l, e, R, s, m, args, below, meth, c, D, tc, A, ad0, n0, c0, s0⟩ := K
  obtain ⟨own, cc, nL, ret, d, tb, nm⟩ := M
  subst hn
  by_cases cd : 0 ≤ a
  · have k := kt cd
    refine ⟨k.1, fun hA wf wl ws g1 g2 g3 ad H locs ls he hR hD hS hl => ?_⟩
    obtain ⟨hx, hb, hml, hown, hts, hK, -⟩ := id hA
    obtain ⟨wa, wk⟩ := wvs_c ws
    have kk := k.2 hA wf wl wk g1 g2 g3 ad H locs ls he hR hD hS hl
    exact lv_if_ge hx hb hd ht (fun _ => kk) (fun q => absurd ((o32_ge0 wa).mpr cd) q)
  · have k := kf cd
    refine ⟨k.1, fun hA wf wl ws g1 g2 g3 ad H locs ls he hR hD hS hl => ?_⟩
    obtain ⟨hx, hb, hml, hown, hts, hK, -⟩ := id hA
    obtain ⟨wa, wk⟩ := wvs_c ws
    have kk := k.2 hA wf wl wk g1 g2 g3 ad H locs ls he hR hD hS hl
    exact lv_if_ge hx hb hd ht (fun q => absurd ((o32_ge0 wa).mp q) cd) (fun _ => kk)
theorem go_if_gt {tgt : Nat} {off : Int} {a : Int} (hd : decode M.2.1 pc = .ok (.ifCond .gt off, 3)) (ht : (pc : Int) + off = (tgt : Int)) (hn : pc + 3 = n) (kt : 0 < a → Go K M Q hf tgt lv st h) (kf : ¬ 0 < a → Go K M Q hf n lv st h) : Go K M Q hf pc lv (vi a :: st) h := by
  obtain ⟨p, l, e, R, s, m, args, below, meth, c, D, tc, A, ad0, n0, c0, s0⟩ := K
  obtain ⟨own, cc, nL, ret, d, tb, nm⟩ := M
  subst hn
  by_cases cd : 0 < a
  · have k := kt cd
    refine ⟨k.1, fun hA wf wl ws g1 g2 g3 ad H locs ls he hR hD hS hl => ?_⟩
    obtain ⟨hx, hb, hml, hown, hts, hK, -⟩ := id hA
    obtain ⟨wa, wk⟩ := wvs_c ws
    have kk := k.2 hA wf wl wk g1 g2 g3 ad H locs ls he hR hD hS hl
    exact lv_if_gt hx hb hd ht (fun _ => kk) (fun q => absurd ((o32_gt0 wa).mpr cd) q)
  · have k := kf cd
    refine ⟨k.1, fun hA wf wl ws g1 g2 g3 ad H locs ls he hR hD hS hl => ?_⟩
    obtain ⟨hx, hb, hml, hown, hts, hK, -⟩ := id hA
    obtain ⟨wa, wk⟩ := wvs_c ws
    have kk := k.2 hA wf wl wk g1 g2 g3 ad H locs ls he hR hD hS hl
    exact lv_if_gt hx hb hd ht (fun q => absurd ((o32_gt0 wa).mp q) cd) (fun _ => kk)
theorem go_if_le {tgt : Nat} {off : Int} {a : Int} (hd : decode M.2.1 pc = .ok (.ifCond .le off, 3)) (ht : (pc : Int) + off = (tgt : Int)) (hn : pc + 3 = n) (kt : a ≤ 0 → Go K M Q hf tgt lv st h) (kf : ¬ a ≤ 0 → Go K M Q hf n lv st h) : Go K M Q hf pc lv (vi a :: st) h := by
  obtain ⟨p, l, e, R, s, m, args, below, meth, c, D, tc, A, ad0, n0, c0, s0⟩ := K
  obtain ⟨own, cc, nL, ret, d, tb, nm⟩ := M
  subst hn
  by_cases cd : a ≤ 0
  · have k := kt cd
    refine ⟨k.1, fun hA wf wl ws g1 g2 g3 ad H locs ls he hR hD hS hl => ?_⟩
    obtain ⟨hx, hb, hml, hown, hts, hK, -⟩ := id hA
    obtain ⟨wa, wk⟩ := wvs_c ws
    have kk := k.2 hA wf wl wk g1 g2 g3 ad H locs ls he hR hD hS hl
    exact lv_if_le hx hb hd ht (fun _ => kk) (fun q => absurd ((o32_le0 wa).mpr cd) q)
  · have k := kf cd
    refine ⟨k.1, fun hA wf wl ws g1 g2 g3 ad H locs ls he hR hD hS hl => ?_⟩
    obtain ⟨hx, hb, hml, hown, hts, hK, -⟩ := id hA
    obtain ⟨wa, wk⟩ := wvs_c ws
    have kk := k.2 hA wf wl wk g1 g2 g3 ad H locs ls he hR hD hS hl
    exact lv_if_le hx hb hd ht (fun q => absurd ((o32_le0 wa).mp q) cd) (fun _ => kk)
theorem go_icmp_eq {tgt : Nat} {off : Int} {a b : Int} (hd : decode M.2.1 pc = .ok (.if_icmp .eq off, 3)) (ht : (pc : Int) + off = (tgt : Int)) (hn : pc + 3 = n) (kt : a = b → Go K M Q hf tgt lv st h) (kf : ¬ a = b → Go K M Q hf n lv st h) : Go K M Q hf pc lv (vi b :: vi a :: st) h := by
  obtain ⟨p, l, e, R, s, m, args, below, meth, c, D, tc, A, ad0, n0, c0, s0⟩ := K
  obtain ⟨own, cc, nL, ret, d, tb, nm⟩ := M
  subst hn
  by_cases cd : a = b
  · have k := kt cd
    refine ⟨k.1, fun hA wf wl ws g1 g2 g3 ad H locs ls he hR hD hS hl => ?_⟩
    obtain ⟨hx, hb, hml, hown, hts, hK, -⟩ := id hA
    obtain ⟨wb, ws1⟩ := wvs_c ws
    obtain ⟨wa, wk⟩ := wvs_c ws1
    have kk := k.2 hA wf wl wk g1 g2 g3 ad H locs ls he hR hD hS hl
    exact lv_icmp_eq hx hb hd ht (fun _ => kk) (fun q => absurd ((o32_eq wa wb).mpr cd) q)
  · have k := kf cd
    refine ⟨k.1, fun hA wf wl ws g1 g2 g3 ad H locs ls he hR hD hS hl => ?_⟩
    obtain ⟨hx, hb, hml, hown, hts, hK, -⟩ := id hA
    obtain ⟨wb, ws1⟩ := wvs_c ws
    obtain ⟨wa, wk⟩ := wvs_c ws1
    have kk := k.2 hA wf wl wk g1 g2 g3 ad H locs ls he hR hD hS hl
    exact lv_icmp_eq hx hb hd ht (fun q => absurd ((o32_eq wa wb).mp q) cd) (fun _ => kk)
theorem go_icmp_ne {tgt : Nat} {off : Int} {a b : Int} (hd : decode M.2.1 pc = .ok (.if_icmp .ne off, 3)) (ht : (pc : Int) + off = (tgt : Int)) (hn : pc + 3 = n) (kt : ¬ a = b → Go K M Q hf tgt lv st h) (kf : a = b → Go K M Q hf n lv st h) : Go K M Q hf pc lv (vi b :: vi a :: st) h := by
  obtain ⟨p, l, e, R, s, m, args, below, meth, c, D, tc, A, ad0, n0, c0, s0⟩ := K
  obtain ⟨own, cc, nL, ret, d, tb, nm⟩ := M
  subst hn
  by_cases cd : a = b
  · have k := kf cd
    refine ⟨k.1, fun hA wf wl ws g1 g2 g3 ad H locs ls he hR hD hS hl => ?_⟩
    obtain ⟨hx, hb, hml, hown, hts, hK, -⟩ := id hA
    obtain ⟨wb, ws1⟩ := wvs_c ws
    obtain ⟨wa, wk⟩ := wvs_c ws1
    have kk := k.2 hA wf wl wk g1 g2 g3 ad H locs ls he hR hD hS hl
    exact lv_icmp_ne hx hb hd ht (fun q => absurd ((o32_eq wa wb).mpr cd) q) (fun _ => kk)
  · have k := kt cd
    refine ⟨k.1, fun hA wf wl ws g1 g2 g3 ad H locs ls he hR hD hS hl => ?_⟩
    obtain ⟨hx, hb, hml, hown, hts, hK, -⟩ := id hA
    obtain ⟨wb, ws1⟩ := wvs_c ws
    obtain ⟨wa, wk⟩ := wvs_c ws1
    have kk := k.2 hA wf wl wk g1 g2 g3 ad H locs ls he hR hD hS hl
    exact lv_icmp_ne hx hb hd ht (fun _ => kk) (fun q => absurd ((o32_eq wa wb).mp q) cd)
theorem go_icmp_lt {tgt : Nat} {off : Int} {a b : Int} (hd : decode M.2.1 pc = .ok (.if_icmp .lt off, 3)) (ht : (pc : Int) + off = (tgt : Int)) (hn : pc + 3 = n) (kt : a < b → Go K M Q hf tgt lv st h) (kf : ¬ a < b → Go K M Q hf n lv st h) : Go K M Q hf pc lv (vi b :: vi a :: st) h := by
  obtain ⟨p, l, e, R, s, m, args, below, meth, c, D, tc, A, ad0, n0, c0, s0⟩ := K
  obtain ⟨own, cc, nL, ret, d, tb, nm⟩ := M
  subst hn
  by_cases cd : a < b
  · have k := kt cd
    refine ⟨k.1, fun hA wf wl ws g1 g2 g3 ad H locs ls he hR hD hS hl => ?_⟩
    obtain ⟨hx, hb, hml, hown, hts, hK, -⟩ := id hA
    obtain ⟨wb, ws1⟩ := wvs_c ws
    obtain ⟨wa, wk⟩ := wvs_c ws1
    have kk := k.2 hA wf wl wk g1 g2 g3 ad H locs ls he hR hD hS hl
    exact lv_icmp_lt hx hb hd ht (fun _ => kk) (fun q => absurd ((o32_lt wa wb).mpr cd) q)
  · have k := kf cd
    refine ⟨k.1, fun hA wf wl ws g1 g2 g3 ad H locs ls he hR hD hS hl => ?_⟩
    obtain ⟨hx, hb, hml, hown, hts, hK, -⟩ := id hA
    obtain ⟨wb, ws1⟩ := wvs_c ws
    obtain ⟨wa, wk⟩ := wvs_c ws1
    have kk := k.2 hA wf wl wk g1 g2 g3 ad H locs ls he hR hD hS hl
    exact lv_icmp_lt hx hb hd ht (fun q => absurd ((o32_lt wa wb).mp q) cd) (fun _ => kk)
theorem go_icmp_ge {tgt : Nat} {off : Int} {a b : Int} (hd : decode M.2.1 pc = .ok (.if_icmp .ge off, 3)) (ht : (pc : Int) + off = (tgt : Int)) (hn : pc + 3 = n) (kt : b ≤ a → Go K M Q hf tgt lv st h) (kf : ¬ b ≤ a → Go K M Q hf n lv st h) : Go K M Q hf pc lv (vi b :: vi a :: st) h := by
  obtain ⟨p, l, e, R, s, m, args, below, meth, c, D, tc, A, ad0, n0, c0, s0⟩ := K
  obtain ⟨own, cc, nL, ret, d, tb, nm⟩ := M
  subst hn
  by_cases cd : b ≤ a
  · have k := kt cd
    refine ⟨k.1, fun hA wf wl ws g1 g2 g3 ad H locs ls he hR hD hS hl => ?_⟩
    obtain ⟨hx, hb, hml, hown, hts, hK, -⟩ := id hA
    obtain ⟨wb, ws1⟩ := wvs_c ws
    obtain ⟨wa, wk⟩ := wvs_c ws1
    have kk := k.2 hA wf wl wk g1 g2 g3 ad H locs ls he hR hD hS hl
    exact lv_icmp_ge hx hb hd ht (fun _ => kk) (fun q => absurd ((o32_le wb wa).mpr cd) q)
  · have k := kf cd
    refine ⟨k.1, fun hA wf wl ws g1 g2 g3 ad H locs ls he hR hD hS hl => ?_⟩
    obtain ⟨hx, hb, hml, hown, hts, hK, -⟩ := id hA
    obtain ⟨wb, ws1⟩ := wvs_c ws
    obtain ⟨wa, wk⟩ := wvs_c ws1
    have kk := k.2 hA wf wl wk g1 g2 g3 ad H locs ls he hR hD hS hl
    exact lv_icmp_ge hx hb hd ht (fun q => absurd ((o32_le wb wa).mp q) cd) (fun _ => kk)
theorem go_icmp_gt {tgt : Nat} {off : Int} {a b : Int} (hd : decode M.2.1 pc = .ok (.if_icmp .gt off, 3)) (ht : (pc : Int) + off = (tgt : Int)) (hn : pc + 3 = n) (kt : b < a → Go K M Q hf tgt lv st h) (kf : ¬ b < a → Go K M Q hf n lv st h) : Go K M Q hf pc lv (vi b :: vi a :: st) h := by
  obtain ⟨p, l, e, R, s, m, args, below, meth, c, D, tc, A, ad0, n0, c0, s0⟩ := K
  obtain ⟨own, cc, nL, ret, d, tb, nm⟩ := M
  subst hn
  by_cases cd : b < a
  · have k := kt cd
    refine ⟨k.1, fun hA wf wl ws g1 g2 g3 ad H locs ls he hR hD hS hl => ?_⟩
    obtain ⟨hx, hb, hml, hown, hts, hK, -⟩ := id hA
    obtain ⟨wb, ws1⟩ := wvs_c ws
    obtain ⟨wa, wk⟩ := wvs_c ws1
    have kk := k.2 hA wf wl wk g1 g2 g3 ad H locs ls he hR hD hS hl
    exact lv_icmp_gt hx hb hd ht (fun _ => kk) (fun q => absurd ((o32_lt wb wa).mpr cd) q)
  · have k := kf cd
    refine ⟨k.1, fun hA wf wl ws g1 g2 g3 ad H locs ls he hR hD hS hl => ?_⟩
    obtain ⟨hx, hb, hml, hown, hts, hK, -⟩ := id hA
    obtain ⟨wb, ws1⟩ := wvs_c ws
    obtain ⟨wa, wk⟩ := wvs_c ws1
    have kk := k.2 hA wf wl wk g1 g2 g3 ad H locs ls he hR hD hS hl
    exact lv_icmp_gt hx hb hd ht (fun q => absurd ((o32_lt wb wa).mp q) cd) (fun _ => kk)
theorem go_icmp_le {tgt : Nat} {off : Int} {a b : Int} (hd : decode M.2.1 pc = .ok (.if_icmp .le off, 3)) (ht : (pc : Int) + off = (tgt : Int)) (hn : pc + 3 = n) (kt : a ≤ b → Go K M Q hf tgt lv st h) (kf : ¬ a ≤ b → Go K M Q hf n lv st h) : Go K M Q hf pc lv (vi b :: vi a :: st) h := by
  obtain ⟨p, l, e, R, s, m, args, below, meth, c, D, tc, A, ad0, n0, c0, s0⟩ := K
  obtain ⟨own, cc, nL, ret, d, tb, nm⟩ := M
  subst hn
  by_cases cd : a ≤ b
  · have k := kt cd
    refine ⟨k.1, fun hA wf wl ws g1 g2 g3 ad H locs ls he hR hD hS hl => ?_⟩
    obtain ⟨hx, hb, hml, hown, hts, hK, -⟩ := id hA
    obtain ⟨wb, ws1⟩ := wvs_c ws
    obtain ⟨wa, wk⟩ := wvs_c ws1
    have kk := k.2 hA wf wl wk g1 g2 g3 ad H locs ls he hR hD hS hl
    exact lv_icmp_le hx hb hd ht (fun _ => kk) (fun q => absurd ((o32_le wa wb).mpr cd) q)
  · have k := kf cd
    refine ⟨k.1, fun hA wf wl ws g1 g2 g3 ad H locs ls he hR hD hS hl => ?_⟩
    obtain ⟨hx, hb, hml, hown, hts, hK, -⟩ := id hA
    obtain ⟨wb, ws1⟩ := wvs_c ws
    obtain ⟨wa, wk⟩ := wvs_c ws1
    have kk := k.2 hA wf wl wk g1 g2 g3 ad H locs ls he hR hD hS hl
    exact lv_icmp_le hx hb hd ht (fun q => absurd ((o32_le wa wb).mp q) cd) (fun _ => kk)
theorem go_goto {off : Int} {tgt : Nat} (hd : decode M.2.1 pc = .ok (.goto off, 3)) (ht : (pc : Int) + off = (tgt : Int)) (k : Go K M Q hf tgt lv st h) : Go K M Q hf pc lv st h := by
  obtain ⟨p, l, e, R, s, m, args, below, meth, c, D, tc, A, ad0, n0, c0, s0⟩ := K
  obtain ⟨own, cc, nL, ret, d, tb, nm⟩ := M
  refine ⟨k.1, fun hA wf wl ws g1 g2 g3 ad H locs ls he hR hD hS hl => ?_⟩
  obtain ⟨hx, hb, -⟩ := id hA
  exact lv_goto hx hb hd ht (k.2 hA wf wl ws g1 g2 g3 ad H locs ls he hR hD hS hl)
theorem go_ifnull {off : Int} {tgt : Nat} {r : Option Nat} (hd : decode M.2.1 pc = .ok (.ifnull off, 3)) (ht : (pc : Int) + off = (tgt : Int)) (hn : pc + 3 = n) (kt : r = none → Go K M Q hf tgt lv st h) (kf : ¬ r = none → Go K M Q hf n lv st h) : Go K M Q hf pc lv (vr r :: st) h := by
  obtain ⟨p, l, e, R, s, m, args, below, meth, c, D, tc, A, ad0, n0, c0, s0⟩ := K
  obtain ⟨own, cc, nL, ret, d, tb, nm⟩ := M
  subst hn
  cases r with
  | none =>
    have k := kt rfl
    refine ⟨k.1, fun hA wf wl ws g1 g2 g3 ad H locs ls he hR hD hS hl => ?_⟩
    obtain ⟨hx, hb, -⟩ := id hA
    exact lv_ifnullN hx hb hd ht (k.2 hA wf wl (wvs_c ws).2 g1 g2 g3 ad H locs ls he hR hD hS hl)
  | some x9 =>
    have k := kf (fun q => by cases q)
    refine ⟨k.1, fun hA wf wl ws g1 g2 g3 ad H locs ls he hR hD hS hl => ?_⟩
    obtain ⟨hx, hb, -⟩ := id hA
    exact lv_ifnull hx hb hd (k.2 hA wf wl (wvs_c ws).2 g1 g2 g3 ad H locs ls he hR hD hS hl)
theorem go_ifnonnull {off : Int} {tgt : Nat} {r : Option Nat} (hd : decode M.2.1 pc = .ok (.ifnonnull off, 3)) (ht : (pc : Int) + off = (tgt : Int)) (hn : pc + 3 = n) (kt : ¬ r = none → Go K M Q hf tgt lv st h) (kf : r = none → Go K M Q hf n lv st h) : Go K M Q hf pc lv (vr r :: st) h := by
  obtain ⟨p, l, e, R, s, m, args, below, meth, c, D, tc, A, ad0, n0, c0, s0⟩ := K
  obtain ⟨own, cc, nL, ret, d, tb, nm⟩ := M
  subst hn
  cases r with
  | none =>
    have k := kf rfl
    refine ⟨k.1, fun hA wf wl ws g1 g2 g3 ad H locs ls he hR hD hS hl => ?_⟩
    obtain ⟨hx, hb, -⟩ := id hA
    exact lv_ifnonnullN hx hb hd (k.2 hA wf wl (wvs_c ws).2 g1 g2 g3 ad H locs ls he hR hD hS hl)
  | some x9 =>
    have k := kt (fun q => by cases q)
    refine ⟨k.1, fun hA wf wl ws g1 g2 g3 ad H locs ls he hR hD hS hl => ?_⟩
    obtain ⟨hx, hb, -⟩ := id hA
    exact lv_ifnonnull hx hb hd ht (k.2 hA wf wl (wvs_c ws).2 g1 g2 g3 ad H locs ls he hR hD hS hl)
/-- tableswitch, within: the place's offset -/
theorem go_tableIn {dflt lo hi : Int} {offs : Array Int} {len : Nat} {a off : Int} {tgt : Nat} (hd : decode M.2.1 pc = .ok (.tableswitch dflt lo hi offs, len)) (h1 : ¬ a < lo) (h2 : ¬ hi < a) (ho : offs[(a - lo).toNat]? = some off) (ht : (pc : Int) + off = (tgt : Int)) (k : Go K M Q hf tgt lv st h) : Go K M Q hf pc lv (vi a :: st) h := by
  obtain ⟨p, l, e, R, s, m, args, below, meth, c, D, tc, A, ad0, n0, c0, s0⟩ := K
  obtain ⟨own, cc, nL, ret, d, tb, nm⟩ := M
  refine ⟨k.1, fun hA wf wl ws g1 g2 g3 ad H locs ls he hR hD hS hl => ?_⟩
  obtain ⟨hx, hb, -⟩ := id hA
  obtain ⟨wa, wk⟩ := wvs_c ws
  have e : (Int32.ofInt a).toInt = a := t32i wa
  exact lv_tableIn hx hb hd (by rw [e]; exact h1) (by rw [e]; exact h2) (by rw [e]; exact ho) ht (k.2 hA wf wl wk g1 g2 g3 ad H locs ls he hR hD hS hl)
theorem go_tableOut {dflt lo hi : Int} {offs : Array Int} {len : Nat} {a : Int} {tgt : Nat} (hd : decode M.2.1 pc = .ok (.tableswitch dflt lo hi offs, len)) (h1 : a < lo ∨ hi < a) (ht : (pc : Int) + dflt = (tgt : Int)) (k : Go K M Q hf tgt lv st h) : Go K M Q hf pc lv (vi a :: st) h := by
  obtain ⟨p, l, e, R, s, m, args, below, meth, c, D, tc, A, ad0, n0, c0, s0⟩ := K
  obtain ⟨own, cc, nL, ret, d, tb, nm⟩ := M
  refine ⟨k.1, fun hA wf wl ws g1 g2 g3 ad H locs ls he hR hD hS hl => ?_⟩
  obtain ⟨hx, hb, -⟩ := id hA
  obtain ⟨wa, wk⟩ := wvs_c ws
  have e : (Int32.ofInt a).toInt = a := t32i wa
  exact lv_tableOut hx hb hd (by rw [e]; exact h1) ht (k.2 hA wf wl wk g1 g2 g3 ad H locs ls he hR hD hS hl)
theorem go_lookup {dflt : Int} {ps : Array (Int × Int)} {len : Nat} {a off : Int} {tgt : Nat} (hd : decode M.2.1 pc = .ok (.lookupswitch dflt ps, len)) (hp : (ps.toList.zip (ps.toList.drop 1)).all (fun (a, next) => a.1 < next.1) = true) (ho : Op.lookupswitch.offset ps.toList dflt a = off) (ht : (pc : Int) + off = (tgt : Int)) (k : Go K M Q hf tgt lv st h) : Go K M Q hf pc lv (vi a :: st) h := by
  obtain ⟨p, l, e, R, s, m, args, below, meth, c, D, tc, A, ad0, n0, c0, s0⟩ := K
  obtain ⟨own, cc, nL, ret, d, tb, nm⟩ := M
  refine ⟨k.1, fun hA wf wl ws g1 g2 g3 ad H locs ls he hR hD hS hl => ?_⟩
  obtain ⟨hx, hb, -⟩ := id hA
  obtain ⟨wa, wk⟩ := wvs_c ws
  have e : (Int32.ofInt a).toInt = a := t32i wa
  exact lv_lookup hx hb hd hp (by rw [e]; exact ho) ht (k.2 hA wf wl wk g1 g2 g3 ad H locs ls he hR hD hS hl)
end GO
