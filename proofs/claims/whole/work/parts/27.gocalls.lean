def YW (y : MethodName) (cc : ByteArray) (nL : Nat) (ret : Option FieldType) (np : Nat) : Prop := Cond.code y cc nL ret ∈ BW ∧ Cond.initialized y.cls ∈ BW ∧ (y.cls ≠ "java/lang/invoke/MethodHandle" ∧ y.cls ≠ "java/lang/invoke/VarHandle" ∧ (parseMethodDescriptor y.desc).map (fun d => d.parameters.length) = some np) ∧ plainFor y = true
def YWW (y : MethodName) (cc : ByteArray) (nL : Nat) (ret : Option FieldType) (hh : List (Nat × Nat × Nat × Nat)) (np : Nat) : Prop := Cond.codeWith y cc nL ret hh ∈ BW ∧ Cond.initialized y.cls ∈ BW ∧ (y.cls ≠ "java/lang/invoke/MethodHandle" ∧ y.cls ≠ "java/lang/invoke/VarHandle" ∧ (parseMethodDescriptor y.desc).map (fun d => d.parameters.length) = some np) ∧ plainName y.cls = true
theorem bw_goodW (y : MethodName) (b : ByteArray) (n : Nat) (t : Option FieldType) (hh : List (Nat × Nat × Nat × Nat)) (h : Cond.codeWith y b n t hh ∈ BW) : GoodIn BW (Cond.codeWith y b n t hh :: BW) := by
  intro w hw
  have h1 : w ∈ BW := by
    rcases List.mem_cons.mp hw with q | q
    · rw [q]; exact h
    · exact q
  exact ⟨h1, good_of_word (List.mem_filter.mp h1).2⟩
theorem wvs_app {n : Nat} {a b : List AV} (h : wvs n (a.reverse ++ b)) : wvs n a ∧ wvs n b := ⟨fun v hv => h v (List.mem_append_left _ (List.mem_reverse.mpr hv)), fun v hv => h v (List.mem_append_right _ hv)⟩
theorem toL (ad : Nat → Nat) (r : Option AV) : (r.map (tv ad)).toList = r.toList.map (tv ad) := by cases r <;> rfl
section GOC
variable {K : Ctx} {M : MI} {Q : State → Prop} {hf : HP} {pc n : Nat} {lv : List (Nat × AV)} {st stk : List AV} {h h1 : HP} {y : MethodName} {cc' : ByteArray} {nL' d' np i : Nat} {ret' : Option FieldType} {as : List AV}
theorem go_callV {a : Nat} {r : Option AV} (hok : Ok (y.cls, cc', nL', ret', d', none, y.name) (vr (some a) :: as) r h h1) (hy : YW y cc' nL' ret' np) {ci N : Nat} {T : u_T} (hCI : CI ci y.cls T N) (hsa : gS h a = (ci, N)) (w1 : Cond.methodLink M.1 i y ∈ BW) (w2 : Cond.instanceMethod y ∈ BW) (w3 : Cond.selects y.cls y y ∈ BW) (hz : asz (vr (some a) :: as) ≤ nL') (hnp : as.length = np) (hd9 : d' + 1 ≤ M.2.2.2.2.1 ∧ 19 + nL' + 100 * d' ≤ 100 * M.2.2.2.2.1) (hst : (st.map catv).sum ≤ 8) (hd : decode M.2.1 pc = .ok (.invokevirtual i, 3)) (hn : pc + 3 = n) (hstk : stk = as.reverse ++ vr (some a) :: st) {stk9 : List AV} (hs9 : r.toList ++ st = stk9) (k : Go K M Q hf n lv stk9 h1) : Go K M Q hf pc lv stk h := by
  obtain ⟨p, l, e, R, s, m, args, below, meth, c, D, tc, A, ad0, n0, c0, s0⟩ := K
  obtain ⟨own, cc, nL, ret, d, tb, nm⟩ := M
  subst hn
  subst hstk
  subst hs9
  have mo : Mo h h1 := (hok (p, l, e, R, s, m, args, below, meth, c, D, tc, A, ad0, gn h, gc h, gs h) rfl rfl rfl).1
  refine ⟨mo.tr k.1, fun hA wf wl ws g1 g2 g3 ad H locs ls he hR hD hS hl => ?_⟩
  obtain ⟨hx, hb, hml, hown, hts, hK, hlk, hret, hSF, hAA, ⟨r1, r2, r3, r4⟩, hlt, -⟩ := id hA
  obtain ⟨was, wst0⟩ := wvs_app ws
  obtain ⟨wa, wst⟩ := wvs_c wst0
  have wal : wvs (gn h) (vr (some a) :: as) := wvs_k wa was
  have hM := ok_met (l := l) (D := D) (tc := tc) (ad := ad) (sz := H.size) hy.2.2.2 hok hz wf wal hlt
  have hA1 : ∀ q, va_A (hpool tc ad h) H.size q → A q := fun q hq => by
    rcases hq with ⟨k9, e9, hk9⟩ | hq
    · exact hD.2 k9 _ hk9
    · exact hAA q (Nat.le_trans hS.1 hq)
  have hrm : (rmd d' (gc h1 - gc h) (gs h1 - gs h)).frames + 1 ≤ R.frames ∧ 8 + (nL' + 11) + (rmd d' (gc h1 - gc h) (gs h1 - gs h)).locals ≤ R.locals := by
    obtain ⟨q1, q2⟩ := hd9
    have q3 : d' + 1 ≤ d := q1
    have q4 : 19 + nL' + 100 * d' ≤ 100 * d := q2
    have q5 : d ≤ R.frames := r1
    have q6 : 100 * d ≤ R.locals := r2
    show d' + 1 ≤ R.frames ∧ 8 + (nL' + 11) + 100 * d' ≤ R.locals
    omega
  obtain ⟨b1, b2⟩ := wf.le hsa (by have := hCI.2.2.2.2; omega)
  have hpa := hpool_get (tc := tc) (ad := ad) b1 b2
  rw [tcell_obj hsa hCI.2.2.2.2] at hpa
  have hpre : ∀ U : State, U.heap = H → s.WarmedH U.vm → PreC D tc ad h (vr (some a) :: as) H.size ((vr (some a) :: as).map (tv ad)).toArray U := fun U hU hW =>
    ⟨rfl, by rw [hU], by rw [hU]; exact hR, hD.weaken (fun _ _ _ _ => trivial), va_K.moved hW.alike hK, hSF.go hW (fun q q1 q2 => by rw [hU]; exact hS.2.1 q q1 q2) hA1 (fun x hx9 => he x (Or.inr hx9))⟩
  have mo1 : gc h ≤ gc h1 := mo.1
  have mo2 : gs h ≤ gs h1 := mo.2
  have mo3 : gc h1 ≤ gc hf := k.1.1
  have mo4 : gs h1 ≤ gs hf := k.1.2
  have hroom : gc h - c0 + (gc h1 - gc h) ≤ R.cells ∧ gs h - s0 + (gs h1 - gs h) ≤ R.slots := by
    have q1 : gc hf - c0 ≤ R.cells := r3
    have q2 : gs hf - s0 ≤ R.slots := r4
    have q3 : c0 ≤ gc h := g2
    have q4 : s0 ≤ gs h := g3
    omega
  have run := va_runV (p := p) (l := l) (e := e) (R := R) (s := s) (m := m) (args := args) (below := below) (meth := meth) (c := c) (H := H) (locs := locs) (own := own) (C := y.cls) (b := ad a) (As := as.map (tv ad)) (rest := st.map (tv ad)) (g := F0 m pc ls ((as.reverse ++ vr (some a) :: st).map (tv ad))) (cells := gc h - c0) (slots := gs h - s0) ⟨hx, hb, hml, hown, hts⟩ hM ⟨callB_of np hts (bw_good y cc' nL' ret' hy.1) rfl rfl rfl (hts _ hy.2.1) (hts _ w1) hy.2.2.1 hrm, hts _ w2, hts _ w3⟩ ⟨PreC.blind, va_recv hK hR hCI.1 hpa, fun U hU hW => hpre U hU hW⟩ rfl (by rw [List.length_map]; exact hnp) hl.1 (by simp [tv, va_rf]) (lv_room (ls := ls) (m := m) (pc := pc) (rest := (as.reverse ++ vr (some a) :: st).map (tv ad)) (by rw [cat_map]; exact hst)) hd hroom
  refine call_core run hS hA1 fun ad' H1 locs1 he' hP' hD' wf' wr g' hS' => ?_
  have kk := k.2 hA wf' (fun q9 h9 => (wl q9 h9).up g') (fun v9 h9 => (List.mem_append.mp h9).elim (fun q => wr v9 (by simpa using q)) (fun q => (wst v9 q).up g')) (Nat.le_trans g1 g') (Nat.le_trans g2 mo1) (Nat.le_trans g3 mo2) ad' H1 locs1 ls (fun x hx9 => (he' x (hx9.up g1)).trans (he x hx9)) hP' hD' hS' (by rw [tl_ext he' wl]; exact hl)
  have c1 : gc h1 - c0 = gc h - c0 + (gc h1 - gc h) := by have q3 : c0 ≤ gc h := g2; omega
  have c2 : gs h1 - s0 = gs h - s0 + (gs h1 - gs h) := by have q3 : s0 ≤ gs h := g3; omega
  rw [c1, c2] at kk
  rw [List.map_append, ← toL] at kk
  rw [tvs_ext he' wst] at kk
  exact kk
theorem go_callS {r : Option AV} (hok : Ok (y.cls, cc', nL', ret', d', none, y.name) (as) r h h1) (hy : YW y cc' nL' ret' np) (w1 : Cond.methodLink M.1 i y ∈ BW) (w2 : Cond.static y ∈ BW) (hz : asz (as) ≤ nL') (hnp : as.length = np) (hd9 : d' + 1 ≤ M.2.2.2.2.1 ∧ 19 + nL' + 100 * d' ≤ 100 * M.2.2.2.2.1) (hst : (st.map catv).sum ≤ 8) (hd : decode M.2.1 pc = .ok (.invokestatic i, 3)) (hn : pc + 3 = n) (hstk : stk = as.reverse ++ st) {stk9 : List AV} (hs9 : r.toList ++ st = stk9) (k : Go K M Q hf n lv stk9 h1) : Go K M Q hf pc lv stk h := by
  obtain ⟨p, l, e, R, s, m, args, below, meth, c, D, tc, A, ad0, n0, c0, s0⟩ := K
  obtain ⟨own, cc, nL, ret, d, tb, nm⟩ := M
  subst hn
  subst hstk
  subst hs9
  have mo : Mo h h1 := (hok (p, l, e, R, s, m, args, below, meth, c, D, tc, A, ad0, gn h, gc h, gs h) rfl rfl rfl).1
  refine ⟨mo.tr k.1, fun hA wf wl ws g1 g2 g3 ad H locs ls he hR hD hS hl => ?_⟩
  obtain ⟨hx, hb, hml, hown, hts, hK, hlk, hret, hSF, hAA, ⟨r1, r2, r3, r4⟩, hlt, -⟩ := id hA
  obtain ⟨was, wst0⟩ := wvs_app ws
  have wst := wst0
  have wal : wvs (gn h) (as) := was
  have hM := ok_met (l := l) (D := D) (tc := tc) (ad := ad) (sz := H.size) hy.2.2.2 hok hz wf wal hlt
  have hA1 : ∀ q, va_A (hpool tc ad h) H.size q → A q := fun q hq => by
    rcases hq with ⟨k9, e9, hk9⟩ | hq
    · exact hD.2 k9 _ hk9
    · exact hAA q (Nat.le_trans hS.1 hq)
  have hrm : (rmd d' (gc h1 - gc h) (gs h1 - gs h)).frames + 1 ≤ R.frames ∧ 8 + (nL' + 11) + (rmd d' (gc h1 - gc h) (gs h1 - gs h)).locals ≤ R.locals := by
    obtain ⟨q1, q2⟩ := hd9
    have q3 : d' + 1 ≤ d := q1
    have q4 : 19 + nL' + 100 * d' ≤ 100 * d := q2
    have q5 : d ≤ R.frames := r1
    have q6 : 100 * d ≤ R.locals := r2
    show d' + 1 ≤ R.frames ∧ 8 + (nL' + 11) + 100 * d' ≤ R.locals
    omega
  have hpre : ∀ U : State, U.heap = H → s.WarmedH U.vm → PreC D tc ad h (as) H.size ((as).map (tv ad)).toArray U := fun U hU hW =>
    ⟨rfl, by rw [hU], by rw [hU]; exact hR, hD.weaken (fun _ _ _ _ => trivial), va_K.moved hW.alike hK, hSF.go hW (fun q q1 q2 => by rw [hU]; exact hS.2.1 q q1 q2) hA1 (fun x hx9 => he x (Or.inr hx9))⟩
  have mo1 : gc h ≤ gc h1 := mo.1
  have mo2 : gs h ≤ gs h1 := mo.2
  have mo3 : gc h1 ≤ gc hf := k.1.1
  have mo4 : gs h1 ≤ gs hf := k.1.2
  have hroom : gc h - c0 + (gc h1 - gc h) ≤ R.cells ∧ gs h - s0 + (gs h1 - gs h) ≤ R.slots := by
    have q1 : gc hf - c0 ≤ R.cells := r3
    have q2 : gs hf - s0 ≤ R.slots := r4
    have q3 : c0 ≤ gc h := g2
    have q4 : s0 ≤ gs h := g3
    omega
  have run := va_runS (p := p) (l := l) (e := e) (R := R) (s := s) (m := m) (args := args) (below := below) (meth := meth) (c := c) (H := H) (locs := locs) (own := own) (As := as.map (tv ad)) (rest := st.map (tv ad)) (g := F0 m pc ls ((as.reverse ++ st).map (tv ad))) (cells := gc h - c0) (slots := gs h - s0) ⟨hx, hb, hml, hown, hts⟩ hM ⟨callB_of np hts (bw_good y cc' nL' ret' hy.1) rfl rfl rfl (hts _ hy.2.1) (hts _ w1) hy.2.2.1 hrm, hts _ w2⟩ ⟨PreC.blind, fun U hU hW => hpre U hU hW⟩ rfl (by rw [List.length_map]; exact hnp) hl.1 (by simp [tv, va_rf]) (lv_room (ls := ls) (m := m) (pc := pc) (rest := (as.reverse ++ st).map (tv ad)) (by rw [cat_map]; exact hst)) hd hroom
  refine call_core run hS hA1 fun ad' H1 locs1 he' hP' hD' wf' wr g' hS' => ?_
  have kk := k.2 hA wf' (fun q9 h9 => (wl q9 h9).up g') (fun v9 h9 => (List.mem_append.mp h9).elim (fun q => wr v9 (by simpa using q)) (fun q => (wst v9 q).up g')) (Nat.le_trans g1 g') (Nat.le_trans g2 mo1) (Nat.le_trans g3 mo2) ad' H1 locs1 ls (fun x hx9 => (he' x (hx9.up g1)).trans (he x hx9)) hP' hD' hS' (by rw [tl_ext he' wl]; exact hl)
  have c1 : gc h1 - c0 = gc h - c0 + (gc h1 - gc h) := by have q3 : c0 ≤ gc h := g2; omega
  have c2 : gs h1 - s0 = gs h - s0 + (gs h1 - gs h) := by have q3 : s0 ≤ gs h := g3; omega
  rw [c1, c2] at kk
  rw [List.map_append, ← toL] at kk
  rw [tvs_ext he' wst] at kk
  exact kk
theorem go_callI {a : Nat} (hok : Ok (y.cls, cc', nL', none, d', none, y.name) (vr (some a) :: as) none h h1) (hy : YW y cc' nL' none np) (w1 : Cond.methodLink M.1 i y ∈ BW) (w2 : Cond.instanceMethod y ∈ BW) (w3 : y.name = "<init>") (hz : asz (vr (some a) :: as) ≤ nL') (hnp : as.length = np) (hd9 : d' + 1 ≤ M.2.2.2.2.1 ∧ 19 + nL' + 100 * d' ≤ 100 * M.2.2.2.2.1) (hst : (st.map catv).sum ≤ 8) (hd : decode M.2.1 pc = .ok (.invokespecial i, 3)) (hn : pc + 3 = n) (hstk : stk = as.reverse ++ vr (some a) :: st) (k : Go K M Q hf n lv st h1) : Go K M Q hf pc lv stk h := by
  obtain ⟨p, l, e, R, s, m, args, below, meth, c, D, tc, A, ad0, n0, c0, s0⟩ := K
  obtain ⟨own, cc, nL, ret, d, tb, nm⟩ := M
  subst hn
  subst hstk

  have mo : Mo h h1 := (hok (p, l, e, R, s, m, args, below, meth, c, D, tc, A, ad0, gn h, gc h, gs h) rfl rfl rfl).1
  refine ⟨mo.tr k.1, fun hA wf wl ws g1 g2 g3 ad H locs ls he hR hD hS hl => ?_⟩
  obtain ⟨hx, hb, hml, hown, hts, hK, hlk, hret, hSF, hAA, ⟨r1, r2, r3, r4⟩, hlt, -⟩ := id hA
  obtain ⟨was, wst0⟩ := wvs_app ws
  obtain ⟨wa, wst⟩ := wvs_c wst0
  have wal : wvs (gn h) (vr (some a) :: as) := wvs_k wa was
  have hM := ok_met (l := l) (D := D) (tc := tc) (ad := ad) (sz := H.size) hy.2.2.2 hok hz wf wal hlt
  have hA1 : ∀ q, va_A (hpool tc ad h) H.size q → A q := fun q hq => by
    rcases hq with ⟨k9, e9, hk9⟩ | hq
    · exact hD.2 k9 _ hk9
    · exact hAA q (Nat.le_trans hS.1 hq)
  have hrm : (rmd d' (gc h1 - gc h) (gs h1 - gs h)).frames + 1 ≤ R.frames ∧ 8 + (nL' + 11) + (rmd d' (gc h1 - gc h) (gs h1 - gs h)).locals ≤ R.locals := by
    obtain ⟨q1, q2⟩ := hd9
    have q3 : d' + 1 ≤ d := q1
    have q4 : 19 + nL' + 100 * d' ≤ 100 * d := q2
    have q5 : d ≤ R.frames := r1
    have q6 : 100 * d ≤ R.locals := r2
    show d' + 1 ≤ R.frames ∧ 8 + (nL' + 11) + 100 * d' ≤ R.locals
    omega
  have hpre : ∀ U : State, U.heap = H → s.WarmedH U.vm → PreC D tc ad h (vr (some a) :: as) H.size ((vr (some a) :: as).map (tv ad)).toArray U := fun U hU hW =>
    ⟨rfl, by rw [hU], by rw [hU]; exact hR, hD.weaken (fun _ _ _ _ => trivial), va_K.moved hW.alike hK, hSF.go hW (fun q q1 q2 => by rw [hU]; exact hS.2.1 q q1 q2) hA1 (fun x hx9 => he x (Or.inr hx9))⟩
  have mo1 : gc h ≤ gc h1 := mo.1
  have mo2 : gs h ≤ gs h1 := mo.2
  have mo3 : gc h1 ≤ gc hf := k.1.1
  have mo4 : gs h1 ≤ gs hf := k.1.2
  have hroom : gc h - c0 + (gc h1 - gc h) ≤ R.cells ∧ gs h - s0 + (gs h1 - gs h) ≤ R.slots := by
    have q1 : gc hf - c0 ≤ R.cells := r3
    have q2 : gs hf - s0 ≤ R.slots := r4
    have q3 : c0 ≤ gc h := g2
    have q4 : s0 ≤ gs h := g3
    omega
  have run := va_runI (p := p) (l := l) (e := e) (R := R) (s := s) (m := m) (args := args) (below := below) (meth := meth) (c := c) (H := H) (locs := locs) (own := own) (b := ad a) (As := as.map (tv ad)) (rest := st.map (tv ad)) (g := F0 m pc ls ((as.reverse ++ vr (some a) :: st).map (tv ad))) (cells := gc h - c0) (slots := gs h - s0) ⟨hx, hb, hml, hown, hts⟩ hM ⟨callB_of np hts (bw_good y cc' nL' none hy.1) rfl rfl rfl (hts _ hy.2.1) (hts _ w1) hy.2.2.1 hrm, w3, hts _ w2⟩ ⟨PreC.blind, fun U hU hW => hpre U hU hW⟩ rfl (by rw [List.length_map]; exact hnp) hl.1 (by simp [tv, va_rf]) (lv_room (ls := ls) (m := m) (pc := pc) (rest := (as.reverse ++ vr (some a) :: st).map (tv ad)) (by rw [cat_map]; exact hst)) hd hroom
  refine call_core run hS hA1 fun ad' H1 locs1 he' hP' hD' wf' wr g' hS' => ?_
  have kk := k.2 hA wf' (fun q9 h9 => (wl q9 h9).up g') (fun v9 h9 => (wst v9 h9).up g') (Nat.le_trans g1 g') (Nat.le_trans g2 mo1) (Nat.le_trans g3 mo2) ad' H1 locs1 ls (fun x hx9 => (he' x (hx9.up g1)).trans (he x hx9)) hP' hD' hS' (by rw [tl_ext he' wl]; exact hl)
  have c1 : gc h1 - c0 = gc h - c0 + (gc h1 - gc h) := by have q3 : c0 ≤ gc h := g2; omega
  have c2 : gs h1 - s0 = gs h - s0 + (gs h1 - gs h) := by have q3 : s0 ≤ gs h := g3; omega
  rw [c1, c2] at kk
  
  rw [tvs_ext he' wst] at kk
  exact kk
theorem go_callVN {a : Nat} {r : Option AV} (hok : Ok (y.cls, cc', nL', ret', d', none, y.name) (vr (some a) :: as) r h h1) (hy : YW y cc' nL' ret' np) {host : String} {ci N : Nat} {T : u_T} (hCI : CI ci y.cls T N) (hsa : gS h a = (ci, N)) (w1 : Cond.methodLinkNest M.1 i y host ∈ NWl) (w2 : Cond.instanceMethod y ∈ BW) (w3 : Cond.selects y.cls y y ∈ BW) (hz : asz (vr (some a) :: as) ≤ nL') (hnp : as.length = np) (hd9 : d' + 1 ≤ M.2.2.2.2.1 ∧ 19 + nL' + 100 * d' ≤ 100 * M.2.2.2.2.1) (hst : (st.map catv).sum ≤ 8) (hd : decode M.2.1 pc = .ok (.invokevirtual i, 3)) (hn : pc + 3 = n) (hstk : stk = as.reverse ++ vr (some a) :: st) {stk9 : List AV} (hs9 : r.toList ++ st = stk9) (k : Go K M Q hf n lv stk9 h1) : Go K M Q hf pc lv stk h := by
  obtain ⟨p, l, e, R, s, m, args, below, meth, c, D, tc, A, ad0, n0, c0, s0⟩ := K
  obtain ⟨own, cc, nL, ret, d, tb, nm⟩ := M
  subst hn
  subst hstk
  subst hs9
  have mo : Mo h h1 := (hok (p, l, e, R, s, m, args, below, meth, c, D, tc, A, ad0, gn h, gc h, gs h) rfl rfl rfl).1
  refine ⟨mo.tr k.1, fun hA wf wl ws g1 g2 g3 ad H locs ls he hR hD hS hl => ?_⟩
  obtain ⟨hx, hb, hml, hown, hts, hK, hlk, hret, hSF, hAA, ⟨r1, r2, r3, r4⟩, hlt, -⟩ := id hA
  obtain ⟨was, wst0⟩ := wvs_app ws
  obtain ⟨wa, wst⟩ := wvs_c wst0
  have wal : wvs (gn h) (vr (some a) :: as) := wvs_k wa was
  have hM := ok_met (l := l) (D := D) (tc := tc) (ad := ad) (sz := H.size) hy.2.2.2 hok hz wf wal hlt
  have hA1 : ∀ q, va_A (hpool tc ad h) H.size q → A q := fun q hq => by
    rcases hq with ⟨k9, e9, hk9⟩ | hq
    · exact hD.2 k9 _ hk9
    · exact hAA q (Nat.le_trans hS.1 hq)
  have hrm : (rmd d' (gc h1 - gc h) (gs h1 - gs h)).frames + 1 ≤ R.frames ∧ 8 + (nL' + 11) + (rmd d' (gc h1 - gc h) (gs h1 - gs h)).locals ≤ R.locals := by
    obtain ⟨q1, q2⟩ := hd9
    have q3 : d' + 1 ≤ d := q1
    have q4 : 19 + nL' + 100 * d' ≤ 100 * d := q2
    have q5 : d ≤ R.frames := r1
    have q6 : 100 * d ≤ R.locals := r2
    show d' + 1 ≤ R.frames ∧ 8 + (nL' + 11) + 100 * d' ≤ R.locals
    omega
  obtain ⟨b1, b2⟩ := wf.le hsa (by have := hCI.2.2.2.2; omega)
  have hpa := hpool_get (tc := tc) (ad := ad) b1 b2
  rw [tcell_obj hsa hCI.2.2.2.2] at hpa
  have hpre : ∀ U : State, U.heap = H → s.WarmedH U.vm → PreC D tc ad h (vr (some a) :: as) H.size ((vr (some a) :: as).map (tv ad)).toArray U := fun U hU hW =>
    ⟨rfl, by rw [hU], by rw [hU]; exact hR, hD.weaken (fun _ _ _ _ => trivial), va_K.moved hW.alike hK, hSF.go hW (fun q q1 q2 => by rw [hU]; exact hS.2.1 q q1 q2) hA1 (fun x hx9 => he x (Or.inr hx9))⟩
  have mo1 : gc h ≤ gc h1 := mo.1
  have mo2 : gs h ≤ gs h1 := mo.2
  have mo3 : gc h1 ≤ gc hf := k.1.1
  have mo4 : gs h1 ≤ gs hf := k.1.2
  have hroom : gc h - c0 + (gc h1 - gc h) ≤ R.cells ∧ gs h - s0 + (gs h1 - gs h) ≤ R.slots := by
    have q1 : gc hf - c0 ≤ R.cells := r3
    have q2 : gs hf - s0 ≤ R.slots := r4
    have q3 : c0 ≤ gc h := g2
    have q4 : s0 ≤ gs h := g3
    omega
  have run := va_runVN (p := p) (l := l) (e := e) (R := R) (s := s) (m := m) (args := args) (below := below) (meth := meth) (c := c) (H := H) (locs := locs) (own := own) (C := y.cls) (b := ad a) (As := as.map (tv ad)) (rest := st.map (tv ad)) (g := F0 m pc ls ((as.reverse ++ vr (some a) :: st).map (tv ad))) (cells := gc h - c0) (slots := gs h - s0) ⟨hx, hb, hml, hown, hts⟩ hM ⟨va_cnB np hts (bw_good y cc' nL' ret' hy.1) rfl rfl rfl (hSF.2.2.2.2.1 _ w1) (hts _ hy.2.1) hy.2.2.1 hrm, hts _ w2, hts _ w3⟩ ⟨PreC.blind, va_recv hK hR hCI.1 hpa, fun U hU hW => hpre U hU hW⟩ rfl (by rw [List.length_map]; exact hnp) hl.1 (by simp [tv, va_rf]) (lv_room (ls := ls) (m := m) (pc := pc) (rest := (as.reverse ++ vr (some a) :: st).map (tv ad)) (by rw [cat_map]; exact hst)) hd hroom
  refine call_core run hS hA1 fun ad' H1 locs1 he' hP' hD' wf' wr g' hS' => ?_
  have kk := k.2 hA wf' (fun q9 h9 => (wl q9 h9).up g') (fun v9 h9 => (List.mem_append.mp h9).elim (fun q => wr v9 (by simpa using q)) (fun q => (wst v9 q).up g')) (Nat.le_trans g1 g') (Nat.le_trans g2 mo1) (Nat.le_trans g3 mo2) ad' H1 locs1 ls (fun x hx9 => (he' x (hx9.up g1)).trans (he x hx9)) hP' hD' hS' (by rw [tl_ext he' wl]; exact hl)
  have c1 : gc h1 - c0 = gc h - c0 + (gc h1 - gc h) := by have q3 : c0 ≤ gc h := g2; omega
  have c2 : gs h1 - s0 = gs h - s0 + (gs h1 - gs h) := by have q3 : s0 ≤ gs h := g3; omega
  rw [c1, c2] at kk
  rw [List.map_append, ← toL] at kk
  rw [tvs_ext he' wst] at kk
  exact kk
theorem go_callSN {r : Option AV} (hok : Ok (y.cls, cc', nL', ret', d', none, y.name) (as) r h h1) (hy : YW y cc' nL' ret' np) {host : String} (w1 : Cond.methodLinkNest M.1 i y host ∈ NWl) (w2 : Cond.static y ∈ BW) (hz : asz (as) ≤ nL') (hnp : as.length = np) (hd9 : d' + 1 ≤ M.2.2.2.2.1 ∧ 19 + nL' + 100 * d' ≤ 100 * M.2.2.2.2.1) (hst : (st.map catv).sum ≤ 8) (hd : decode M.2.1 pc = .ok (.invokestatic i, 3)) (hn : pc + 3 = n) (hstk : stk = as.reverse ++ st) {stk9 : List AV} (hs9 : r.toList ++ st = stk9) (k : Go K M Q hf n lv stk9 h1) : Go K M Q hf pc lv stk h := by
  obtain ⟨p, l, e, R, s, m, args, below, meth, c, D, tc, A, ad0, n0, c0, s0⟩ := K
  obtain ⟨own, cc, nL, ret, d, tb, nm⟩ := M
  subst hn
  subst hstk
  subst hs9
  have mo : Mo h h1 := (hok (p, l, e, R, s, m, args, below, meth, c, D, tc, A, ad0, gn h, gc h, gs h) rfl rfl rfl).1
  refine ⟨mo.tr k.1, fun hA wf wl ws g1 g2 g3 ad H locs ls he hR hD hS hl => ?_⟩
  obtain ⟨hx, hb, hml, hown, hts, hK, hlk, hret, hSF, hAA, ⟨r1, r2, r3, r4⟩, hlt, -⟩ := id hA
  obtain ⟨was, wst0⟩ := wvs_app ws
  have wst := wst0
  have wal : wvs (gn h) (as) := was
  have hM := ok_met (l := l) (D := D) (tc := tc) (ad := ad) (sz := H.size) hy.2.2.2 hok hz wf wal hlt
  have hA1 : ∀ q, va_A (hpool tc ad h) H.size q → A q := fun q hq => by
    rcases hq with ⟨k9, e9, hk9⟩ | hq
    · exact hD.2 k9 _ hk9
    · exact hAA q (Nat.le_trans hS.1 hq)
  have hrm : (rmd d' (gc h1 - gc h) (gs h1 - gs h)).frames + 1 ≤ R.frames ∧ 8 + (nL' + 11) + (rmd d' (gc h1 - gc h) (gs h1 - gs h)).locals ≤ R.locals := by
    obtain ⟨q1, q2⟩ := hd9
    have q3 : d' + 1 ≤ d := q1
    have q4 : 19 + nL' + 100 * d' ≤ 100 * d := q2
    have q5 : d ≤ R.frames := r1
    have q6 : 100 * d ≤ R.locals := r2
    show d' + 1 ≤ R.frames ∧ 8 + (nL' + 11) + 100 * d' ≤ R.locals
    omega
  have hpre : ∀ U : State, U.heap = H → s.WarmedH U.vm → PreC D tc ad h (as) H.size ((as).map (tv ad)).toArray U := fun U hU hW =>
    ⟨rfl, by rw [hU], by rw [hU]; exact hR, hD.weaken (fun _ _ _ _ => trivial), va_K.moved hW.alike hK, hSF.go hW (fun q q1 q2 => by rw [hU]; exact hS.2.1 q q1 q2) hA1 (fun x hx9 => he x (Or.inr hx9))⟩
  have mo1 : gc h ≤ gc h1 := mo.1
  have mo2 : gs h ≤ gs h1 := mo.2
  have mo3 : gc h1 ≤ gc hf := k.1.1
  have mo4 : gs h1 ≤ gs hf := k.1.2
  have hroom : gc h - c0 + (gc h1 - gc h) ≤ R.cells ∧ gs h - s0 + (gs h1 - gs h) ≤ R.slots := by
    have q1 : gc hf - c0 ≤ R.cells := r3
    have q2 : gs hf - s0 ≤ R.slots := r4
    have q3 : c0 ≤ gc h := g2
    have q4 : s0 ≤ gs h := g3
    omega
  have run := va_runSN (p := p) (l := l) (e := e) (R := R) (s := s) (m := m) (args := args) (below := below) (meth := meth) (c := c) (H := H) (locs := locs) (own := own) (As := as.map (tv ad)) (rest := st.map (tv ad)) (g := F0 m pc ls ((as.reverse ++ st).map (tv ad))) (cells := gc h - c0) (slots := gs h - s0) ⟨hx, hb, hml, hown, hts⟩ hM ⟨va_cnB np hts (bw_good y cc' nL' ret' hy.1) rfl rfl rfl (hSF.2.2.2.2.1 _ w1) (hts _ hy.2.1) hy.2.2.1 hrm, hts _ w2, trivial⟩ ⟨PreC.blind, fun U hU hW => hpre U hU hW⟩ rfl (by rw [List.length_map]; exact hnp) hl.1 (by simp [tv, va_rf]) (lv_room (ls := ls) (m := m) (pc := pc) (rest := (as.reverse ++ st).map (tv ad)) (by rw [cat_map]; exact hst)) hd hroom
  refine call_core run hS hA1 fun ad' H1 locs1 he' hP' hD' wf' wr g' hS' => ?_
  have kk := k.2 hA wf' (fun q9 h9 => (wl q9 h9).up g') (fun v9 h9 => (List.mem_append.mp h9).elim (fun q => wr v9 (by simpa using q)) (fun q => (wst v9 q).up g')) (Nat.le_trans g1 g') (Nat.le_trans g2 mo1) (Nat.le_trans g3 mo2) ad' H1 locs1 ls (fun x hx9 => (he' x (hx9.up g1)).trans (he x hx9)) hP' hD' hS' (by rw [tl_ext he' wl]; exact hl)
  have c1 : gc h1 - c0 = gc h - c0 + (gc h1 - gc h) := by have q3 : c0 ≤ gc h := g2; omega
  have c2 : gs h1 - s0 = gs h - s0 + (gs h1 - gs h) := by have q3 : s0 ≤ gs h := g3; omega
  rw [c1, c2] at kk
  rw [List.map_append, ← toL] at kk
  rw [tvs_ext he' wst] at kk
  exact kk
theorem go_callIN {a : Nat} (hok : Ok (y.cls, cc', nL', none, d', none, y.name) (vr (some a) :: as) none h h1) (hy : YW y cc' nL' none np) {host : String} (w1 : Cond.methodLinkNest M.1 i y host ∈ NWl) (w2 : Cond.instanceMethod y ∈ BW) (w3 : y.name = "<init>") (hz : asz (vr (some a) :: as) ≤ nL') (hnp : as.length = np) (hd9 : d' + 1 ≤ M.2.2.2.2.1 ∧ 19 + nL' + 100 * d' ≤ 100 * M.2.2.2.2.1) (hst : (st.map catv).sum ≤ 8) (hd : decode M.2.1 pc = .ok (.invokespecial i, 3)) (hn : pc + 3 = n) (hstk : stk = as.reverse ++ vr (some a) :: st) (k : Go K M Q hf n lv st h1) : Go K M Q hf pc lv stk h := by
  obtain ⟨p, l, e, R, s, m, args, below, meth, c, D, tc, A, ad0, n0, c0, s0⟩ := K
  obtain ⟨own, cc, nL, ret, d, tb, nm⟩ := M
  subst hn
  subst hstk

  have mo : Mo h h1 := (hok (p, l, e, R, s, m, args, below, meth, c, D, tc, A, ad0, gn h, gc h, gs h) rfl rfl rfl).1
  refine ⟨mo.tr k.1, fun hA wf wl ws g1 g2 g3 ad H locs ls he hR hD hS hl => ?_⟩
  obtain ⟨hx, hb, hml, hown, hts, hK, hlk, hret, hSF, hAA, ⟨r1, r2, r3, r4⟩, hlt, -⟩ := id hA
  obtain ⟨was, wst0⟩ := wvs_app ws
  obtain ⟨wa, wst⟩ := wvs_c wst0
  have wal : wvs (gn h) (vr (some a) :: as) := wvs_k wa was
  have hM := ok_met (l := l) (D := D) (tc := tc) (ad := ad) (sz := H.size) hy.2.2.2 hok hz wf wal hlt
  have hA1 : ∀ q, va_A (hpool tc ad h) H.size q → A q := fun q hq => by
    rcases hq with ⟨k9, e9, hk9⟩ | hq
    · exact hD.2 k9 _ hk9
    · exact hAA q (Nat.le_trans hS.1 hq)
  have hrm : (rmd d' (gc h1 - gc h) (gs h1 - gs h)).frames + 1 ≤ R.frames ∧ 8 + (nL' + 11) + (rmd d' (gc h1 - gc h) (gs h1 - gs h)).locals ≤ R.locals := by
    obtain ⟨q1, q2⟩ := hd9
    have q3 : d' + 1 ≤ d := q1
    have q4 : 19 + nL' + 100 * d' ≤ 100 * d := q2
    have q5 : d ≤ R.frames := r1
    have q6 : 100 * d ≤ R.locals := r2
    show d' + 1 ≤ R.frames ∧ 8 + (nL' + 11) + 100 * d' ≤ R.locals
    omega
  have hpre : ∀ U : State, U.heap = H → s.WarmedH U.vm → PreC D tc ad h (vr (some a) :: as) H.size ((vr (some a) :: as).map (tv ad)).toArray U := fun U hU hW =>
    ⟨rfl, by rw [hU], by rw [hU]; exact hR, hD.weaken (fun _ _ _ _ => trivial), va_K.moved hW.alike hK, hSF.go hW (fun q q1 q2 => by rw [hU]; exact hS.2.1 q q1 q2) hA1 (fun x hx9 => he x (Or.inr hx9))⟩
  have mo1 : gc h ≤ gc h1 := mo.1
  have mo2 : gs h ≤ gs h1 := mo.2
  have mo3 : gc h1 ≤ gc hf := k.1.1
  have mo4 : gs h1 ≤ gs hf := k.1.2
  have hroom : gc h - c0 + (gc h1 - gc h) ≤ R.cells ∧ gs h - s0 + (gs h1 - gs h) ≤ R.slots := by
    have q1 : gc hf - c0 ≤ R.cells := r3
    have q2 : gs hf - s0 ≤ R.slots := r4
    have q3 : c0 ≤ gc h := g2
    have q4 : s0 ≤ gs h := g3
    omega
  have run := va_runIN (p := p) (l := l) (e := e) (R := R) (s := s) (m := m) (args := args) (below := below) (meth := meth) (c := c) (H := H) (locs := locs) (own := own) (b := ad a) (As := as.map (tv ad)) (rest := st.map (tv ad)) (g := F0 m pc ls ((as.reverse ++ vr (some a) :: st).map (tv ad))) (cells := gc h - c0) (slots := gs h - s0) ⟨hx, hb, hml, hown, hts⟩ hM ⟨va_cnB np hts (bw_good y cc' nL' none hy.1) rfl rfl rfl (hSF.2.2.2.2.1 _ w1) (hts _ hy.2.1) hy.2.2.1 hrm, w3, hts _ w2⟩ ⟨PreC.blind, fun U hU hW => hpre U hU hW⟩ rfl (by rw [List.length_map]; exact hnp) hl.1 (by simp [tv, va_rf]) (lv_room (ls := ls) (m := m) (pc := pc) (rest := (as.reverse ++ vr (some a) :: st).map (tv ad)) (by rw [cat_map]; exact hst)) hd hroom
  refine call_core run hS hA1 fun ad' H1 locs1 he' hP' hD' wf' wr g' hS' => ?_
  have kk := k.2 hA wf' (fun q9 h9 => (wl q9 h9).up g') (fun v9 h9 => (wst v9 h9).up g') (Nat.le_trans g1 g') (Nat.le_trans g2 mo1) (Nat.le_trans g3 mo2) ad' H1 locs1 ls (fun x hx9 => (he' x (hx9.up g1)).trans (he x hx9)) hP' hD' hS' (by rw [tl_ext he' wl]; exact hl)
  have c1 : gc h1 - c0 = gc h - c0 + (gc h1 - gc h) := by have q3 : c0 ≤ gc h := g2; omega
  have c2 : gs h1 - s0 = gs h - s0 + (gs h1 - gs h) := by have q3 : s0 ≤ gs h := g3; omega
  rw [c1, c2] at kk
  
  rw [tvs_ext he' wst] at kk
  exact kk
theorem go_callSW {r : Option AV} {hh : List (Nat × Nat × Nat × Nat)} (hok : Ok (y.cls, cc', nL', ret', d', some (tableOf hh), y.name) (as) r h h1) (hy : YWW y cc' nL' ret' hh np) (w1 : Cond.methodLink M.1 i y ∈ BW) (w2 : Cond.static y ∈ BW) (hz : asz (as) ≤ nL') (hnp : as.length = np) (hd9 : d' + 1 ≤ M.2.2.2.2.1 ∧ 19 + nL' + 100 * d' ≤ 100 * M.2.2.2.2.1) (hst : (st.map catv).sum ≤ 8) (hd : decode M.2.1 pc = .ok (.invokestatic i, 3)) (hn : pc + 3 = n) (hstk : stk = as.reverse ++ st) {stk9 : List AV} (hs9 : r.toList ++ st = stk9) (k : Go K M Q hf n lv stk9 h1) : Go K M Q hf pc lv stk h := by
  obtain ⟨p, l, e, R, s, m, args, below, meth, c, D, tc, A, ad0, n0, c0, s0⟩ := K
  obtain ⟨own, cc, nL, ret, d, tb, nm⟩ := M
  subst hn
  subst hstk
  subst hs9
  have mo : Mo h h1 := (hok (p, l, e, R, s, m, args, below, meth, c, D, tc, A, ad0, gn h, gc h, gs h) rfl rfl rfl).1
  refine ⟨mo.tr k.1, fun hA wf wl ws g1 g2 g3 ad H locs ls he hR hD hS hl => ?_⟩
  obtain ⟨hx, hb, hml, hown, hts, hK, hlk, hret, hSF, hAA, ⟨r1, r2, r3, r4⟩, hlt, -⟩ := id hA
  obtain ⟨was, wst0⟩ := wvs_app ws
  have wst := wst0
  have wal : wvs (gn h) (as) := was
  have hM := ok_metW (hh := hh) (l := l) (D := D) (tc := tc) (ad := ad) (sz := H.size) hy.2.2.2 hok hz wf wal hlt
  have hA1 : ∀ q, va_A (hpool tc ad h) H.size q → A q := fun q hq => by
    rcases hq with ⟨k9, e9, hk9⟩ | hq
    · exact hD.2 k9 _ hk9
    · exact hAA q (Nat.le_trans hS.1 hq)
  have hrm : (rmd d' (gc h1 - gc h) (gs h1 - gs h)).frames + 1 ≤ R.frames ∧ 8 + (nL' + 11) + (rmd d' (gc h1 - gc h) (gs h1 - gs h)).locals ≤ R.locals := by
    obtain ⟨q1, q2⟩ := hd9
    have q3 : d' + 1 ≤ d := q1
    have q4 : 19 + nL' + 100 * d' ≤ 100 * d := q2
    have q5 : d ≤ R.frames := r1
    have q6 : 100 * d ≤ R.locals := r2
    show d' + 1 ≤ R.frames ∧ 8 + (nL' + 11) + 100 * d' ≤ R.locals
    omega
  have hpre : ∀ U : State, U.heap = H → s.WarmedH U.vm → PreC D tc ad h (as) H.size ((as).map (tv ad)).toArray U := fun U hU hW =>
    ⟨rfl, by rw [hU], by rw [hU]; exact hR, hD.weaken (fun _ _ _ _ => trivial), va_K.moved hW.alike hK, hSF.go hW (fun q q1 q2 => by rw [hU]; exact hS.2.1 q q1 q2) hA1 (fun x hx9 => he x (Or.inr hx9))⟩
  have mo1 : gc h ≤ gc h1 := mo.1
  have mo2 : gs h ≤ gs h1 := mo.2
  have mo3 : gc h1 ≤ gc hf := k.1.1
  have mo4 : gs h1 ≤ gs hf := k.1.2
  have hroom : gc h - c0 + (gc h1 - gc h) ≤ R.cells ∧ gs h - s0 + (gs h1 - gs h) ≤ R.slots := by
    have q1 : gc hf - c0 ≤ R.cells := r3
    have q2 : gs hf - s0 ≤ R.slots := r4
    have q3 : c0 ≤ gc h := g2
    have q4 : s0 ≤ gs h := g3
    omega
  have run := vx_runSW (hh := hh) (p := p) (l := l) (e := e) (R := R) (s := s) (m := m) (args := args) (below := below) (meth := meth) (c := c) (H := H) (locs := locs) (own := own) (As := as.map (tv ad)) (rest := st.map (tv ad)) (g := F0 m pc ls ((as.reverse ++ st).map (tv ad))) (cells := gc h - c0) (slots := gs h - s0) ⟨hx, hb, hml, hown, hts⟩ hM ⟨⟨rfl, rfl, hrm.1, hrm.2, pay_in hts (bw_goodW y cc' nL' ret' hh hy.1), List.mem_cons_self⟩, hts _ hy.1, hts _ hy.2.1, ⟨hy.2.2.1.1, hy.2.2.1.2.1⟩, fun sig hq => by have q2 := hy.2.2.1.2.2; rw [hq] at q2; exact (Option.some.inj q2).symm, hts _ w1, hts _ w2⟩ ⟨PreC.blind, fun U hU hW => hpre U hU hW⟩ rfl (by rw [List.length_map]; exact hnp) hl.1 (by simp [tv, va_rf]) (lv_room (ls := ls) (m := m) (pc := pc) (rest := (as.reverse ++ st).map (tv ad)) (by rw [cat_map]; exact hst)) hd hroom
  refine call_core run hS hA1 fun ad' H1 locs1 he' hP' hD' wf' wr g' hS' => ?_
  have kk := k.2 hA wf' (fun q9 h9 => (wl q9 h9).up g') (fun v9 h9 => (List.mem_append.mp h9).elim (fun q => wr v9 (by simpa using q)) (fun q => (wst v9 q).up g')) (Nat.le_trans g1 g') (Nat.le_trans g2 mo1) (Nat.le_trans g3 mo2) ad' H1 locs1 ls (fun x hx9 => (he' x (hx9.up g1)).trans (he x hx9)) hP' hD' hS' (by rw [tl_ext he' wl]; exact hl)
  have c1 : gc h1 - c0 = gc h - c0 + (gc h1 - gc h) := by have q3 : c0 ≤ gc h := g2; omega
  have c2 : gs h1 - s0 = gs h - s0 + (gs h1 - gs h) := by have q3 : s0 ≤ gs h := g3; omega
  rw [c1, c2] at kk
  rw [List.map_append, ← toL] at kk
  rw [tvs_ext he' wst] at kk
  exact kk
theorem go_callVT {a : Nat} {r : Option AV} (hok : Ok (y.cls, cc', nL', ret', d', none, y.name) (vr (some a) :: as) r h h1) (hy : YW y cc' nL' ret' np) {j : Nat} (hj9 : j < 18) (haj : a = 1000000 + j) (hcs : y.cls = "java/lang/String") (w1 : Cond.methodLink M.1 i y ∈ BW) (w2 : Cond.instanceMethod y ∈ BW) (w3 : Cond.selects y.cls y y ∈ BW) (hz : asz (vr (some a) :: as) ≤ nL') (hnp : as.length = np) (hd9 : d' + 1 ≤ M.2.2.2.2.1 ∧ 19 + nL' + 100 * d' ≤ 100 * M.2.2.2.2.1) (hst : (st.map catv).sum ≤ 8) (hd : decode M.2.1 pc = .ok (.invokevirtual i, 3)) (hn : pc + 3 = n) (hstk : stk = as.reverse ++ vr (some a) :: st) {stk9 : List AV} (hs9 : r.toList ++ st = stk9) (k : Go K M Q hf n lv stk9 h1) : Go K M Q hf pc lv stk h := by
  obtain ⟨p, l, e, R, s, m, args, below, meth, c, D, tc, A, ad0, n0, c0, s0⟩ := K
  obtain ⟨own, cc, nL, ret, d, tb, nm⟩ := M
  subst hn
  subst hstk
  subst hs9
  have mo : Mo h h1 := (hok (p, l, e, R, s, m, args, below, meth, c, D, tc, A, ad0, gn h, gc h, gs h) rfl rfl rfl).1
  refine ⟨mo.tr k.1, fun hA wf wl ws g1 g2 g3 ad H locs ls he hR hD hS hl => ?_⟩
  obtain ⟨hx, hb, hml, hown, hts, hK, hlk, hret, hSF, hAA, ⟨r1, r2, r3, r4⟩, hlt, -⟩ := id hA
  obtain ⟨was, wst0⟩ := wvs_app ws
  obtain ⟨wa, wst⟩ := wvs_c wst0
  have wal : wvs (gn h) (vr (some a) :: as) := wvs_k wa was
  have hM := ok_met (l := l) (D := D) (tc := tc) (ad := ad) (sz := H.size) hy.2.2.2 hok hz wf wal hlt
  have hA1 : ∀ q, va_A (hpool tc ad h) H.size q → A q := fun q hq => by
    rcases hq with ⟨k9, e9, hk9⟩ | hq
    · exact hD.2 k9 _ hk9
    · exact hAA q (Nat.le_trans hS.1 hq)
  have hrm : (rmd d' (gc h1 - gc h) (gs h1 - gs h)).frames + 1 ≤ R.frames ∧ 8 + (nL' + 11) + (rmd d' (gc h1 - gc h) (gs h1 - gs h)).locals ≤ R.locals := by
    obtain ⟨q1, q2⟩ := hd9
    have q3 : d' + 1 ≤ d := q1
    have q4 : 19 + nL' + 100 * d' ≤ 100 * d := q2
    have q5 : d ≤ R.frames := r1
    have q6 : 100 * d ≤ R.locals := r2
    show d' + 1 ≤ R.frames ∧ 8 + (nL' + 11) + 100 * d' ≤ R.locals
    omega
  have hrecv : ∃ cellB : Cell, H[ad a]? = some cellB ∧ cellB.vm.isStatics = false ∧ s.vm.findClass y.cls = some cellB.cls := by
    obtain ⟨cellB, z1, z2, z3, -⟩ := ((hSF.2.2.1 j hj9).1).kept hS.2.1
    rw [haj, he (1000000 + j) (Or.inr (by omega)), hcs]
    exact ⟨cellB, z1, z2, z3⟩
  have hpre : ∀ U : State, U.heap = H → s.WarmedH U.vm → PreC D tc ad h (vr (some a) :: as) H.size ((vr (some a) :: as).map (tv ad)).toArray U := fun U hU hW =>
    ⟨rfl, by rw [hU], by rw [hU]; exact hR, hD.weaken (fun _ _ _ _ => trivial), va_K.moved hW.alike hK, hSF.go hW (fun q q1 q2 => by rw [hU]; exact hS.2.1 q q1 q2) hA1 (fun x hx9 => he x (Or.inr hx9))⟩
  have mo1 : gc h ≤ gc h1 := mo.1
  have mo2 : gs h ≤ gs h1 := mo.2
  have mo3 : gc h1 ≤ gc hf := k.1.1
  have mo4 : gs h1 ≤ gs hf := k.1.2
  have hroom : gc h - c0 + (gc h1 - gc h) ≤ R.cells ∧ gs h - s0 + (gs h1 - gs h) ≤ R.slots := by
    have q1 : gc hf - c0 ≤ R.cells := r3
    have q2 : gs hf - s0 ≤ R.slots := r4
    have q3 : c0 ≤ gc h := g2
    have q4 : s0 ≤ gs h := g3
    omega
  have run := va_runV (p := p) (l := l) (e := e) (R := R) (s := s) (m := m) (args := args) (below := below) (meth := meth) (c := c) (H := H) (locs := locs) (own := own) (C := y.cls) (b := ad a) (As := as.map (tv ad)) (rest := st.map (tv ad)) (g := F0 m pc ls ((as.reverse ++ vr (some a) :: st).map (tv ad))) (cells := gc h - c0) (slots := gs h - s0) ⟨hx, hb, hml, hown, hts⟩ hM ⟨callB_of np hts (bw_good y cc' nL' ret' hy.1) rfl rfl rfl (hts _ hy.2.1) (hts _ w1) hy.2.2.1 hrm, hts _ w2, hts _ w3⟩ ⟨PreC.blind, hrecv, fun U hU hW => hpre U hU hW⟩ rfl (by rw [List.length_map]; exact hnp) hl.1 (by simp [tv, va_rf]) (lv_room (ls := ls) (m := m) (pc := pc) (rest := (as.reverse ++ vr (some a) :: st).map (tv ad)) (by rw [cat_map]; exact hst)) hd hroom
  refine call_core run hS hA1 fun ad' H1 locs1 he' hP' hD' wf' wr g' hS' => ?_
  have kk := k.2 hA wf' (fun q9 h9 => (wl q9 h9).up g') (fun v9 h9 => (List.mem_append.mp h9).elim (fun q => wr v9 (by simpa using q)) (fun q => (wst v9 q).up g')) (Nat.le_trans g1 g') (Nat.le_trans g2 mo1) (Nat.le_trans g3 mo2) ad' H1 locs1 ls (fun x hx9 => (he' x (hx9.up g1)).trans (he x hx9)) hP' hD' hS' (by rw [tl_ext he' wl]; exact hl)
  have c1 : gc h1 - c0 = gc h - c0 + (gc h1 - gc h) := by have q3 : c0 ≤ gc h := g2; omega
  have c2 : gs h1 - s0 = gs h - s0 + (gs h1 - gs h) := by have q3 : s0 ≤ gs h := g3; omega
  rw [c1, c2] at kk
  rw [List.map_append, ← toL] at kk
  rw [tvs_ext he' wst] at kk
  exact kk
end GOC
