section GOCX
variable {K : Ctx} {M : MI} {Q : State → Prop} {hf : HP} {pc n : Nat} {lv : List (Nat × AV)} {st stk : List AV} {h h1 : HP} {y : MethodName} {cc' : ByteArray} {nL' d' np i : Nat} {ret' : Option FieldType} {as : List AV}
theorem go_callXVr {a : Nat} {r : Option AV} (hok : OkX (y.cls, cc', nL', ret', d', some [], y.name) (vr (some a) :: as) (.inr r) h h1) (hy : YW y cc' nL' ret' np) {ci N : Nat} {T : u_T} (hCI : CI ci y.cls T N) (hsa : gS h a = (ci, N)) (w1 : Cond.methodLink M.1 i y ∈ BW) (w2 : Cond.instanceMethod y ∈ BW) (w3 : Cond.selects y.cls y y ∈ BW) (hz : asz (vr (some a) :: as) ≤ nL') (hnp : as.length = np) (hd9 : d' + 1 ≤ M.2.2.2.2.1 ∧ 19 + nL' + 100 * d' ≤ 100 * M.2.2.2.2.1) (hst : (st.map catv).sum ≤ 8) (hd : decode M.2.1 pc = .ok (.invokevirtual i, 3)) (hstk : stk = as.reverse ++ vr (some a) :: st) (hn : pc + 3 = n) {stk9 : List AV} (hs9 : r.toList ++ st = stk9) (k : Go K M Q hf n lv stk9 h1) : Go K M Q hf pc lv stk h := by
  obtain ⟨p, l, e, R, s, m, args, below, meth, c, D, tc, A, ad0, n0, c0, s0⟩ := K
  obtain ⟨own, cc, nL, ret, d, tb, nm⟩ := M
  subst hn
  subst hs9
  subst hstk
  have mo : Mo h h1 := (hok (p, l, e, R, s, m, args, below, meth, c, D, tc, A, ad0, gn h, gc h, gs h) rfl rfl rfl).1
  refine ⟨mo.tr k.1, fun hA wf wl ws g1 g2 g3 ad H locs ls he hR hD hS hl => ?_⟩
  obtain ⟨hx, hb, hml, hown, hts, hK, hlk, hret, hSF, hAA, ⟨r1, r2, r3, r4⟩, hlt, htab, hmn⟩ := id hA
  obtain ⟨was, wst0⟩ := wvs_app ws
  obtain ⟨wa, wst⟩ := wvs_c wst0
  have wal : wvs (gn h) (vr (some a) :: as) := wvs_k wa was
  have hM := ok_metX (l := l) (D := D) (tc := tc) (ad := ad) (sz := H.size) hy.2.2.2 hok hz wf wal hlt
  have hA1 : ∀ q, va_A (hpool tc ad h) H.size q → A q := fun q hq => by
    rcases hq with ⟨k9, e9, hk9⟩ | hq
    · exact hD.2 k9 _ hk9
    · exact hAA q (Nat.le_trans hS.1 hq)
  have hrm : (rmd d' (gc h1 - gc h) (gs h1 - gs h)).frames + 1 ≤ R.frames ∧ 8 + (nL' + 11) + (rmd d' (gc h1 - gc h) (gs h1 - gs h)).locals ≤ R.locals := by
    obtain ⟨q1, q2⟩ := hd9
    have q3 : d' + 1 ≤ d := q1
    have q4 : 19 + nL' + 100 * d' ≤ 100 * d := q2
    have q5 : d ≤ R.frames := r1
    have q6 : 100 * d ≤ R.locals := r2
    show d' + 1 ≤ R.frames ∧ 8 + (nL' + 11) + 100 * d' ≤ R.locals
    omega
  obtain ⟨b1, b2⟩ := wf.le hsa (by have := hCI.2.2.2.2; omega)
  have hpa := hpool_get (tc := tc) (ad := ad) b1 b2
  rw [tcell_obj hsa hCI.2.2.2.2] at hpa
  have hpre : ∀ U : State, U.heap = H → s.WarmedH U.vm → PreC D tc ad h (vr (some a) :: as) H.size ((vr (some a) :: as).map (tv ad)).toArray U := fun U hU hW =>
    ⟨rfl, by rw [hU], by rw [hU]; exact hR, hD.weaken (fun _ _ _ _ => trivial), va_K.moved hW.alike hK, hSF.go hW (fun q q1 q2 => by rw [hU]; exact hS.2.1 q q1 q2) hA1 (fun x hx9 => he x (Or.inr hx9))⟩
  have mo1 : gc h ≤ gc h1 := mo.1
  have mo2 : gs h ≤ gs h1 := mo.2
  have mo3 : gc h1 ≤ gc hf := k.1.1
  have mo4 : gs h1 ≤ gs hf := k.1.2
  have hroom : gc h - c0 + (gc h1 - gc h) ≤ R.cells ∧ gs h - s0 + (gs h1 - gs h) ≤ R.slots := by
    have q1 : gc hf - c0 ≤ R.cells := r3
    have q2 : gs hf - s0 ≤ R.slots := r4
    have q3 : c0 ≤ gc h := g2
    have q4 : s0 ≤ gs h := g3
    omega
  have run := vx_runV (p := p) (l := l) (e := e) (R := R) (s := s) (m := m) (args := args) (below := below) (meth := meth) (c := c) (H := H) (locs := locs) (own := own) (C := y.cls) (b := ad a) (As := as.map (tv ad)) (rest := st.map (tv ad)) (g := F0 m pc ls ((as.reverse ++ vr (some a) :: st).map (tv ad))) (cells := gc h - c0) (slots := gs h - s0) ⟨hx, hb, hml, hown, hts⟩ hM ⟨callB_of np hts (bw_good y cc' nL' ret' hy.1) rfl rfl rfl (hts _ hy.2.1) (hts _ w1) hy.2.2.1 hrm, hts _ w2, hts _ w3⟩ ⟨PreC.blind, va_recv hK hR hCI.1 hpa, fun U hU hW => hpre U hU hW⟩ rfl (by rw [List.length_map]; exact hnp) hl.1 (by simp [tv, va_rf]) (lv_room (ls := ls) (m := m) (pc := pc) (rest := (as.reverse ++ vr (some a) :: st).map (tv ad)) (by rw [cat_map]; exact hst)) hd hroom
  have c1 : gc h1 - c0 = gc h - c0 + (gc h1 - gc h) := by have q3 : c0 ≤ gc h := g2; omega
  have c2 : gs h1 - s0 = gs h - s0 + (gs h1 - gs h) := by have q3 : s0 ≤ gs h := g3; omega
  refine call_coreR run hS hA1 fun ad' H1 locs1 he' hP' hD' wf' wr g' hS' => ?_
  have kk := k.2 hA wf' (fun q9 h9 => (wl q9 h9).up g') (fun v9 h9 => (List.mem_append.mp h9).elim (fun q => wr v9 (by simpa using q)) (fun q => (wst v9 q).up g')) (Nat.le_trans g1 g') (Nat.le_trans g2 mo1) (Nat.le_trans g3 mo2) ad' H1 locs1 ls (fun x hx9 => (he' x (hx9.up g1)).trans (he x hx9)) hP' hD' hS' (by rw [tl_ext he' wl]; exact hl)
  rw [c1, c2] at kk
  rw [List.map_append, ← toL] at kk
  rw [tvs_ext he' wst] at kk
  exact kk
theorem go_callXVt {a : Nat} {E : String} (hok : OkX (y.cls, cc', nL', ret', d', some [], y.name) (vr (some a) :: as) (.inl E) h h1) (hy : YW y cc' nL' ret' np) {ci N : Nat} {T : u_T} (hCI : CI ci y.cls T N) (hsa : gS h a = (ci, N)) (w1 : Cond.methodLink M.1 i y ∈ BW) (w2 : Cond.instanceMethod y ∈ BW) (w3 : Cond.selects y.cls y y ∈ BW) (hz : asz (vr (some a) :: as) ≤ nL') (hnp : as.length = np) (hd9 : d' + 1 ≤ M.2.2.2.2.1 ∧ 19 + nL' + 100 * d' ≤ 100 * M.2.2.2.2.1) (hst : (st.map catv).sum ≤ 8) (hd : decode M.2.1 pc = .ok (.invokevirtual i, 3)) (hstk : stk = as.reverse ++ vr (some a) :: st) (htb : M.2.2.2.2.2.1 = some []) : Go K M (QMX K (.inl E) h1) h1 pc lv stk h := by
  obtain ⟨p, l, e, R, s, m, args, below, meth, c, D, tc, A, ad0, n0, c0, s0⟩ := K
  obtain ⟨own, cc, nL, ret, d, tb, nm⟩ := M
  subst hstk
  have mo : Mo h h1 := (hok (p, l, e, R, s, m, args, below, meth, c, D, tc, A, ad0, gn h, gc h, gs h) rfl rfl rfl).1
  refine ⟨mo, fun hA wf wl ws g1 g2 g3 ad H locs ls he hR hD hS hl => ?_⟩
  obtain ⟨hx, hb, hml, hown, hts, hK, hlk, hret, hSF, hAA, ⟨r1, r2, r3, r4⟩, hlt, htab, hmn⟩ := id hA
  obtain ⟨was, wst0⟩ := wvs_app ws
  obtain ⟨wa, wst⟩ := wvs_c wst0
  have wal : wvs (gn h) (vr (some a) :: as) := wvs_k wa was
  have hM := ok_metX (l := l) (D := D) (tc := tc) (ad := ad) (sz := H.size) hy.2.2.2 hok hz wf wal hlt
  have hA1 : ∀ q, va_A (hpool tc ad h) H.size q → A q := fun q hq => by
    rcases hq with ⟨k9, e9, hk9⟩ | hq
    · exact hD.2 k9 _ hk9
    · exact hAA q (Nat.le_trans hS.1 hq)
  have hrm : (rmd d' (gc h1 - gc h) (gs h1 - gs h)).frames + 1 ≤ R.frames ∧ 8 + (nL' + 11) + (rmd d' (gc h1 - gc h) (gs h1 - gs h)).locals ≤ R.locals := by
    obtain ⟨q1, q2⟩ := hd9
    have q3 : d' + 1 ≤ d := q1
    have q4 : 19 + nL' + 100 * d' ≤ 100 * d := q2
    have q5 : d ≤ R.frames := r1
    have q6 : 100 * d ≤ R.locals := r2
    show d' + 1 ≤ R.frames ∧ 8 + (nL' + 11) + 100 * d' ≤ R.locals
    omega
  obtain ⟨b1, b2⟩ := wf.le hsa (by have := hCI.2.2.2.2; omega)
  have hpa := hpool_get (tc := tc) (ad := ad) b1 b2
  rw [tcell_obj hsa hCI.2.2.2.2] at hpa
  have hpre : ∀ U : State, U.heap = H → s.WarmedH U.vm → PreC D tc ad h (vr (some a) :: as) H.size ((vr (some a) :: as).map (tv ad)).toArray U := fun U hU hW =>
    ⟨rfl, by rw [hU], by rw [hU]; exact hR, hD.weaken (fun _ _ _ _ => trivial), va_K.moved hW.alike hK, hSF.go hW (fun q q1 q2 => by rw [hU]; exact hS.2.1 q q1 q2) hA1 (fun x hx9 => he x (Or.inr hx9))⟩
  have mo1 : gc h ≤ gc h1 := mo.1
  have mo2 : gs h ≤ gs h1 := mo.2
  have mo3 : gc h1 ≤ gc h1 := Nat.le_refl _
  have mo4 : gs h1 ≤ gs h1 := Nat.le_refl _
  have hroom : gc h - c0 + (gc h1 - gc h) ≤ R.cells ∧ gs h - s0 + (gs h1 - gs h) ≤ R.slots := by
    have q1 : gc h1 - c0 ≤ R.cells := r3
    have q2 : gs h1 - s0 ≤ R.slots := r4
    have q3 : c0 ≤ gc h := g2
    have q4 : s0 ≤ gs h := g3
    omega
  have run := vx_runV (p := p) (l := l) (e := e) (R := R) (s := s) (m := m) (args := args) (below := below) (meth := meth) (c := c) (H := H) (locs := locs) (own := own) (C := y.cls) (b := ad a) (As := as.map (tv ad)) (rest := st.map (tv ad)) (g := F0 m pc ls ((as.reverse ++ vr (some a) :: st).map (tv ad))) (cells := gc h - c0) (slots := gs h - s0) ⟨hx, hb, hml, hown, hts⟩ hM ⟨callB_of np hts (bw_good y cc' nL' ret' hy.1) rfl rfl rfl (hts _ hy.2.1) (hts _ w1) hy.2.2.1 hrm, hts _ w2, hts _ w3⟩ ⟨PreC.blind, va_recv hK hR hCI.1 hpa, fun U hU hW => hpre U hU hW⟩ rfl (by rw [List.length_map]; exact hnp) hl.1 (by simp [tv, va_rf]) (lv_room (ls := ls) (m := m) (pc := pc) (rest := (as.reverse ++ vr (some a) :: st).map (tv ad)) (by rw [cat_map]; exact hst)) hd hroom
  have c1 : gc h1 - c0 = gc h - c0 + (gc h1 - gc h) := by have q3 : c0 ≤ gc h := g2; omega
  have c2 : gs h1 - s0 = gs h - s0 + (gs h1 - gs h) := by have q3 : s0 ≤ gs h := g3; omega
  refine call_coreT run hS hA1 fun ad' H1 locs1 q ce he' hP' hD' wf' g' hS' hce hcv hcl => ?_
  refine vx_out (c := c) (fun x hx9 => ?_) hlk hce hcv hcl (fun t ht hal => ⟨rfl, ⟨ad', fun x hx9 => (he' x (hx9.up g1)).trans (he x hx9), by rw [ht]; exact hP', hD', wf', Nat.le_trans g1 g'⟩, hS'.F ht⟩) hS'.2.2 (by show gc h - c0 + (gc h1 - gc h) ≤ gc h1 - c0; omega) (by show gs h - s0 + (gs h1 - gs h) ≤ gs h1 - s0; omega)
  have e9 := htab [] htb
  rw [e9] at hx9; cases hx9
theorem go_callXVc {a : Nat} {E name : String} {pre suf : List ExceptionTableEntry} {x : ExceptionTableEntry} {j : Nat} {lv' : List (Nat × AV)} (hok : OkX (y.cls, cc', nL', ret', d', some [], y.name) (vr (some a) :: as) (.inl E) h h1) (hy : YW y cc' nL' ret' np) {ci N : Nat} {T : u_T} (hCI : CI ci y.cls T N) (hsa : gS h a = (ci, N)) (w1 : Cond.methodLink M.1 i y ∈ BW) (w2 : Cond.instanceMethod y ∈ BW) (w3 : Cond.selects y.cls y y ∈ BW) (hz : asz (vr (some a) :: as) ≤ nL') (hnp : as.length = np) (hd9 : d' + 1 ≤ M.2.2.2.2.1 ∧ 19 + nL' + 100 * d' ≤ 100 * M.2.2.2.2.1) (hst : (st.map catv).sum ≤ 8) (hd : decode M.2.1 pc = .ok (.invokevirtual i, 3)) (hstk : stk = as.reverse ++ vr (some a) :: st) (htb : M.2.2.2.2.2.1 = some (pre ++ x :: suf)) (hpre9 : ∀ z ∈ pre, z.catchType ≠ 0 ∧ ∃ nm : String, Cond.classLink M.1 z.catchType nm ∈ BW ∧ (E, nm) ∈ NCl) (hcov : covers x pc = true) (hct : x.catchType ≠ 0) (hcl9 : Cond.classLink M.1 x.catchType name ∈ BW) (hcast : Cond.castable E name ∈ XWl) (hds : decode M.2.1 x.handlerPc = .ok (.astore j, 2) ∧ x.handlerPc + 2 = n ∨ ∃ q : Fin 4, (q : Nat) = j ∧ decode M.2.1 x.handlerPc = .ok (.astore_n q, 1) ∧ x.handlerPc + 1 = n) (hj9 : j < M.2.2.1) (hl' : flt1 j lv = lv') (k : Go K M Q hf n lv' [] h1) : Go K M Q hf pc lv stk h := by
  obtain ⟨p, l, e, R, s, m, args, below, meth, c, D, tc, A, ad0, n0, c0, s0⟩ := K
  obtain ⟨own, cc, nL, ret, d, tb, nm⟩ := M
  subst hl'
  subst hstk
  have mo : Mo h h1 := (hok (p, l, e, R, s, m, args, below, meth, c, D, tc, A, ad0, gn h, gc h, gs h) rfl rfl rfl).1
  refine ⟨mo.tr k.1, fun hA wf wl ws g1 g2 g3 ad H locs ls he hR hD hS hl => ?_⟩
  obtain ⟨hx, hb, hml, hown, hts, hK, hlk, hret, hSF, hAA, ⟨r1, r2, r3, r4⟩, hlt, htab, hmn⟩ := id hA
  obtain ⟨was, wst0⟩ := wvs_app ws
  obtain ⟨wa, wst⟩ := wvs_c wst0
  have wal : wvs (gn h) (vr (some a) :: as) := wvs_k wa was
  have hM := ok_metX (l := l) (D := D) (tc := tc) (ad := ad) (sz := H.size) hy.2.2.2 hok hz wf wal hlt
  have hA1 : ∀ q, va_A (hpool tc ad h) H.size q → A q := fun q hq => by
    rcases hq with ⟨k9, e9, hk9⟩ | hq
    · exact hD.2 k9 _ hk9
    · exact hAA q (Nat.le_trans hS.1 hq)
  have hrm : (rmd d' (gc h1 - gc h) (gs h1 - gs h)).frames + 1 ≤ R.frames ∧ 8 + (nL' + 11) + (rmd d' (gc h1 - gc h) (gs h1 - gs h)).locals ≤ R.locals := by
    obtain ⟨q1, q2⟩ := hd9
    have q3 : d' + 1 ≤ d := q1
    have q4 : 19 + nL' + 100 * d' ≤ 100 * d := q2
    have q5 : d ≤ R.frames := r1
    have q6 : 100 * d ≤ R.locals := r2
    show d' + 1 ≤ R.frames ∧ 8 + (nL' + 11) + 100 * d' ≤ R.locals
    omega
  obtain ⟨b1, b2⟩ := wf.le hsa (by have := hCI.2.2.2.2; omega)
  have hpa := hpool_get (tc := tc) (ad := ad) b1 b2
  rw [tcell_obj hsa hCI.2.2.2.2] at hpa
  have hpre : ∀ U : State, U.heap = H → s.WarmedH U.vm → PreC D tc ad h (vr (some a) :: as) H.size ((vr (some a) :: as).map (tv ad)).toArray U := fun U hU hW =>
    ⟨rfl, by rw [hU], by rw [hU]; exact hR, hD.weaken (fun _ _ _ _ => trivial), va_K.moved hW.alike hK, hSF.go hW (fun q q1 q2 => by rw [hU]; exact hS.2.1 q q1 q2) hA1 (fun x hx9 => he x (Or.inr hx9))⟩
  have mo1 : gc h ≤ gc h1 := mo.1
  have mo2 : gs h ≤ gs h1 := mo.2
  have mo3 : gc h1 ≤ gc hf := k.1.1
  have mo4 : gs h1 ≤ gs hf := k.1.2
  have hroom : gc h - c0 + (gc h1 - gc h) ≤ R.cells ∧ gs h - s0 + (gs h1 - gs h) ≤ R.slots := by
    have q1 : gc hf - c0 ≤ R.cells := r3
    have q2 : gs hf - s0 ≤ R.slots := r4
    have q3 : c0 ≤ gc h := g2
    have q4 : s0 ≤ gs h := g3
    omega
  have run := vx_runV (p := p) (l := l) (e := e) (R := R) (s := s) (m := m) (args := args) (below := below) (meth := meth) (c := c) (H := H) (locs := locs) (own := own) (C := y.cls) (b := ad a) (As := as.map (tv ad)) (rest := st.map (tv ad)) (g := F0 m pc ls ((as.reverse ++ vr (some a) :: st).map (tv ad))) (cells := gc h - c0) (slots := gs h - s0) ⟨hx, hb, hml, hown, hts⟩ hM ⟨callB_of np hts (bw_good y cc' nL' ret' hy.1) rfl rfl rfl (hts _ hy.2.1) (hts _ w1) hy.2.2.1 hrm, hts _ w2, hts _ w3⟩ ⟨PreC.blind, va_recv hK hR hCI.1 hpa, fun U hU hW => hpre U hU hW⟩ rfl (by rw [List.length_map]; exact hnp) hl.1 (by simp [tv, va_rf]) (lv_room (ls := ls) (m := m) (pc := pc) (rest := (as.reverse ++ vr (some a) :: st).map (tv ad)) (by rw [cat_map]; exact hst)) hd hroom
  have c1 : gc h1 - c0 = gc h - c0 + (gc h1 - gc h) := by have q3 : c0 ≤ gc h := g2; omega
  have c2 : gs h1 - s0 = gs h - s0 + (gs h1 - gs h) := by have q3 : s0 ≤ gs h := g3; omega
  refine call_coreT run hS hA1 fun ad' H1 locs1 q ce he' hP' hD' wf' g' hS' hce hcv hcl => ?_
  refine vx_catch (c := c) (own := own) (name := name) (E := E) (ce := ce) hown pre x suf (htab _ htb) (fun z hz9 => ?_) hcov hct (hts _ hcl9) (va_Nw.use (by
        simp only [XWl, List.mem_cons, List.not_mem_nil, or_false] at hcast
        rcases hcast with q9 | q9 | q9 | q9 | q9 | q9 | q9 | q9 <;> cases q9 <;> rfl) (hSF.2.2.2.2.2.2.2.2.1 _ hcast)) hce hcv hcl ?_
  · obtain ⟨z1, nm9, z2, z3⟩ := hpre9 z hz9
    exact Or.inr ⟨z1, nm9, hts _ z2, hSF.2.2.2.2.2.1 _ z3⟩
  · have kk := fun (ls' : Array Slot) (hl9 : lv_has ls' nL (tl ad (flt1 j lv))) => k.2 hA wf' (fun q9 h9 => (wl q9 (List.mem_filter.mp h9).1).up g') (fun v9 h9 => by cases h9) (Nat.le_trans g1 g') (Nat.le_trans g2 mo1) (Nat.le_trans g3 mo2) ad' H1 locs1 ls' (fun x hx9 => (he' x (hx9.up g1)).trans (he x hx9)) hP' hD' hS' (by rw [tl_ext (lv := flt1 j lv) he' (fun q9 h9 => wl q9 (List.mem_filter.mp h9).1)]; exact hl9)
    rw [c1, c2] at kk
    have hl8 : (j, Value.ref q) :: (tl ad lv).filter (fun q => !(q.1 == j) && !(q.1 + 1 == j && q.2.category == 2)) = (j, Value.ref q) :: tl ad (flt1 j lv) := by rw [flt1_tl]
    rcases hds with ⟨d1, d2⟩ | ⟨q4, d1, d2, d3⟩
    · subst d2
      exact lv_astore hx hb d1 hl hj9 hl8 (fun ls' hl9 => kk ls' ⟨hl9.1, hl9.2.1, fun z hz => hl9.2.2 z (List.mem_cons_of_mem _ hz)⟩)
    · subst d3
      exact lv_astore_n hx hb d2 d1 hl hj9 hl8 (fun ls' hl9 => kk ls' ⟨hl9.1, hl9.2.1, fun z hz => hl9.2.2 z (List.mem_cons_of_mem _ hz)⟩)
theorem go_callXSr {r : Option AV} (hok : OkX (y.cls, cc', nL', ret', d', some [], y.name) (as) (.inr r) h h1) (hy : YW y cc' nL' ret' np) (w1 : Cond.methodLink M.1 i y ∈ BW) (w2 : Cond.static y ∈ BW) (hz : asz (as) ≤ nL') (hnp : as.length = np) (hd9 : d' + 1 ≤ M.2.2.2.2.1 ∧ 19 + nL' + 100 * d' ≤ 100 * M.2.2.2.2.1) (hst : (st.map catv).sum ≤ 8) (hd : decode M.2.1 pc = .ok (.invokestatic i, 3)) (hstk : stk = as.reverse ++ st) (hn : pc + 3 = n) {stk9 : List AV} (hs9 : r.toList ++ st = stk9) (k : Go K M Q hf n lv stk9 h1) : Go K M Q hf pc lv stk h := by
  obtain ⟨p, l, e, R, s, m, args, below, meth, c, D, tc, A, ad0, n0, c0, s0⟩ := K
  obtain ⟨own, cc, nL, ret, d, tb, nm⟩ := M
  subst hn
  subst hs9
  subst hstk
  have mo : Mo h h1 := (hok (p, l, e, R, s, m, args, below, meth, c, D, tc, A, ad0, gn h, gc h, gs h) rfl rfl rfl).1
  refine ⟨mo.tr k.1, fun hA wf wl ws g1 g2 g3 ad H locs ls he hR hD hS hl => ?_⟩
  obtain ⟨hx, hb, hml, hown, hts, hK, hlk, hret, hSF, hAA, ⟨r1, r2, r3, r4⟩, hlt, htab, hmn⟩ := id hA
  obtain ⟨was, wst0⟩ := wvs_app ws
  have wst := wst0
  have wal : wvs (gn h) (as) := was
  have hM := ok_metX (l := l) (D := D) (tc := tc) (ad := ad) (sz := H.size) hy.2.2.2 hok hz wf wal hlt
  have hA1 : ∀ q, va_A (hpool tc ad h) H.size q → A q := fun q hq => by
    rcases hq with ⟨k9, e9, hk9⟩ | hq
    · exact hD.2 k9 _ hk9
    · exact hAA q (Nat.le_trans hS.1 hq)
  have hrm : (rmd d' (gc h1 - gc h) (gs h1 - gs h)).frames + 1 ≤ R.frames ∧ 8 + (nL' + 11) + (rmd d' (gc h1 - gc h) (gs h1 - gs h)).locals ≤ R.locals := by
    obtain ⟨q1, q2⟩ := hd9
    have q3 : d' + 1 ≤ d := q1
    have q4 : 19 + nL' + 100 * d' ≤ 100 * d := q2
    have q5 : d ≤ R.frames := r1
    have q6 : 100 * d ≤ R.locals := r2
    show d' + 1 ≤ R.frames ∧ 8 + (nL' + 11) + 100 * d' ≤ R.locals
    omega
  have hpre : ∀ U : State, U.heap = H → s.WarmedH U.vm → PreC D tc ad h (as) H.size ((as).map (tv ad)).toArray U := fun U hU hW =>
    ⟨rfl, by rw [hU], by rw [hU]; exact hR, hD.weaken (fun _ _ _ _ => trivial), va_K.moved hW.alike hK, hSF.go hW (fun q q1 q2 => by rw [hU]; exact hS.2.1 q q1 q2) hA1 (fun x hx9 => he x (Or.inr hx9))⟩
  have mo1 : gc h ≤ gc h1 := mo.1
  have mo2 : gs h ≤ gs h1 := mo.2
  have mo3 : gc h1 ≤ gc hf := k.1.1
  have mo4 : gs h1 ≤ gs hf := k.1.2
  have hroom : gc h - c0 + (gc h1 - gc h) ≤ R.cells ∧ gs h - s0 + (gs h1 - gs h) ≤ R.slots := by
    have q1 : gc hf - c0 ≤ R.cells := r3
    have q2 : gs hf - s0 ≤ R.slots := r4
    have q3 : c0 ≤ gc h := g2
    have q4 : s0 ≤ gs h := g3
    omega
  have run := vx_runS (p := p) (l := l) (e := e) (R := R) (s := s) (m := m) (args := args) (below := below) (meth := meth) (c := c) (H := H) (locs := locs) (own := own) (As := as.map (tv ad)) (rest := st.map (tv ad)) (g := F0 m pc ls ((as.reverse ++ st).map (tv ad))) (cells := gc h - c0) (slots := gs h - s0) ⟨hx, hb, hml, hown, hts⟩ hM ⟨callB_of np hts (bw_good y cc' nL' ret' hy.1) rfl rfl rfl (hts _ hy.2.1) (hts _ w1) hy.2.2.1 hrm, hts _ w2⟩ ⟨PreC.blind, fun U hU hW => hpre U hU hW⟩ rfl (by rw [List.length_map]; exact hnp) hl.1 (by simp [tv, va_rf]) (lv_room (ls := ls) (m := m) (pc := pc) (rest := (as.reverse ++ st).map (tv ad)) (by rw [cat_map]; exact hst)) hd hroom
  have c1 : gc h1 - c0 = gc h - c0 + (gc h1 - gc h) := by have q3 : c0 ≤ gc h := g2; omega
  have c2 : gs h1 - s0 = gs h - s0 + (gs h1 - gs h) := by have q3 : s0 ≤ gs h := g3; omega
  refine call_coreR run hS hA1 fun ad' H1 locs1 he' hP' hD' wf' wr g' hS' => ?_
  have kk := k.2 hA wf' (fun q9 h9 => (wl q9 h9).up g') (fun v9 h9 => (List.mem_append.mp h9).elim (fun q => wr v9 (by simpa using q)) (fun q => (wst v9 q).up g')) (Nat.le_trans g1 g') (Nat.le_trans g2 mo1) (Nat.le_trans g3 mo2) ad' H1 locs1 ls (fun x hx9 => (he' x (hx9.up g1)).trans (he x hx9)) hP' hD' hS' (by rw [tl_ext he' wl]; exact hl)
  rw [c1, c2] at kk
  rw [List.map_append, ← toL] at kk
  rw [tvs_ext he' wst] at kk
  exact kk
theorem go_callXSt {E : String} (hok : OkX (y.cls, cc', nL', ret', d', some [], y.name) (as) (.inl E) h h1) (hy : YW y cc' nL' ret' np) (w1 : Cond.methodLink M.1 i y ∈ BW) (w2 : Cond.static y ∈ BW) (hz : asz (as) ≤ nL') (hnp : as.length = np) (hd9 : d' + 1 ≤ M.2.2.2.2.1 ∧ 19 + nL' + 100 * d' ≤ 100 * M.2.2.2.2.1) (hst : (st.map catv).sum ≤ 8) (hd : decode M.2.1 pc = .ok (.invokestatic i, 3)) (hstk : stk = as.reverse ++ st) (htb : M.2.2.2.2.2.1 = some []) : Go K M (QMX K (.inl E) h1) h1 pc lv stk h := by
  obtain ⟨p, l, e, R, s, m, args, below, meth, c, D, tc, A, ad0, n0, c0, s0⟩ := K
  obtain ⟨own, cc, nL, ret, d, tb, nm⟩ := M
  subst hstk
  have mo : Mo h h1 := (hok (p, l, e, R, s, m, args, below, meth, c, D, tc, A, ad0, gn h, gc h, gs h) rfl rfl rfl).1
  refine ⟨mo, fun hA wf wl ws g1 g2 g3 ad H locs ls he hR hD hS hl => ?_⟩
  obtain ⟨hx, hb, hml, hown, hts, hK, hlk, hret, hSF, hAA, ⟨r1, r2, r3, r4⟩, hlt, htab, hmn⟩ := id hA
  obtain ⟨was, wst0⟩ := wvs_app ws
  have wst := wst0
  have wal : wvs (gn h) (as) := was
  have hM := ok_metX (l := l) (D := D) (tc := tc) (ad := ad) (sz := H.size) hy.2.2.2 hok hz wf wal hlt
  have hA1 : ∀ q, va_A (hpool tc ad h) H.size q → A q := fun q hq => by
    rcases hq with ⟨k9, e9, hk9⟩ | hq
    · exact hD.2 k9 _ hk9
    · exact hAA q (Nat.le_trans hS.1 hq)
  have hrm : (rmd d' (gc h1 - gc h) (gs h1 - gs h)).frames + 1 ≤ R.frames ∧ 8 + (nL' + 11) + (rmd d' (gc h1 - gc h) (gs h1 - gs h)).locals ≤ R.locals := by
    obtain ⟨q1, q2⟩ := hd9
    have q3 : d' + 1 ≤ d := q1
    have q4 : 19 + nL' + 100 * d' ≤ 100 * d := q2
    have q5 : d ≤ R.frames := r1
    have q6 : 100 * d ≤ R.locals := r2
    show d' + 1 ≤ R.frames ∧ 8 + (nL' + 11) + 100 * d' ≤ R.locals
    omega
  have hpre : ∀ U : State, U.heap = H → s.WarmedH U.vm → PreC D tc ad h (as) H.size ((as).map (tv ad)).toArray U := fun U hU hW =>
    ⟨rfl, by rw [hU], by rw [hU]; exact hR, hD.weaken (fun _ _ _ _ => trivial), va_K.moved hW.alike hK, hSF.go hW (fun q q1 q2 => by rw [hU]; exact hS.2.1 q q1 q2) hA1 (fun x hx9 => he x (Or.inr hx9))⟩
  have mo1 : gc h ≤ gc h1 := mo.1
  have mo2 : gs h ≤ gs h1 := mo.2
  have mo3 : gc h1 ≤ gc h1 := Nat.le_refl _
  have mo4 : gs h1 ≤ gs h1 := Nat.le_refl _
  have hroom : gc h - c0 + (gc h1 - gc h) ≤ R.cells ∧ gs h - s0 + (gs h1 - gs h) ≤ R.slots := by
    have q1 : gc h1 - c0 ≤ R.cells := r3
    have q2 : gs h1 - s0 ≤ R.slots := r4
    have q3 : c0 ≤ gc h := g2
    have q4 : s0 ≤ gs h := g3
    omega
  have run := vx_runS (p := p) (l := l) (e := e) (R := R) (s := s) (m := m) (args := args) (below := below) (meth := meth) (c := c) (H := H) (locs := locs) (own := own) (As := as.map (tv ad)) (rest := st.map (tv ad)) (g := F0 m pc ls ((as.reverse ++ st).map (tv ad))) (cells := gc h - c0) (slots := gs h - s0) ⟨hx, hb, hml, hown, hts⟩ hM ⟨callB_of np hts (bw_good y cc' nL' ret' hy.1) rfl rfl rfl (hts _ hy.2.1) (hts _ w1) hy.2.2.1 hrm, hts _ w2⟩ ⟨PreC.blind, fun U hU hW => hpre U hU hW⟩ rfl (by rw [List.length_map]; exact hnp) hl.1 (by simp [tv, va_rf]) (lv_room (ls := ls) (m := m) (pc := pc) (rest := (as.reverse ++ st).map (tv ad)) (by rw [cat_map]; exact hst)) hd hroom
  have c1 : gc h1 - c0 = gc h - c0 + (gc h1 - gc h) := by have q3 : c0 ≤ gc h := g2; omega
  have c2 : gs h1 - s0 = gs h - s0 + (gs h1 - gs h) := by have q3 : s0 ≤ gs h := g3; omega
  refine call_coreT run hS hA1 fun ad' H1 locs1 q ce he' hP' hD' wf' g' hS' hce hcv hcl => ?_
  refine vx_out (c := c) (fun x hx9 => ?_) hlk hce hcv hcl (fun t ht hal => ⟨rfl, ⟨ad', fun x hx9 => (he' x (hx9.up g1)).trans (he x hx9), by rw [ht]; exact hP', hD', wf', Nat.le_trans g1 g'⟩, hS'.F ht⟩) hS'.2.2 (by show gc h - c0 + (gc h1 - gc h) ≤ gc h1 - c0; omega) (by show gs h - s0 + (gs h1 - gs h) ≤ gs h1 - s0; omega)
  have e9 := htab [] htb
  rw [e9] at hx9; cases hx9
end GOCX
