/-! new things, final fields, copies, calls, ends -/
theorem SF.go {A A1 : Nat → Prop} {ad0 ad : Nat → Nat} {s U : State} (h : SF A ad0 s s.heap) (hW : s.WarmedH U.vm) (hq : ∀ a : Nat, a < s.heap.size → ¬ A a → U.heap[a]? = s.heap[a]?) (hA : ∀ q, A1 q → A q) (he : ∀ r, 1000000 ≤ r → ad r = ad0 r) : SF A1 ad U U.heap := by
  obtain ⟨h1, h2, h3, h4, h5, h6, h7, h8, h9, h10⟩ := h
  have hal := hW.alike
  refine ⟨((h1.moved hal).kept hq).narrow hA, ((h2.moved hal).kept hq).narrow hA, fun j hj => ?_, fun j q hj => ?_, fun w hw => ?_, fun q hq9 => (h6 q hq9).moved hal, ((h7.moved hal).kept hq).narrow hA, h8.moved hal, fun w hw => ?_, ?_⟩
  · obtain ⟨a1, a2, a3, a4⟩ := h3 j hj
    rw [he (1000000 + j) (by omega), he (2000000 + j) (by omega)]
    exact ⟨((a1.moved hal).kept hq).narrow hA, ((a2.moved hal).kept hq).narrow hA, ((a3.moved hal).kept hq).narrow hA, ((a4.moved hal).kept hq).narrow hA⟩
  · rw [he _ (by omega)]
    exact (h4 j q hj).warm hW
  · have hz := h5 w hw
    simp only [NWl, List.mem_cons, List.not_mem_nil, or_false] at hw
    rcases hw with rfl | rfl | rfl | rfl | rfl | rfl | rfl | rfl | rfl <;> exact va_Nw.warmM hW hz
  · have hz := h9 w hw
    simp only [XWl, List.mem_cons, List.not_mem_nil, or_false] at hw
    rcases hw with rfl | rfl | rfl | rfl | rfl | rfl | rfl | rfl <;> first | exact va_Nw.warmD hW hz | exact va_Nw.warmC hW hz
  · rw [he 3000000 (by omega)]
    rcases h10 with q | q
    · exact Or.inl (((q.moved hal).kept hq).narrow hA)
    · exact Or.inr (((q.moved hal).kept hq).narrow hA)
theorem SF.calling {A : Nat → Prop} {ad0 : Nat → Nat} {U : State} (h : SF A ad0 U U.heap) (g : JFrame) (mk : MethodId) (a : Array Value) : SF A ad0 (U.calling g mk a) (U.calling g mk a).heap := by
  obtain ⟨h1, h2, h3, h4, h5, h6, h7, h8, h9, h10⟩ := h
  have hal : U.vm.Alike (U.calling g mk a).vm := Vm.Alike.refl U.vm
  exact ⟨h1.moved hal, h2.moved hal, fun j hj => ⟨(h3 j hj).1.moved hal, (h3 j hj).2.1.moved hal, (h3 j hj).2.2.1.moved hal, (h3 j hj).2.2.2.moved hal⟩, fun j q hj => vk_R.same (u := U) (U := U.calling g mk a) rfl (h4 j q hj), fun w hw => va_Nw.same (u := U) (U := U.calling g mk a) (by
    simp only [NWl, List.mem_cons, List.not_mem_nil, or_false] at hw
    rcases hw with rfl | rfl | rfl | rfl | rfl | rfl | rfl | rfl | rfl <;> rfl) rfl (h5 w hw), fun q hq9 => (h6 q hq9).moved hal, h7.moved hal, h8.moved hal, fun w hw => va_Nw.same (u := U) (U := U.calling g mk a) (by
    simp only [XWl, List.mem_cons, List.not_mem_nil, or_false] at hw
    rcases hw with rfl | rfl | rfl | rfl | rfl | rfl | rfl | rfl <;> rfl) rfl (h9 w hw), h10.elim (fun q => Or.inl (q.moved hal)) (fun q => Or.inr (q.moved hal))⟩
def rmd (d mc ms : Nat) : Room := { frames := d, cells := mc, slots := ms, locals := 100 * d }
def PreC (D : va_G) (tc : Nat → ClassId) (ad : Nat → Nat) (h : HP) (as : List AV) (sz : Nat) : Array Value → State → Prop := va_Pc (as.map (tv ad)) (fun U => U.heap.size = sz ∧ va_P D vwCl (hpool tc ad h) U.heap ∧ va_D (fun _ => True) (hpool tc ad h) ∧ va_K D vwCl (tyl tc) U ∧ SF (va_A (hpool tc ad h) sz) ad U U.heap)
theorem PreC.blind {D : va_G} {tc : Nat → ClassId} {ad : Nat → Nat} {h : HP} {as : List AV} {sz : Nat} : FrameBlind (PreC D tc ad h as sz) := by
  intro a U g mk hq
  obtain ⟨e, h1, h2, h3, h4, h5⟩ := hq
  exact ⟨e, h1, h2, h3, va_K.moved (u := U) (U := U.calling g mk a) (Vm.Alike.refl U.vm) h4, h5.calling g mk a⟩
def QR (D : va_G) (tc : Nat → ClassId) (A : Nat → Prop) (ad0 : Nat → Nat) (n0 : Nat) (r : Option AV) (hf : HP) : Array Value → State → Outcome → State → Prop := fun _ st oc t =>
  (∃ ad' : Nat → Nat, (∀ x, okr n0 x → ad' x = ad0 x) ∧ oc = .returned (r.map (tv ad')) ∧ va_P D vwCl (hpool tc ad' hf) t.heap ∧ va_D A (hpool tc ad' hf) ∧ WFh hf ∧ (∀ v, r = some v → wv (gn hf) v) ∧ n0 ≤ gn hf) ∧ va_F A st t
def XR (D : va_G) (tc : Nat → ClassId) (A : Nat → Prop) (ad0 : Nat → Nat) (n0 : Nat) (E : String) (hf : HP) : String → State → State → Prop := fun E' st t => E' = E ∧
  (∃ ad' : Nat → Nat, (∀ x, okr n0 x → ad' x = ad0 x) ∧ va_P D vwCl (hpool tc ad' hf) t.heap ∧ va_D A (hpool tc ad' hf) ∧ WFh hf ∧ n0 ≤ gn hf) ∧ va_F A st t
/-- what a method owes: it returns r, the heap is hf -/
def QM (K : Ctx) (r : Option AV) (hf : HP) : State → Prop := MQ (kBelow K) (QR (kD K) (kTc K) (kA K) (kAd K) (kN K) r hf) (kArgs K) (kS K) (gc hf - kC K) (gs hf - kSl K) (kA K)
/-- .. that may throw -/
def QcX (D : va_G) (tc : Nat → ClassId) (A : Nat → Prop) (ad0 : Nat → Nat) (n0 : Nat) (r : String ⊕ Option AV) (hf : HP) : Array Value → State → Outcome → State → Prop := match r with
  | .inl _ => fun _ _ _ _ => False
  | .inr v => QR D tc A ad0 n0 v hf
def XcX (D : va_G) (tc : Nat → ClassId) (A : Nat → Prop) (ad0 : Nat → Nat) (n0 : Nat) (r : String ⊕ Option AV) (hf : HP) : String → State → State → Prop := match r with
  | .inl E => XR D tc A ad0 n0 E hf
  | .inr _ => fun _ _ _ => False
def QMX (K : Ctx) (r : String ⊕ Option AV) (hf : HP) : State → Prop := vx_MQ (kBelow K) (QcX (kD K) (kTc K) (kA K) (kAd K) (kN K) r hf) (XcX (kD K) (kTc K) (kA K) (kAd K) (kN K) r hf) (kArgs K) (kS K) (gc hf - kC K) (gs hf - kSl K) (kA K)
def alv : Nat → List AV → List (Nat × AV)
  | _, [] => []
  | i, v :: vs => (i, v) :: alv (if catv v = 2 then i + 2 else i + 1) vs
theorem tl_alv (ad : Nat → Nat) : ∀ (vs : List AV) (i : Nat), tl ad (alv i vs) = lv_args i (vs.map (tv ad))
  | [], _ => rfl
  | v :: vs, i => by
    show (i, tv ad v) :: tl ad (alv _ vs) = (i, tv ad v) :: lv_args (if (tv ad v).category = 2 then i + 2 else i + 1) (vs.map (tv ad))
    rw [tl_alv ad vs, cat_tv]
theorem wvl_alv {n : Nat} : ∀ (vs : List AV) (i : Nat), wvs n vs → wvl n (alv i vs)
  | [], _, _ => fun q hq => by cases hq
  | v :: vs, i, h => by
    obtain ⟨h1, h2⟩ := wvs_c h
    intro q hq
    rcases List.mem_cons.mp hq with e | e
    · rw [e]; exact h1
    · exact wvl_alv vs _ h2 q e
def asz (vs : List AV) : Nat := (vs.map catv).sum
theorem lg_asz (ad : Nat → Nat) : ∀ vs : List AV, (lg_sl (vs.map (tv ad))).length = asz vs
  | [] => rfl
  | v :: vs => by
    have ih := lg_asz ad vs
    unfold asz at ih ⊢
    unfold lg_sl at ih ⊢
    rw [List.map_cons, List.flatMap_cons, List.length_append, ih, List.map_cons, List.sum_cons, cat_tv]
    congr 1
    match v with
    | .inl z => rfl
    | .inr (.inl z) => rfl
    | .inr (.inr none) => rfl
    | .inr (.inr (some a)) => rfl
def Ok (M : MI) (as : List AV) (r : Option AV) (h hf : HP) : Prop := ∀ K : Ctx, kN K = gn h → kC K = gc h → kSl K = gs h → Go K M (QM K r hf) hf 0 (alv 0 as) [] h
def OkX (M : MI) (as : List AV) (r : String ⊕ Option AV) (h hf : HP) : Prop := ∀ K : Ctx, kN K = gn h → kC K = gc h → kSl K = gs h → Go K M (QMX K r hf) hf 0 (alv 0 as) [] h
/-- contracts by the body, of a class with rows among the natives too (java.lang.Math) -/
theorem of_wF {l : Launch} {y : MethodName} {ws ws' : List Cond} {rm : Room} {Pc : Array Value → State → Prop} {Qc : Array Value → State → Outcome → State → Prop} {mc ms : Nat} {free : Addr → Prop} {cc : ByteArray} {maxL : Nat} {ret : Option FieldType}
    (hy : plainFor y = true) (hw : ws = Cond.code y cc maxL ret :: ws')
    (body : ∀ p e s m args below meth c s₁, BodyLoose p l y (headSpec ws rm) cc maxL ret e s m args below meth c s₁ → c.maxLocals = maxL → Pc args s →
      W p l e (headSpec ws rm).room s m args below meth c s.heap [] 0 0 (MQ below Qc args s mc ms free) (entryFrame m args maxL)) : Met l y ws rm Pc Qc mc ms free := by
  refine MetFree.of_bodySF (code := cc) (maxLocals := maxL) (ret := ret) hy ?_ ?_
  · intro args s m h hn
    obtain ⟨meth, c, h1, h2, h3, h4, h5, h6, -, -⟩ := Cond.code_spec hn (atoms_spec (ws := ws) h _ (by rw [hw]; exact List.mem_cons_self))
    exact ⟨meth, c, h1, h2, h3, h4, h5, h6⟩
  · intro p e s m args below meth c s₁ B hml hP _
    obtain ⟨t, a1, o, b1, b2, b3⟩ := body p e s m args below meth c s₁ B hml hP s₁ (by rw [B.state]; rfl) (Stand.of_body B)
    exact ⟨t, o, a1, b1, b2, ⟨b3.1, b3.2⟩⟩
theorem of_wFX {l : Launch} {y : MethodName} {ws ws' : List Cond} {rm : Room} {Pc : Array Value → State → Prop} {Qc : Array Value → State → Outcome → State → Prop} {XC : String → State → State → Prop} {mc ms : Nat} {free : Addr → Prop} {cc : ByteArray} {maxL : Nat} {ret : Option FieldType}
    (hy : plainFor y = true) (hw : ws = Cond.code y cc maxL ret :: ws')
    (body : ∀ p e s m args below meth c s₁, BodyLoose p l y (headSpec ws rm) cc maxL ret e s m args below meth c s₁ → c.maxLocals = maxL → (∀ x ∈ c.exceptionTable.toList, False) → Pc args s →
      W p l e (headSpec ws rm).room s m args below meth c s.heap [] 0 0 (vx_MQ below Qc XC args s mc ms free) (entryFrame m args maxL)) : vx_Met l y ws rm Pc Qc XC mc ms free := by
  refine MetFree.of_bodySF (code := cc) (maxLocals := maxL) (ret := ret) hy ?_ ?_
  · intro args s m h hn
    obtain ⟨meth, c, h1, h2, h3, h4, h5, h6, -, -⟩ := Cond.code_spec hn (atoms_spec (ws := ws) h _ (by rw [hw]; exact List.mem_cons_self))
    exact ⟨meth, c, h1, h2, h3, h4, h5, h6⟩
  · intro p e s m args below meth c s₁ B hml hP _
    have ht : ∀ x ∈ c.exceptionTable.toList, False := by
      obtain ⟨meth9, c9, h1, h2, -, -, -, -, h7, -⟩ := Cond.code_spec B.named (atoms_spec (ws := ws) B.pre _ (by rw [hw]; exact List.mem_cons_self))
      cases Option.some.inj (h1.symm.trans B.method)
      cases Option.some.inj (h2.symm.trans (Stand.of_body B).code)
      intro x hx
      rw [Array.isEmpty_iff.mp h7] at hx
      cases hx
    obtain ⟨t, a1, o, b1, b2, b3⟩ := body p e s m args below meth c s₁ B hml ht hP s₁ (by rw [B.state]; rfl) (Stand.of_body B)
    exact ⟨t, o, a1, b1, b2, b3⟩
section MET
variable {l : Launch} {D : va_G} {tc : Nat → ClassId} {ad : Nat → Nat} {h hf : HP} {as : List AV} {sz nL d : Nat} {cc : ByteArray} {ret : Option FieldType} {y : MethodName}
theorem ok_body {tb : Option (List ExceptionTableEntry)} {Q : Ctx → State → Prop} (hgo : ∀ K : Ctx, kN K = gn h → kC K = gc h → kSl K = gs h → Go K (y.cls, cc, nL, ret, d, tb, y.name) (Q K) hf 0 (alv 0 as) [] h) (hz : asz as ≤ nL) (w : WFh h) (ws : wvs (gn h) as) (hl : l.stackTraces = false) {wd : Cond} (p : Program) (e : Env) (s : State) (m : MethodId) (args : Array Value) (below : List Frame) (meth : Method) (c : Code) (s₁ : State) (B : BodyLoose p l y (headSpec (wd :: BW) (rmd d (gc hf - gc h) (gs hf - gs h))) cc nL ret e s m args below meth c s₁) (hml : c.maxLocals = nL) (htb : ∀ T, tb = some T → c.exceptionTable.toList = T) (hv : PreC D tc ad h as sz args s) :
    W p l e (headSpec (wd :: BW) (rmd d (gc hf - gc h) (gs hf - gs h))).room s m args below meth c s.heap [] 0 0 (Q (p, l, e, (rmd d (gc hf - gc h) (gs hf - gs h)), s, m, args, below, meth, c, D, tc, va_A (hpool tc ad h) sz, ad, gn h, gc h, gs h)) (entryFrame m args nL) := by
  obtain ⟨rfl, hsz, hP, hD0, hK, hSF⟩ := hv
  subst hsz
  have hts := atoms_spec (ws := wd :: BW) B.pre
  have hgo1 := hgo (p, l, e, (rmd d (gc hf - gc h) (gs hf - gs h)), s, m, (as.map (tv ad)).toArray, below, meth, c, D, tc, va_A (hpool tc ad h) s.heap.size, ad, gn h, gc h, gs h) rfl rfl rfl
  have hAm : Am p l (rmd d (gc hf - gc h) (gs hf - gs h)) s m (as.map (tv ad)).toArray meth c D tc (va_A (hpool tc ad h) s.heap.size) ad (gn h) (gc h) (gs h) y.cls cc nL ret d tb y.name hf :=
    ⟨B.exec, B.bytes, hml, findClass_of_methodNamed B.named, fun w9 h9 => hts w9 (List.mem_cons_of_mem _ h9), hK, B.notSynchronized, B.returns, hSF, fun q h9 => Or.inr h9, ⟨Nat.le_refl _, Nat.le_refl _, Nat.le_refl _, Nat.le_refl _⟩, hl, htb, (name_of_methodNamed B.named B.method).1⟩
  have hle := lv_entry (as.map (tv ad)) (n := nL) (by rw [lg_asz]; exact hz)
  rw [← tl_alv] at hle
  have k := hgo1.2 hAm w (wvl_alv as 0 ws) (fun v hv9 => by cases hv9) (Nat.le_refl _) (Nat.le_refl _) (Nat.le_refl _) ad s.heap [] _ (fun _ _ => rfl) hP (hD0.self (sz := s.heap.size)) va_S.rf hle
  rw [lg_entry_eq]
  simp only [Nat.sub_self] at k
  exact k
theorem ok_met {r : Option AV} (hy : plainFor y = true) (hok : Ok (y.cls, cc, nL, ret, d, none, y.name) as r h hf) (hz : asz as ≤ nL) (w : WFh h) (ws : wvs (gn h) as) (hl : l.stackTraces = false) : Met l y (Cond.code y cc nL ret :: BW) (rmd d (gc hf - gc h) (gs hf - gs h)) (PreC D tc ad h as sz) (QR D tc (va_A (hpool tc ad h) sz) ad (gn h) r hf) (gc hf - gc h) (gs hf - gs h) (va_A (hpool tc ad h) sz) := by
  refine of_wF (cc := cc) (maxL := nL) (ret := ret) hy rfl ?_
  intro p e s m args below meth c s₁ B hml hv
  exact ok_body (tb := none) (Q := fun K => QM K r hf) hok hz w ws hl p e s m args below meth c s₁ B hml (fun T q => by cases q) hv
theorem ok_metW {r : Option AV} {hh : List (Nat × Nat × Nat × Nat)} (hy : plainName y.cls = true) (hok : Ok (y.cls, cc, nL, ret, d, some (tableOf hh), y.name) as r h hf) (hz : asz as ≤ nL) (w : WFh h) (ws : wvs (gn h) as) (hl : l.stackTraces = false) : Met l y (Cond.codeWith y cc nL ret hh :: BW) (rmd d (gc hf - gc h) (gs hf - gs h)) (PreC D tc ad h as sz) (QR D tc (va_A (hpool tc ad h) sz) ad (gn h) r hf) (gc hf - gc h) (gs hf - gs h) (va_A (hpool tc ad h) sz) := by
  refine va_MetW (cc := cc) (maxL := nL) (ret := ret) (hh := hh) hy rfl ?_
  intro p e s m args below meth c s₁ B hml hv
  exact ok_body (tb := some (tableOf hh)) (Q := fun K => QM K r hf) hok hz w ws hl p e s m args below meth c s₁ B hml (fun T9 q => by cases q; exact vx_table (x := y) B (atoms_spec (ws := Cond.codeWith y cc nL ret hh :: BW) B.pre _ List.mem_cons_self)) hv
theorem ok_metX {r : String ⊕ Option AV} (hy : plainFor y = true) (hok : OkX (y.cls, cc, nL, ret, d, some [], y.name) as r h hf) (hz : asz as ≤ nL) (w : WFh h) (ws : wvs (gn h) as) (hl : l.stackTraces = false) : vx_Met l y (Cond.code y cc nL ret :: BW) (rmd d (gc hf - gc h) (gs hf - gs h)) (PreC D tc ad h as sz) (QcX D tc (va_A (hpool tc ad h) sz) ad (gn h) r hf) (XcX D tc (va_A (hpool tc ad h) sz) ad (gn h) r hf) (gc hf - gc h) (gs hf - gs h) (va_A (hpool tc ad h) sz) := by
  refine of_wFX (cc := cc) (maxL := nL) (ret := ret) hy rfl ?_
  intro p e s m args below meth c s₁ B hml hnt hv
  exact ok_body (tb := some []) (Q := fun K => QMX K r hf) hok hz w ws hl p e s m args below meth c s₁ B hml (fun T q => by cases q; exact List.eq_nil_iff_forall_not_mem.mpr hnt) hv
end MET
