/-! final fields; throws; calls of what throws; catches -/
def FLF (own : String) (i ci N k : Nat) : Prop := ∃ T : u_T, CI ci own T N ∧ k < N ∧ Cond.fieldLink own i own (T k).2.1 (T k).2.2.1 ∈ BW ∧ (T k).1 = own ∧ (T k).2.2.2 = true
section GOF
variable {K : Ctx} {M : MI} {Q : State → Prop} {hf : HP} {pc n : Nat} {lv : List (Nat × AV)} {st : List AV} {h : HP}
theorem go_putFV {a i ci N k : Nat} {v : AV} {h' : HP} (hs9 : gS h a = (ci, N)) (hn9 : ∀ ad, narrow (ftp ci k) (tv ad v) = tv ad v) (hf9 : ∀ ad, fits (ftp ci k) (tv ad v) = true) (hv9 : ∀ ad, tfld h' ad ci a k = tv ad v) (ho9 : ∀ ad j, j ≠ k → tfld h' ad ci a j = tfld h ad ci a j) (hx9 : ∀ tc ad x, x ≠ a → tcell tc ad h' x = tcell tc ad h x) (hcn : gn h' = gn h ∧ gc h' = gc h ∧ gs h' = gs h) (hS9 : gS h' = gS h) (hw9 : WFh h → wv (gn h) v → WFh h')
    (hF : FLF M.1 i ci N k) (hnm9 : M.2.2.2.2.2.2 = "<init>") (hd : decode M.2.1 pc = .ok (.putfield i, 3)) (hn : pc + 3 = n) (k9 : Go K M Q hf n lv st h') : Go K M Q hf pc lv (v :: vr (some a) :: st) h := by
  obtain ⟨p, l, e, R, s, m, args, below, meth, c, D, tc, A, ad0, n0, c0, s0⟩ := K
  obtain ⟨own, cc, nL, ret, d, tb, nm⟩ := M
  subst hn
  obtain ⟨T, ⟨hC, hin, hty, hnm, hlt⟩, hk, hlink, hT, hfin⟩ := hF
  obtain ⟨c1, c2, c3⟩ := hcn
  have hmo : Mo h hf := by have := k9.1; unfold Mo at *; rw [c2, c3] at this; exact this
  refine ⟨hmo, fun hA wf wl ws g1 g2 g3 ad H locs ls he hR hD hS hl => ?_⟩
  obtain ⟨hx, hb, hml, hown, hts, hK, hlk, hret, hSF, hAA, hrm, hlt9, -, hmn⟩ := id hA
  obtain ⟨wv1, ws1⟩ := wvs_c ws
  have wf' := hw9 wf wv1
  obtain ⟨b1, b2⟩ := wf.le hs9 (by omega)
  have hp := hpool_get (tc := tc) (ad := ad) b1 b2
  rw [tcell_obj hs9 hlt] at hp
  refine va_putF (C := own) (T := T) (N := N) (v := tv ad v) (ty := ftp ci k) (own := own) hx hb hts hin (ftp ci) hty hnm hown hK hR hD hS (a - 1) hp hC k hk (hts _ hlink) (fun x9 h9 => by rw [hT] at h9; exact h9) hfin (hmn.trans hnm9) hT (hty k hk) (hn9 ad) (hf9 ad) (by simpa using hk) hd fun H1 locs1 q1 q2 q3 => ?_
  have e1 : (hpool tc ad h).set (a - 1) (ad a, .inr (ci, ((List.range N).map (tfld h ad ci a)).set k (tv ad v))) = hpool tc ad h' := by
    refine hpool_set b1 c1 ?_ (hx9 tc ad)
    rw [tcell_obj (by rw [hS9]; exact hs9) hlt, fs_set (hv9 ad) (ho9 ad)]
  rw [e1] at q1 q2
  have kk := k9.2 hA wf' (by rw [c1]; exact wl) (by rw [c1]; exact (wvs_c ws1).2) (by rw [c1]; exact g1) (by rw [c2]; exact g2) (by rw [c3]; exact g3) ad H1 locs1 ls he q1 q2 q3 hl
  rw [c2, c3] at kk
  exact kk
theorem go_putFI {r : Option Nat} {z : Int} {h' : HP} {i ci N k : Nat} (hx9 : xpI h r ci N k z = some h') (hF : FLF M.1 i ci N k) (hf9 : ftp ci k = .int) (hnm9 : M.2.2.2.2.2.2 = "<init>") (hd : decode M.2.1 pc = .ok (.putfield i, 3)) (hn : pc + 3 = n) (k9 : Go K M Q hf n lv st h') : Go K M Q hf pc lv (vi z :: vr r :: st) h := by
  cases r with
  | none => cases hx9
  | some a =>
    unfold xpI at hx9; simp only at hx9
    split at hx9
    · next hs9 =>
      cases hx9
      refine go_putFV hs9 (fun ad => by rw [hf9]; rfl) (fun ad => by rw [hf9]; rfl) (fun ad => ?_) (fun ad j hj => ?_) (fun tc ad => tcell_oI tc ad h a k z) ⟨rfl, rfl, rfl⟩ rfl (fun w q => wf_sI w q) hF hnm9 hd hn k9
      · rw [tfld_I (by rw [hf9]; rfl)]; show tv ad (vi (upd2 h.1 a k z a k)) = _; rw [upd2_eq]
      · unfold tfld; rw [show gI (sI h a k z) a j = gI h a j from upd2_nk hj]; rfl
    · cases hx9
theorem go_putFJ {r : Option Nat} {z : Int} {h' : HP} {i ci N k : Nat} (hx9 : xpJ h r ci N k z = some h') (hF : FLF M.1 i ci N k) (hf9 : ftp ci k = .long) (hnm9 : M.2.2.2.2.2.2 = "<init>") (hd : decode M.2.1 pc = .ok (.putfield i, 3)) (hn : pc + 3 = n) (k9 : Go K M Q hf n lv st h') : Go K M Q hf pc lv (vl z :: vr r :: st) h := by
  cases r with
  | none => cases hx9
  | some a =>
    unfold xpJ at hx9; simp only at hx9
    split at hx9
    · next hs9 =>
      cases hx9
      refine go_putFV hs9 (fun ad => by rw [hf9]; rfl) (fun ad => by rw [hf9]; rfl) (fun ad => ?_) (fun ad j hj => ?_) (fun tc ad => tcell_oJ tc ad h a k z) ⟨rfl, rfl, rfl⟩ rfl (fun w q => wf_sJ w q) hF hnm9 hd hn k9
      · rw [tfld_J hf9]; show tv ad (vl (upd2 h.2.1 a k z a k)) = _; rw [upd2_eq]
      · unfold tfld; rw [show gJ (sJ h a k z) a j = gJ h a j from upd2_nk hj]; rfl
    · cases hx9
theorem go_putFP {r z : Option Nat} {h' : HP} {i ci N k : Nat} (hx9 : xpP h r ci N k z = some h') (hF : FLF M.1 i ci N k) (hf9 : ftpP (ftp ci k) = true) (hnm9 : M.2.2.2.2.2.2 = "<init>") (hd : decode M.2.1 pc = .ok (.putfield i, 3)) (hn : pc + 3 = n) (k9 : Go K M Q hf n lv st h') : Go K M Q hf pc lv (vr z :: vr r :: st) h := by
  cases r with
  | none => cases hx9
  | some a =>
    unfold xpP at hx9; simp only at hx9
    split at hx9
    · next hs9 =>
      cases hx9
      refine go_putFV hs9 (fun ad => ?_) (fun ad => ?_) (fun ad => ?_) (fun ad j hj => ?_) (fun tc ad => tcell_oP tc ad h a k z) ⟨rfl, rfl, rfl⟩ rfl (fun w q => wf_sP w q) hF hnm9 hd hn k9
      · cases e : ftp ci k <;> rw [e] at hf9 <;> first | rfl | cases hf9
      · cases e : ftp ci k <;> rw [e] at hf9 <;> first | (cases z <;> rfl) | cases hf9
      · rw [tfld_P hf9]; show tv ad (vr (upd2 h.2.2.1 a k z a k)) = _; rw [upd2_eq]
      · unfold tfld; rw [show gP (sP h a k z) a j = gP h a j from upd2_nk hj]; rfl
    · cases hx9
def XN : List String := ["java/lang/RuntimeException", "java/lang/Exception"]
def XT (own : String) (ik ic : Nat) (cls : String) : Prop := Bundle.fit cls = true ∧ Cond.classLink own ik cls ∈ BW ∧ Cond.initialized cls ∈ BW ∧ (∀ w ∈ vx_atS own ic cls XN, w ∈ BW ∨ w ∈ XWl) ∧ (∀ w ∈ Cond.classLink own ik cls :: Cond.initialized cls :: vx_atS own ic cls XN, vx_ot w = true)
theorem xn_fit : ∀ n ∈ XN, Bundle.fit n = true := by decide +kernel
theorem go_throw {cls : String} {ik ic j : Nat} {q : String × Nat × String} (hT : XT M.1 ik ic cls) (hj : STR[j]? = some q) (ho : q.1 = M.1) (htb : M.2.2.2.2.2.1 = some []) (hd9 : 10 ≤ M.2.2.2.2.1)
    (d0 : decode M.2.1 pc = .ok (.new ik, 3)) (d3 : decode M.2.1 (pc + 3) = .ok (.dup, 1)) (d4 : decode M.2.1 (pc + 4) = .ok (.ldc q.2.1, 2)) (d6 : decode M.2.1 (pc + 6) = .ok (.invokespecial ic, 3)) (d9 : decode M.2.1 (pc + 9) = .ok (.athrow, 1)) (hst : (st.map catv).sum ≤ 20) :
    Go K M (QMX K (.inl cls) (exc h)) (exc h) pc lv st h := by
  obtain ⟨p, l, e, R, s, m, args, below, meth, c, D, tc, A, ad0, n0, c0, s0⟩ := K
  obtain ⟨own, cc, nL, ret, d, tb, nm⟩ := M
  obtain ⟨t1, t2, t3, t4, t5⟩ := hT
  refine ⟨(Mo.rf (exc h)).exc, fun hA wf wl ws g1 g2 g3 ad H locs ls he hR hD hS hl => ?_⟩
  obtain ⟨hx, hb, hml, hown, hts, hK, hlk, hret, hSF, hAA, ⟨r1, r2, r3, r4⟩, hlt9, htab, hmn⟩ := id hA
  have q1 : 10 ≤ d := hd9
  have q2 : d ≤ R.frames := r1
  have q3 : 100 * d ≤ R.locals := r2
  have q4 : gc h + 1 - c0 ≤ R.cells := r3
  have q5 : gs h + 6 - s0 ≤ R.slots := r4
  have q6 : c0 ≤ gc h := g2
  have q7 : s0 ≤ gs h := g3
  have hz := hSF.2.2.2.1 j q hj
  have ho9 : q.1 = own := ho
  rw [ho9] at hz
  refine vx_throwS (c := c) (text := q.2.2) (names := XN) hx hb hlt9 hown t1 xn_fit (hts _ t2) (hts _ t3) hz (fun w hw => ?_) t5 hSF.1 hSF.2.1 hS (hl.1.trans hml.symm) d0 d3 d4 d6 d9 (fun x hx9 => ?_) (by show 2 + 3 < R.frames; omega) (by rw [cat_map]; show _ + (13 * (2 + 1) + 43) ≤ R.locals; omega) (by show gc h - c0 + 1 ≤ R.cells; omega) (by show gs h - s0 + 6 ≤ R.slots; omega) hlk (fun t hal hz1 hz2 => ?_) hS.2.2 (by show gc h - c0 + 1 ≤ gc h + 1 - c0; omega) (by show gs h - s0 + 6 ≤ gs h + 6 - s0; omega)
  · rcases t4 w hw with q9 | q9
    · exact hts w q9
    · exact va_Nw.use (by
        simp only [XWl, List.mem_cons, List.not_mem_nil, or_false] at q9
        rcases q9 with rfl | rfl | rfl | rfl | rfl | rfl | rfl | rfl <;> rfl) (hSF.2.2.2.2.2.2.2.2.1 w q9)
  · have e9 := htab [] htb
    rw [e9] at hx9; cases hx9
  · refine ⟨rfl, ⟨ad, he, ?_, hD, wf, g1⟩, ⟨Nat.le_trans hS.1 hz1, fun q9 h1 h2 => ?_⟩⟩
    · exact hR.kept (fun k9 x9 h9 => hz2 x9.1 ((hR k9 x9 h9).lt))
    · rw [hz2 q9 (Nat.lt_of_lt_of_le h1 hS.1)]; exact hS.2.1 q9 h1 h2
end GOF
section CALLX
variable {p : Program} {l : Launch} {e : Env} {R : Room} {s : State} {m : MethodId} {args : Array Value} {below : List Frame} {meth : Method} {c : Code} {H : Heap} {locs : List Loc} {cells slots : Nat} {Q : State → Prop}
theorem call_coreR {D : va_G} {tc : Nat → ClassId} {A A1 : Nat → Prop} {ad : Nat → Nat} {nh mc ms pc : Nat} {r : Option AV} {h1 : HP} {ls : Array Slot} {st0 rest : List Value} {a : Array Value} (hr : vx_Run p l e R s m args below meth c H locs cells slots mc ms (F0 m pc ls st0) rest (QcX D tc A1 ad nh (.inr r) h1 a) (XcX D tc A1 ad nh (.inr r) h1) A1) (hS : va_S A s.heap H locs) (hA1 : ∀ q, A1 q → A q)
    (kk : ∀ (ad' : Nat → Nat) (H1 : Heap) (locs1 : List Loc), (∀ x, okr nh x → ad' x = ad x) → va_P D vwCl (hpool tc ad' h1) H1 → va_D A (hpool tc ad' h1) → WFh h1 → (∀ v, r = some v → wv (gn h1) v) → nh ≤ gn h1 → va_S A s.heap H1 locs1 → W p l e R s m args below meth c H1 locs1 (cells + mc) (slots + ms) Q (F0 m (pc + 3) ls ((r.map (tv ad')).toList ++ rest))) :
    W p l e R s m args below meth c H locs cells slots Q (F0 m pc ls st0) := by
  intro T hT X
  rcases hr T hT X with ⟨v, st₀, t, T', L, h0, X', hL, e1, e2, ⟨⟨ad', he, hv, hP, hD, w1, w2, w3⟩, hF⟩, st⟩ | ⟨q, st₀, t, T', L, E, ce, h0, X', hL, e1, e2, hq, -⟩
  · obtain ⟨k1, k2, k3⟩ := vx_keep h0 e1 hS (fun q _ q2 => hA1 q q2) hA1 hL hF
    cases hv
    obtain ⟨t2, a1, b1⟩ := kk ad' T'.heap (locs ++ L) he (by rw [e1]; exact hP) (hD.weaken (fun _ q9 _ h9 => hA1 q9.1 h9)) w1 w2 w3 k3 T' rfl X'
    exact ⟨t2, st t2 a1, b1⟩
  · exact hq.elim
theorem call_coreT {D : va_G} {tc : Nat → ClassId} {A A1 : Nat → Prop} {ad : Nat → Nat} {nh mc ms pc : Nat} {E : String} {h1 : HP} {ls : Array Slot} {st0 rest : List Value} {a : Array Value} (hr : vx_Run p l e R s m args below meth c H locs cells slots mc ms (F0 m pc ls st0) rest (QcX D tc A1 ad nh (.inl E) h1 a) (XcX D tc A1 ad nh (.inl E) h1) A1) (hS : va_S A s.heap H locs) (hA1 : ∀ q, A1 q → A q)
    (kk : ∀ (ad' : Nat → Nat) (H1 : Heap) (locs1 : List Loc) (q : Addr) (ce : Cell), (∀ x, okr nh x → ad' x = ad x) → va_P D vwCl (hpool tc ad' h1) H1 → va_D A (hpool tc ad' h1) → WFh h1 → nh ≤ gn h1 → va_S A s.heap H1 locs1 → H1[q]? = some ce → ce.vm = .none → s.vm.findClass E = some ce.cls → vx_W p l e R s m args below meth c H1 locs1 (cells + mc) (slots + ms) Q (F0 m pc ls rest) q) :
    W p l e R s m args below meth c H locs cells slots Q (F0 m pc ls st0) := by
  intro T hT X
  rcases hr T hT X with ⟨v, st₀, t, T', L, h0, X', hL, e1, e2, hq, -⟩ | ⟨q, st₀, t, T', L, E', ce, h0, X', hL, e1, e2, ⟨rfl, ⟨ad', he, hP, hD, w1, w3⟩, hF⟩, hce, hcv, hcl, st⟩
  · exact hq.elim
  · obtain ⟨k1, k2, k3⟩ := vx_keep h0 e1 hS (fun q _ q2 => hA1 q q2) hA1 hL hF
    obtain ⟨t2, a1, b1⟩ := kk ad' T'.heap (locs ++ L) q ce he (by rw [e1]; exact hP) (hD.weaken (fun _ q9 _ h9 => hA1 q9.1 h9)) w1 w3 k3 (by rw [e1]; exact hce) hcv hcl T' rfl X'
    exact ⟨t2, st.trans a1, b1⟩
end CALLX
