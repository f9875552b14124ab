theorem gI_sIr (h : HP) (a : Nat) (g : Nat → Int) (x y : Nat) : gI (sIr h a g) x y = if x = a then g y else gI h x y := rfl
section GOJ
variable {K : Ctx} {M : MI} {Q : State → Prop} {hf : HP} {pc n : Nat} {lv : List (Nat × AV)} {st : List AV} {h : HP}
theorem mx32 {a b : Int} (ha : in32 a) (hb : in32 b) : (if Int32.ofInt a < Int32.ofInt b then Int32.ofInt b else Int32.ofInt a) = Int32.ofInt (max a b) := by
  by_cases c : a < b
  · rw [if_pos ((o32_lt ha hb).mpr c), Int.max_eq_right (by omega)]
  · rw [if_neg (fun q => c ((o32_lt ha hb).mp q)), Int.max_eq_left (by omega)]
theorem mn32 {a b : Int} (ha : in32 a) (hb : in32 b) : (if Int32.ofInt b < Int32.ofInt a then Int32.ofInt b else Int32.ofInt a) = Int32.ofInt (min a b) := by
  by_cases c : b < a
  · rw [if_pos ((o32_lt hb ha).mpr c), Int.min_eq_right (by omega)]
  · rw [if_neg (fun q => c ((o32_lt hb ha).mp q)), Int.min_eq_left (by omega)]
theorem mx64 {a b : Int} (ha : in64 a) (hb : in64 b) : (if Int64.ofInt b < Int64.ofInt a then Int64.ofInt a else Int64.ofInt b) = Int64.ofInt (max a b) := by
  by_cases c : b < a
  · rw [if_pos ((o64_lt hb ha).mpr c), Int.max_eq_left (by omega)]
  · rw [if_neg (fun q => c ((o64_lt hb ha).mp q)), Int.max_eq_right (by omega)]
theorem mn64 {a b : Int} (ha : in64 a) (hb : in64 b) : (if Int64.ofInt b < Int64.ofInt a then Int64.ofInt b else Int64.ofInt a) = Int64.ofInt (min a b) := by
  by_cases c : b < a
  · rw [if_pos ((o64_lt hb ha).mpr c), Int.min_eq_right (by omega)]
  · rw [if_neg (fun q => c ((o64_lt hb ha).mp q)), Int.min_eq_left (by omega)]
theorem max_in {a b : Int} {P : Int → Prop} (ha : P a) (hb : P b) : P (max a b) := by rcases Int.le_total a b with q | q <;> first | (rw [Int.max_eq_right q]; exact hb) | (rw [Int.max_eq_left q]; exact ha)
theorem min_in {a b : Int} {P : Int → Prop} (ha : P a) (hb : P b) : P (min a b) := by rcases Int.le_total a b with q | q <;> first | (rw [Int.min_eq_left q]; exact ha) | (rw [Int.min_eq_right q]; exact hb)
def JM (y : MethodName) (b : ByteArray) (nl : Nat) (t : FieldType) : Prop := Cond.static y ∈ BW ∧ Cond.initialized "java/lang/Math" ∈ BW ∧ Cond.code y b nl (some t) ∈ BW
theorem go_mmax {a b : Int} {i : Nat} (hw : Cond.methodLink M.1 i Lib.Math.max.name ∈ BW) (hj : JM Lib.Math.max.name Lib.Math.max.code 2 .int) (hst : (st.map catv).sum ≤ 60) (hd9 : 1 ≤ M.2.2.2.2.1) (hd : decode M.2.1 pc = .ok (.invokestatic i, 3)) (hn : pc + 3 = n) (k : Go K M Q hf n lv (vi (max a b) :: st) h) : Go K M Q hf pc lv (vi b :: vi a :: st) h := by
  obtain ⟨p, l, e, R, s, m, args, below, meth, c, D, tc, A, ad0, n0, c0, s0⟩ := K
  obtain ⟨own, cc, nL, ret, d, tb, nm⟩ := M
  subst hn
  refine ⟨k.1, fun hA wf wl ws g1 g2 g3 ad H locs ls he hR hD hS hl => ?_⟩
  obtain ⟨hx, hb, hml, hown, hts, hK, hlk, hret, hSF, hAA, ⟨r1, r2, r3, r4⟩, hlt, -⟩ := id hA
  obtain ⟨wb, ws1⟩ := wvs_c ws
  obtain ⟨wa, ws2⟩ := wvs_c ws1
  have kk := k.2 hA wf wl (wvs_k (v := vi _) (max_in (P := in32) wa wb) ws2) g1 g2 g3 ad H locs ls he hR hD hS hl
  have q1 : 1 ≤ d := hd9
  have q2 : d ≤ R.frames := r1
  have q3 : 100 * d ≤ R.locals := r2
  have q4 : gc h ≤ gc hf := k.1.1
  have q5 : gs h ≤ gs hf := k.1.2
  have q6 : gc hf - c0 ≤ R.cells := r3
  have q7 : gs hf - s0 ≤ R.slots := r4
  refine va_mmax (c := c) hx hb (by rw [hml]; exact hl.1.symm) hown (hts _ hw) (hts _ hj.1) (hts _ hj.2.1) (hts _ hj.2.2) (by show 1 ≤ R.frames; omega) (by rw [cat_map]; show _ ≤ R.locals; omega) (by show gc h - c0 ≤ R.cells; omega) (by show gs h - s0 ≤ R.slots; omega) hd ?_
  rw [mx32 wa wb]
  exact kk
theorem go_mmin {a b : Int} {i : Nat} (hw : Cond.methodLink M.1 i Lib.Math.min.name ∈ BW) (hj : JM Lib.Math.min.name Lib.Math.min.code 2 .int) (hst : (st.map catv).sum ≤ 60) (hd9 : 1 ≤ M.2.2.2.2.1) (hd : decode M.2.1 pc = .ok (.invokestatic i, 3)) (hn : pc + 3 = n) (k : Go K M Q hf n lv (vi (min a b) :: st) h) : Go K M Q hf pc lv (vi b :: vi a :: st) h := by
  obtain ⟨p, l, e, R, s, m, args, below, meth, c, D, tc, A, ad0, n0, c0, s0⟩ := K
  obtain ⟨own, cc, nL, ret, d, tb, nm⟩ := M
  subst hn
  refine ⟨k.1, fun hA wf wl ws g1 g2 g3 ad H locs ls he hR hD hS hl => ?_⟩
  obtain ⟨hx, hb, hml, hown, hts, hK, hlk, hret, hSF, hAA, ⟨r1, r2, r3, r4⟩, hlt, -⟩ := id hA
  obtain ⟨wb, ws1⟩ := wvs_c ws
  obtain ⟨wa, ws2⟩ := wvs_c ws1
  have kk := k.2 hA wf wl (wvs_k (v := vi _) (min_in (P := in32) wa wb) ws2) g1 g2 g3 ad H locs ls he hR hD hS hl
  have q1 : 1 ≤ d := hd9
  have q2 : d ≤ R.frames := r1
  have q3 : 100 * d ≤ R.locals := r2
  have q4 : gc h ≤ gc hf := k.1.1
  have q5 : gs h ≤ gs hf := k.1.2
  have q6 : gc hf - c0 ≤ R.cells := r3
  have q7 : gs hf - s0 ≤ R.slots := r4
  refine va_mmin (c := c) hx hb (by rw [hml]; exact hl.1.symm) hown (hts _ hw) (hts _ hj.1) (hts _ hj.2.1) (hts _ hj.2.2) (by show 1 ≤ R.frames; omega) (by rw [cat_map]; show _ ≤ R.locals; omega) (by show gc h - c0 ≤ R.cells; omega) (by show gs h - s0 ≤ R.slots; omega) hd ?_
  rw [mn32 wa wb]
  exact kk
theorem go_lmax {a b : Int} {i : Nat} (hw : Cond.methodLink M.1 i Lib.MathLoose.max_long.x ∈ BW) (hj : JM Lib.MathLoose.max_long.x Lib.MathLoose.max_long.code 4 .long) (hst : (st.map catv).sum ≤ 60) (hd9 : 1 ≤ M.2.2.2.2.1) (hd : decode M.2.1 pc = .ok (.invokestatic i, 3)) (hn : pc + 3 = n) (k : Go K M Q hf n lv (vl (max a b) :: st) h) : Go K M Q hf pc lv (vl b :: vl a :: st) h := by
  obtain ⟨p, l, e, R, s, m, args, below, meth, c, D, tc, A, ad0, n0, c0, s0⟩ := K
  obtain ⟨own, cc, nL, ret, d, tb, nm⟩ := M
  subst hn
  refine ⟨k.1, fun hA wf wl ws g1 g2 g3 ad H locs ls he hR hD hS hl => ?_⟩
  obtain ⟨hx, hb, hml, hown, hts, hK, hlk, hret, hSF, hAA, ⟨r1, r2, r3, r4⟩, hlt, -⟩ := id hA
  obtain ⟨wb, ws1⟩ := wvs_c ws
  obtain ⟨wa, ws2⟩ := wvs_c ws1
  have kk := k.2 hA wf wl (wvs_k (v := vl _) (max_in (P := in64) wa wb) ws2) g1 g2 g3 ad H locs ls he hR hD hS hl
  have q1 : 1 ≤ d := hd9
  have q2 : d ≤ R.frames := r1
  have q3 : 100 * d ≤ R.locals := r2
  have q4 : gc h ≤ gc hf := k.1.1
  have q5 : gs h ≤ gs hf := k.1.2
  have q6 : gc hf - c0 ≤ R.cells := r3
  have q7 : gs hf - s0 ≤ R.slots := r4
  refine va_mmax_long (c := c) hx hb (by rw [hml]; exact hl.1.symm) hown (hts _ hw) (hts _ hj.1) (hts _ hj.2.1) (hts _ hj.2.2) (by show 1 ≤ R.frames; omega) (by rw [cat_map]; show _ ≤ R.locals; omega) (by show gc h - c0 ≤ R.cells; omega) (by show gs h - s0 ≤ R.slots; omega) hd ?_
  rw [mx64 wa wb]
  exact kk
theorem go_lmin {a b : Int} {i : Nat} (hw : Cond.methodLink M.1 i Lib.MathLoose.min_long.x ∈ BW) (hj : JM Lib.MathLoose.min_long.x Lib.MathLoose.min_long.code 4 .long) (hst : (st.map catv).sum ≤ 60) (hd9 : 1 ≤ M.2.2.2.2.1) (hd : decode M.2.1 pc = .ok (.invokestatic i, 3)) (hn : pc + 3 = n) (k : Go K M Q hf n lv (vl (min a b) :: st) h) : Go K M Q hf pc lv (vl b :: vl a :: st) h := by
  obtain ⟨p, l, e, R, s, m, args, below, meth, c, D, tc, A, ad0, n0, c0, s0⟩ := K
  obtain ⟨own, cc, nL, ret, d, tb, nm⟩ := M
  subst hn
  refine ⟨k.1, fun hA wf wl ws g1 g2 g3 ad H locs ls he hR hD hS hl => ?_⟩
  obtain ⟨hx, hb, hml, hown, hts, hK, hlk, hret, hSF, hAA, ⟨r1, r2, r3, r4⟩, hlt, -⟩ := id hA
  obtain ⟨wb, ws1⟩ := wvs_c ws
  obtain ⟨wa, ws2⟩ := wvs_c ws1
  have kk := k.2 hA wf wl (wvs_k (v := vl _) (min_in (P := in64) wa wb) ws2) g1 g2 g3 ad H locs ls he hR hD hS hl
  have q1 : 1 ≤ d := hd9
  have q2 : d ≤ R.frames := r1
  have q3 : 100 * d ≤ R.locals := r2
  have q4 : gc h ≤ gc hf := k.1.1
  have q5 : gs h ≤ gs hf := k.1.2
  have q6 : gc hf - c0 ≤ R.cells := r3
  have q7 : gs hf - s0 ≤ R.slots := r4
  refine va_mmin_long (c := c) hx hb (by rw [hml]; exact hl.1.symm) hown (hts _ hw) (hts _ hj.1) (hts _ hj.2.1) (hts _ hj.2.2) (by show 1 ≤ R.frames; omega) (by rw [cat_map]; show _ ≤ R.locals; omega) (by show gc h - c0 ≤ R.cells; omega) (by show gs h - s0 ≤ R.slots; omega) hd ?_
  rw [mn64 wa wb]
  exact kk
theorem go_objInit {r : Option Nat} {i : Nat} (hw : Cond.methodLink M.1 i objectInit ∈ BW) (hw2 : Cond.instanceMethod objectInit ∈ BW ∧ Cond.code objectInit ⟨#[0xb1]⟩ 1 none ∈ BW) (hr : ∃ a, r = some a) (hst : (st.map catv).sum ≤ 60) (hd9 : 1 ≤ M.2.2.2.2.1) (hd : decode M.2.1 pc = .ok (.invokespecial i, 3)) (hn : pc + 3 = n) (k : Go K M Q hf n lv st h) : Go K M Q hf pc lv (vr r :: st) h := by
  obtain ⟨p, l, e, R, s, m, args, below, meth, c, D, tc, A, ad0, n0, c0, s0⟩ := K
  obtain ⟨own, cc, nL, ret, d, tb, nm⟩ := M
  obtain ⟨a, rfl⟩ := hr
  subst hn
  refine ⟨k.1, fun hA wf wl ws g1 g2 g3 ad H locs ls he hR hD hS hl => ?_⟩
  obtain ⟨hx, hb, hml, hown, hts, hK, hlk, hret, hSF, hAA, ⟨r1, r2, r3, r4⟩, hlt, -⟩ := id hA
  have kk := k.2 hA wf wl (wvs_c ws).2 g1 g2 g3 ad H locs ls he hR hD hS hl
  have q1 : 1 ≤ d := hd9
  have q2 : d ≤ R.frames := r1
  have q3 : 100 * d ≤ R.locals := r2
  refine W.objInit (a := ad a) (rest := st.map (tv ad)) hx hb hown (hts _ hw) (hts _ hw2.1) (hts _ hw2.2) rfl (hl.1.trans hml.symm) rfl hd (by show 1 ≤ R.frames; omega) (by rw [cat_map]; show 2 * 0 + _ + 12 ≤ R.locals; omega) ?_
  exact kk
theorem go_copy {r r' : Option Nat} {i j mm : Int} {h' : HP} {ix : Nat} (hx9 : xcp h r i r' j mm = some h') (hw : Cond.methodLink M.1 ix arraycopyName ∈ BW) (hw2 : Cond.native arraycopyName ∈ BW ∧ Cond.static arraycopyName ∈ BW ∧ Cond.initialized "java/lang/System" ∈ BW) (hst : (st.map catv).sum ≤ 20) (hd9 : 1 ≤ M.2.2.2.2.1) (hd : decode M.2.1 pc = .ok (.invokestatic ix, 3)) (hn : pc + 3 = n) (k : Go K M Q hf n lv st h') : Go K M Q hf pc lv (vi mm :: vi j :: vr r' :: vi i :: vr r :: st) h := by
  cases r with
  | none => cases hx9
  | some a =>
  cases r' with
  | none => cases hx9
  | some b =>
    unfold xcp at hx9; simp only at hx9
    split at hx9
    · next hs9 =>
      obtain ⟨s1, s2, i0, j0, m0, le1, le2, m1⟩ := hs9
      cases hx9
      obtain ⟨p, l, e, R, s, m, args, below, meth, c, D, tc, A, ad0, n0, c0, s0⟩ := K
      obtain ⟨own, cc, nL, ret, d, tb, nm⟩ := M
      subst hn
      refine ⟨k.1.sIr, fun hA wf wl ws g1 g2 g3 ad H locs ls he hR hD hS hl => ?_⟩
      obtain ⟨hx, hb, hml, hown, hts, hK, hlk, hret, hSF, hAA, ⟨r1, r2, r3, r4⟩, hlt, -⟩ := id hA
      have q1 : 1 ≤ d := hd9
      have q2 : d ≤ R.frames := r1
      have q3 : 100 * d ≤ R.locals := r2
      obtain ⟨wm, ws1⟩ := wvs_c ws
      obtain ⟨wj, ws2⟩ := wvs_c ws1
      obtain ⟨wb, ws3⟩ := wvs_c ws2
      obtain ⟨wi, ws4⟩ := wvs_c ws3
      obtain ⟨wa, ws5⟩ := wvs_c ws4
      obtain ⟨b1, b2⟩ := wf.le (show gS h a = ((gS h a).1, (gS h a).2) from rfl) (by omega)
      obtain ⟨b3, b4⟩ := wf.le (show gS h b = ((gS h b).1, (gS h b).2) from rfl) (by omega)
      have hp := hpool_get (tc := tc) (ad := ad) b1 b2
      have hp2 := hpool_get (tc := tc) (ad := ad) b3 b4
      rw [tcell_100 s1] at hp
      rw [tcell_100 s2] at hp2
      have ci := clamp_i wi
      have cj := clamp_i wj
      have cm := clamp_i wm
      have hnat : nativeFrameWords "java/lang/System" "arraycopy" 5 ≤ 60 := by decide +kernel
      refine va_copyi (c := c) (sp := Int32.ofInt i) (dp := Int32.ofInt j) (n := Int32.ofInt mm) hx hb (by rw [hml]; exact hl.1.symm) hown (hts _ hw) (hts _ hw2.1) (hts _ hw2.2.1) (hts _ hw2.2.2) hK hR hD hS (a - 1) (b - 1) 0 0 hp hp2 rfl rfl rfl (fun q => by have := (o32_lt0 wi).mp q; omega) (fun q => by have := (o32_lt0 wj).mp q; omega) (fun q => by have := (o32_lt0 wm).mp q; omega) (by rw [ci, cm]; omega) (by rw [cj, cm]; omega) (fun _ _ => rfl) (by show 1 ≤ R.frames; omega) (by rw [cat_map]; show _ ≤ R.locals; omega) hd fun H1 locs1 p1 p2 p3 => ?_
      rw [ci, cj, cm] at p1 p2
      have e1 : (hpool tc ad h).set (b - 1) (ad b, .inl (tc 0, (gS h b).2, .inl (va_cpy (fun k => Int32.ofInt (gI h a k)) (fun k => Int32.ofInt (gI h b k)) i.toNat j.toNat mm.toNat))) = hpool tc ad (sIr h b (fun k => if j.toNat ≤ k ∧ k < j.toNat + mm.toNat then gI h a (i.toNat + (k - j.toNat)) else gI h b k)) := by
        refine hpool_set b3 rfl ?_ (tcell_oIr tc ad h b _)
        rw [tcell_100 (h := sIr h b _) s2]
        show Sum.inl (tc 0, (gS h b).2, Sum.inl _) = Sum.inl (tc 0, (gS h b).2, Sum.inl _)
        congr 4
        funext k
        rw [gI_sIr, if_pos rfl]
        unfold va_cpy
        split <;> rfl
      rw [e1] at p1 p2
      exact k.2 hA (wf_sIr wf (fun y => by split; exact wf.1 _ _; exact wf.1 _ _)) wl ws5 g1 g2 g3 ad H1 locs1 ls he p1 p2 p3 hl
    · cases hx9
theorem go_ldcS {j : Nat} {q : String × Nat × String} (hj : STR[j]? = some q) (ho : q.1 = M.1) (hd : decode M.2.1 pc = .ok (.ldc q.2.1, 2)) (hn : pc + 2 = n) (k : Go K M Q hf n lv (vr (some (1000000 + j)) :: st) h) : Go K M Q hf pc lv st h := by
  obtain ⟨p, l, e, R, s, m, args, below, meth, c, D, tc, A, ad0, n0, c0, s0⟩ := K
  obtain ⟨own, cc, nL, ret, d, tb, nm⟩ := M
  subst hn
  refine ⟨k.1, fun hA wf wl ws g1 g2 g3 ad H locs ls he hR hD hS hl => ?_⟩
  obtain ⟨hx, hb, hml, hown, hts, hK, hlk, hret, hSF, hAA, hrm, hlt, -⟩ := id hA
  have wr : wv (gn h) (vr (some (1000000 + j))) := fun a q => by cases q; exact Or.inr (by omega)
  have kk := k.2 hA wf wl (wvs_k wr ws) g1 g2 g3 ad H locs ls he hR hD hS hl
  have hz := hSF.2.2.2.1 j q hj
  have ho9 : q.1 = own := ho
  rw [ho9, ← he (1000000 + j) (Or.inr (by omega))] at hz
  exact va_ldcS hx hb hown hz hd kk
end GOJ
