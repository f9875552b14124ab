/-! arrays, new things, final fields -/
theorem gI_alc (h : HP) (S : Nat × Nat) (x y : Nat) : gI (alc h S) x y = if x = gn h + 1 then 0 else gI h x y := rfl
theorem gJ_alc (h : HP) (S : Nat × Nat) (x y : Nat) : gJ (alc h S) x y = if x = gn h + 1 then 0 else gJ h x y := rfl
theorem gP_alc (h : HP) (S : Nat × Nat) (x y : Nat) : gP (alc h S) x y = if x = gn h + 1 then none else gP h x y := rfl
theorem gS_alc (h : HP) (S : Nat × Nat) (x : Nat) : gS (alc h S) x = if x = gn h + 1 then S else gS h x := rfl
theorem hpool_push {tc : Nat → ClassId} {ad : Nat → Nat} {h : HP} {S : Nat × Nat} {q : Nat} {e : va_E} (w : WFh h) (hlt : gn h < 900000) (he : tcell tc (va_up ad (gn h + 1) q) (alc h S) (gn h + 1) = e) : hpool tc ad h ++ [(q, e)] = hpool tc (va_up ad (gn h + 1) q) (alc h S) := by
  subst he
  unfold hpool
  have hn : gn (alc h S) = gn h + 1 := rfl
  rw [hn, List.range_succ, List.map_append]
  congr 1
  · apply List.map_congr_left
    intro k hk
    have hk9 : k < gn h := List.mem_range.mp hk
    have e1 : va_up ad (gn h + 1) q (k + 1) = ad (k + 1) := by unfold va_up; rw [if_neg (by omega)]
    have e2 : tcell tc (va_up ad (gn h + 1) q) (alc h S) (k + 1) = tcell tc (va_up ad (gn h + 1) q) h (k + 1) := by
      have a1 : ∀ y, gI (alc h S) (k + 1) y = gI h (k + 1) y := fun y => by rw [gI_alc, if_neg (by omega)]
      have a2 : ∀ y, gJ (alc h S) (k + 1) y = gJ h (k + 1) y := fun y => by rw [gJ_alc, if_neg (by omega)]
      have a3 : ∀ y, gP (alc h S) (k + 1) y = gP h (k + 1) y := fun y => by rw [gP_alc, if_neg (by omega)]
      have a4 : gS (alc h S) (k + 1) = gS h (k + 1) := by show (if k + 1 = gn h + 1 then S else gS h (k + 1)) = _; rw [if_neg (by omega)]
      have a5 : ∀ ad' c y, tfld (alc h S) ad' c (k + 1) y = tfld h ad' c (k + 1) y := fun ad' c y => by unfold tfld; rw [a1 y, a2 y, a3 y]
      unfold tcell; simp only [a1, a2, a3, a4, a5]
    have e3 : tcell tc (va_up ad (gn h + 1) q) h (k + 1) = tcell tc ad h (k + 1) := by
      refine tcell_ext w (fun r hr => ?_) _
      unfold va_up; rw [if_neg (by unfold okr at hr; omega)]
    rw [e1, e2, e3]
  · show [(q, _)] = [(va_up ad (gn h + 1) q (gn h + 1), _)]
    have e1 : va_up ad (gn h + 1) q (gn h + 1) = q := by unfold va_up; rw [if_pos rfl]
    rw [e1]
theorem wf_alc {h : HP} {S : Nat × Nat} (w : WFh h) (hlt : gn h < 900000) : WFh (alc h S) := by
  refine ⟨fun x y => ?_, fun x y => ?_, fun x y r => ?_, fun x hx => ?_, ?_⟩
  · rw [gI_alc]; split
    · exact in32_0
    · exact w.1 x y
  · rw [gJ_alc]; split
    · unfold in64; omega
    · exact w.2.1 x y
  · show gP (alc h S) x y = some r → okr (gn h + 1) r; rw [gP_alc]; split
    · intro q; cases q
    · intro q; exact (w.2.2.1 x y r q).up (by omega)
  · show (if x = gn h + 1 then S else gS h x) = _
    have hx9 : x = 0 ∨ gn h + 1 < x := hx
    rw [if_neg (by omega)]
    exact w.2.2.2.1 x (by omega)
  · show gn h + 1 ≤ 900000; omega
section GOA
variable {K : Ctx} {M : MI} {Q : State → Prop} {hf : HP} {pc n : Nat} {lv : List (Nat × AV)} {st : List AV} {h : HP}
theorem go_alen {r : Option Nat} {z : Int} (hx9 : xal h r = some z) (hd : decode M.2.1 pc = .ok (.arraylength, 1)) (hn : pc + 1 = n) (k9 : Go K M Q hf n lv (vi z :: st) h) : Go K M Q hf pc lv (vr r :: st) h := by
  cases r with
  | none => cases hx9
  | some a =>
    unfold xal at hx9; simp only at hx9
    split at hx9
    · next hs9 =>
      cases hx9
      obtain ⟨p, l, e, R, s, m, args, below, meth, c, D, tc, A, ad0, n0, c0, s0⟩ := K
      obtain ⟨own, cc, nL, ret, d, tb, nm⟩ := M
      subst hn
      refine ⟨k9.1, fun hA wf wl ws g1 g2 g3 ad H locs ls he hR hD hS hl => ?_⟩
      obtain ⟨hx, hb, hml, hown, hts, hK, -⟩ := id hA
      have hz : in32 ((gS h a).2 : Int) := by unfold in32; omega
      have kk := k9.2 hA wf wl (wvs_k hz (wvs_c ws).2) g1 g2 g3 ad H locs ls he hR hD hS hl
      obtain ⟨b1, b2⟩ := wf.le (show gS h a = ((gS h a).1, (gS h a).2) from rfl) (by omega)
      have hp := hpool_get (tc := tc) (ad := ad) b1 b2
      have ev : Int32.ofNat (gS h a).2 = Int32.ofInt ((gS h a).2 : Int) := Int32.ofInt_eq_ofNat.symm
      have c5 : (gS h a).1 = 100 ∨ (gS h a).1 = 101 ∨ (gS h a).1 = 102 ∨ (gS h a).1 = 103 ∨ (gS h a).1 = 104 := by omega
      rcases c5 with q | q | q | q | q
      · rw [tcell_100 q] at hp; exact va_alen hx hb hK hR (a - 1) 0 hp rfl ev hd kk
      · rw [tcell_101 q] at hp; exact va_alen hx hb hK hR (a - 1) 1 hp rfl ev hd kk
      · rw [tcell_102 q] at hp; exact va_alen hx hb hK hR (a - 1) 2 hp rfl ev hd kk
      · rw [tcell_103 q] at hp; exact va_alen hx hb hK hR (a - 1) 3 hp rfl ev hd kk
      · rw [tcell_104 q] at hp; exact va_alen hx hb hK hR (a - 1) 4 hp rfl ev hd kk
    · cases hx9
theorem go_iaload {r : Option Nat} {i z : Int} (hx9 : xaI h r 100 i = some z) (hd : decode M.2.1 pc = .ok (.iaload, 1)) (hn : pc + 1 = n) (k9 : Go K M Q hf n lv (vi z :: st) h) : Go K M Q hf pc lv (vi i :: vr r :: st) h := by
  cases r with
  | none => cases hx9
  | some a =>
    unfold xaI at hx9; simp only at hx9
    split at hx9
    · next hs9 =>
      cases hx9
      obtain ⟨p, l, e, R, s, m, args, below, meth, c, D, tc, A, ad0, n0, c0, s0⟩ := K
      obtain ⟨own, cc, nL, ret, d, tb, nm⟩ := M
      subst hn
      refine ⟨k9.1, fun hA wf wl ws g1 g2 g3 ad H locs ls he hR hD hS hl => ?_⟩
      obtain ⟨hx, hb, hml, hown, hts, hK, -⟩ := id hA
      obtain ⟨wi, ws1⟩ := wvs_c ws
      have kk := k9.2 hA wf wl (wvs_k (wf.1 _ _) (wvs_c ws1).2) g1 g2 g3 ad H locs ls he hR hD hS hl
      obtain ⟨b1, b2⟩ := wf.le (show gS h a = ((gS h a).1, (gS h a).2) from rfl) (by omega)
      have hp := hpool_get (tc := tc) (ad := ad) b1 b2
      rw [tcell_100 hs9.1] at hp
      refine va_iald hx hb hK hR (a - 1) 0 hp rfl (vp_in_i wi hs9.2.1 hs9.2.2) hd ?_
      rw [clamp_i wi]; exact kk
    · cases hx9
theorem go_baload {r : Option Nat} {t : Nat} {i z : Int} (ht : t = 102 ∨ t = 103) (hx9 : xaI h r t i = some z) (hd : decode M.2.1 pc = .ok (.baload, 1)) (hn : pc + 1 = n) (k9 : Go K M Q hf n lv (vi z :: st) h) : Go K M Q hf pc lv (vi i :: vr r :: st) h := by
  cases r with
  | none => cases hx9
  | some a =>
    unfold xaI at hx9; simp only at hx9
    split at hx9
    · next hs9 =>
      cases hx9
      obtain ⟨p, l, e, R, s, m, args, below, meth, c, D, tc, A, ad0, n0, c0, s0⟩ := K
      obtain ⟨own, cc, nL, ret, d, tb, nm⟩ := M
      subst hn
      refine ⟨k9.1, fun hA wf wl ws g1 g2 g3 ad H locs ls he hR hD hS hl => ?_⟩
      obtain ⟨hx, hb, hml, hown, hts, hK, -⟩ := id hA
      obtain ⟨wi, ws1⟩ := wvs_c ws
      have kk := k9.2 hA wf wl (wvs_k (wf.1 _ _) (wvs_c ws1).2) g1 g2 g3 ad H locs ls he hR hD hS hl
      obtain ⟨b1, b2⟩ := wf.le (show gS h a = ((gS h a).1, (gS h a).2) from rfl) (by omega)
      have hp := hpool_get (tc := tc) (ad := ad) b1 b2
      rcases ht with q | q
      · rw [tcell_102 (hs9.1.trans q)] at hp
        refine va_bald hx hb hK hR (a - 1) 2 hp rfl (vp_in_i wi hs9.2.1 hs9.2.2) hd ?_
        rw [clamp_i wi]; exact kk
      · rw [tcell_103 (hs9.1.trans q)] at hp
        refine va_zald hx hb hK hR (a - 1) 3 hp rfl (vp_in_i wi hs9.2.1 hs9.2.2) hd ?_
        rw [clamp_i wi]; exact kk
    · cases hx9
theorem go_laload {r : Option Nat} {i z : Int} (hx9 : xaJ h r i = some z) (hd : decode M.2.1 pc = .ok (.laload, 1)) (hn : pc + 1 = n) (k9 : Go K M Q hf n lv (vl z :: st) h) : Go K M Q hf pc lv (vi i :: vr r :: st) h := by
  cases r with
  | none => cases hx9
  | some a =>
    unfold xaJ at hx9; simp only at hx9
    split at hx9
    · next hs9 =>
      cases hx9
      obtain ⟨p, l, e, R, s, m, args, below, meth, c, D, tc, A, ad0, n0, c0, s0⟩ := K
      obtain ⟨own, cc, nL, ret, d, tb, nm⟩ := M
      subst hn
      refine ⟨k9.1, fun hA wf wl ws g1 g2 g3 ad H locs ls he hR hD hS hl => ?_⟩
      obtain ⟨hx, hb, hml, hown, hts, hK, -⟩ := id hA
      obtain ⟨wi, ws1⟩ := wvs_c ws
      have kk := k9.2 hA wf wl (wvs_k (wf.2.1 _ _) (wvs_c ws1).2) g1 g2 g3 ad H locs ls he hR hD hS hl
      obtain ⟨b1, b2⟩ := wf.le (show gS h a = ((gS h a).1, (gS h a).2) from rfl) (by omega)
      have hp := hpool_get (tc := tc) (ad := ad) b1 b2
      rw [tcell_101 hs9.1] at hp
      refine va_lald hx hb hK hR (a - 1) 1 hp rfl (vp_in_i wi hs9.2.1 hs9.2.2) hd ?_
      rw [clamp_i wi]; exact kk
    · cases hx9
theorem go_aaload {r z : Option Nat} {i : Int} (hx9 : xaP h r i = some z) (hd : decode M.2.1 pc = .ok (.aaload, 1)) (hn : pc + 1 = n) (k9 : Go K M Q hf n lv (vr z :: st) h) : Go K M Q hf pc lv (vi i :: vr r :: st) h := by
  cases r with
  | none => cases hx9
  | some a =>
    unfold xaP at hx9; simp only at hx9
    split at hx9
    · next hs9 =>
      cases hx9
      obtain ⟨p, l, e, R, s, m, args, below, meth, c, D, tc, A, ad0, n0, c0, s0⟩ := K
      obtain ⟨own, cc, nL, ret, d, tb, nm⟩ := M
      subst hn
      refine ⟨k9.1, fun hA wf wl ws g1 g2 g3 ad H locs ls he hR hD hS hl => ?_⟩
      obtain ⟨hx, hb, hml, hown, hts, hK, -⟩ := id hA
      obtain ⟨wi, ws1⟩ := wvs_c ws
      have kk := k9.2 hA wf wl (wvs_k (v := vr _) (wf.2.2.1 _ _) (wvs_c ws1).2) g1 g2 g3 ad H locs ls he hR hD hS hl
      obtain ⟨b1, b2⟩ := wf.le (show gS h a = ((gS h a).1, (gS h a).2) from rfl) (by omega)
      have hp := hpool_get (tc := tc) (ad := ad) b1 b2
      rw [tcell_104 hs9.1] at hp
      refine va_aldq hx hb hK hR (a - 1) 4 hp rfl (vp_in_i wi hs9.2.1 hs9.2.2) hd ?_
      rw [clamp_i wi]; exact kk
    · cases hx9
theorem upd_row (f : Nat → Nat → Int) (a k : Nat) (z : Int) : (fun j => Int32.ofInt (upd2 f a k z a j)) = upd (fun j => Int32.ofInt (f a j)) k (Int32.ofInt z) := by
  funext j; unfold upd2 upd
  by_cases c : j = k
  · rw [if_pos ⟨rfl, c⟩, if_pos c]
  · rw [if_neg (fun q => c q.2), if_neg c]
theorem upd_rowL (f : Nat → Nat → Int) (a k : Nat) (z : Int) : (fun j => Int64.ofInt (upd2 f a k z a j)) = vp_updL (fun j => Int64.ofInt (f a j)) k (Int64.ofInt z) := by
  funext j; unfold upd2 vp_updL
  by_cases c : j = k
  · rw [if_pos ⟨rfl, c⟩, if_pos c]
  · rw [if_neg (fun q => c q.2), if_neg c]
theorem upd_rowP (ad : Nat → Nat) (f : Nat → Nat → Option Nat) (a k b : Nat) : (fun j => (upd2 f a k (some b) a j).map ad) = va_up (fun j => (f a j).map ad) k (some (ad b)) := by
  funext j; unfold upd2 va_up
  by_cases c : j = k
  · rw [if_pos ⟨rfl, c⟩, if_pos c]; rfl
  · rw [if_neg (fun q => c q.2), if_neg c]
theorem go_iastore {r : Option Nat} {i z : Int} {h' : HP} (hx9 : xsI h r i z = some h') (hd : decode M.2.1 pc = .ok (.iastore, 1)) (hn : pc + 1 = n) (k9 : Go K M Q hf n lv st h') : Go K M Q hf pc lv (vi z :: vi i :: vr r :: st) h := by
  cases r with
  | none => cases hx9
  | some a =>
    unfold xsI at hx9; simp only at hx9
    split at hx9
    · next hs9 =>
      cases hx9
      obtain ⟨p, l, e, R, s, m, args, below, meth, c, D, tc, A, ad0, n0, c0, s0⟩ := K
      obtain ⟨own, cc, nL, ret, d, tb, nm⟩ := M
      subst hn
      refine ⟨k9.1.sI, fun hA wf wl ws g1 g2 g3 ad H locs ls he hR hD hS hl => ?_⟩
      obtain ⟨hx, hb, hml, hown, hts, hK, -⟩ := id hA
      obtain ⟨wz, ws0⟩ := wvs_c ws
      obtain ⟨wi, ws1⟩ := wvs_c ws0
      obtain ⟨b1, b2⟩ := wf.le (show gS h a = ((gS h a).1, (gS h a).2) from rfl) (by omega)
      have hp := hpool_get (tc := tc) (ad := ad) b1 b2
      rw [tcell_100 hs9.1] at hp
      refine va_iast hx hb hK hR hD hS (a - 1) 0 hp rfl (vp_in_i wi hs9.2.1 hs9.2.2) hd fun H1 locs1 q1 q2 q3 => ?_
      have e1 : (hpool tc ad h).set (a - 1) (ad a, .inl (tc 0, (gS h a).2, .inl (upd (fun j => Int32.ofInt (gI h a j)) (Int32.ofInt i).toNatClampNeg (Int32.ofInt z)))) = hpool tc ad (sI h a i.toNat z) := by
        refine hpool_set b1 rfl ?_ (tcell_oI tc ad h a i.toNat z)
        rw [tcell_100 (h := sI h a i.toNat z) hs9.1, clamp_i wi]
        show _ = Sum.inl (tc 0, (gS h a).2, Sum.inl _)
        rw [← upd_row]; rfl
      rw [e1] at q1 q2
      exact k9.2 hA (wf_sI wf wz) wl (wvs_c ws1).2 g1 g2 g3 ad H1 locs1 ls he q1 q2 q3 hl
    · cases hx9
theorem wbyte_in (z : Int) : in32 (wbyte z) := in32_toInt _
theorem go_bastoreB {r : Option Nat} {i z : Int} {h' : HP} (hx9 : xsB h r i z = some h') (hd : decode M.2.1 pc = .ok (.bastore, 1)) (hn : pc + 1 = n) (k9 : Go K M Q hf n lv st h') : Go K M Q hf pc lv (vi z :: vi i :: vr r :: st) h := by
  cases r with
  | none => cases hx9
  | some a =>
    unfold xsB at hx9; simp only at hx9
    split at hx9
    · next hs9 =>
      cases hx9
      obtain ⟨p, l, e, R, s, m, args, below, meth, c, D, tc, A, ad0, n0, c0, s0⟩ := K
      obtain ⟨own, cc, nL, ret, d, tb, nm⟩ := M
      subst hn
      refine ⟨k9.1.sI, fun hA wf wl ws g1 g2 g3 ad H locs ls he hR hD hS hl => ?_⟩
      obtain ⟨hx, hb, hml, hown, hts, hK, -⟩ := id hA
      obtain ⟨wz, ws0⟩ := wvs_c ws
      obtain ⟨wi, ws1⟩ := wvs_c ws0
      obtain ⟨b1, b2⟩ := wf.le (show gS h a = ((gS h a).1, (gS h a).2) from rfl) (by omega)
      have hp := hpool_get (tc := tc) (ad := ad) b1 b2
      rw [tcell_102 hs9.1] at hp
      refine va_bast hx hb hK hR hD hS (a - 1) 2 hp rfl (vp_in_i wi hs9.2.1 hs9.2.2) hd fun H1 locs1 q1 q2 q3 => ?_
      have e0 : vp_nar .byte (Int32.ofInt z) = Int32.ofInt (wbyte z) := by rw [vp_nar_byte]; exact (o32 _).symm
      rw [e0] at q1 q2
      have e1 : (hpool tc ad h).set (a - 1) (ad a, .inl (tc 2, (gS h a).2, .inl (upd (fun j => Int32.ofInt (gI h a j)) (Int32.ofInt i).toNatClampNeg (Int32.ofInt (wbyte z))))) = hpool tc ad (sI h a i.toNat (wbyte z)) := by
        refine hpool_set b1 rfl ?_ (tcell_oI tc ad h a i.toNat (wbyte z))
        rw [tcell_102 (h := sI h a i.toNat (wbyte z)) hs9.1, clamp_i wi]
        show _ = Sum.inl (tc 2, (gS h a).2, Sum.inl _)
        rw [← upd_row]; rfl
      rw [e1] at q1 q2
      exact k9.2 hA (wf_sI wf (wbyte_in z)) wl (wvs_c ws1).2 g1 g2 g3 ad H1 locs1 ls he q1 q2 q3 hl
    · cases hx9
theorem go_bastoreZ {r : Option Nat} {i z : Int} {h' : HP} (hx9 : xsZ h r i z = some h') (hd : decode M.2.1 pc = .ok (.bastore, 1)) (hn : pc + 1 = n) (k9 : Go K M Q hf n lv st h') : Go K M Q hf pc lv (vi z :: vi i :: vr r :: st) h := by
  cases r with
  | none => cases hx9
  | some a =>
    unfold xsZ at hx9; simp only at hx9
    split at hx9
    · next hs0 =>
      obtain ⟨hs9, hz⟩ := hs0
      cases hx9
      obtain ⟨p, l, e, R, s, m, args, below, meth, c, D, tc, A, ad0, n0, c0, s0⟩ := K
      obtain ⟨own, cc, nL, ret, d, tb, nm⟩ := M
      subst hn
      refine ⟨k9.1.sI, fun hA wf wl ws g1 g2 g3 ad H locs ls he hR hD hS hl => ?_⟩
      obtain ⟨hx, hb, hml, hown, hts, hK, -⟩ := id hA
      obtain ⟨wz, ws0⟩ := wvs_c ws
      obtain ⟨wi, ws1⟩ := wvs_c ws0
      obtain ⟨b1, b2⟩ := wf.le (show gS h a = ((gS h a).1, (gS h a).2) from rfl) (by omega)
      have hp := hpool_get (tc := tc) (ad := ad) b1 b2
      rw [tcell_103 hs9.1] at hp
      refine va_zast hx hb hK hR hD hS (a - 1) 3 hp rfl (vp_in_i wi hs9.2.1 hs9.2.2) hd fun H1 locs1 q1 q2 q3 => ?_
      have e0 : vp_nar .boolean (Int32.ofInt z) = Int32.ofInt z := by rcases hz with q | q <;> rw [q] <;> rfl
      rw [e0] at q1 q2
      have e1 : (hpool tc ad h).set (a - 1) (ad a, .inl (tc 3, (gS h a).2, .inl (upd (fun j => Int32.ofInt (gI h a j)) (Int32.ofInt i).toNatClampNeg (Int32.ofInt z)))) = hpool tc ad (sI h a i.toNat z) := by
        refine hpool_set b1 rfl ?_ (tcell_oI tc ad h a i.toNat z)
        rw [tcell_103 (h := sI h a i.toNat z) hs9.1, clamp_i wi]
        show _ = Sum.inl (tc 3, (gS h a).2, Sum.inl _)
        rw [← upd_row]; rfl
      rw [e1] at q1 q2
      exact k9.2 hA (wf_sI wf wz) wl (wvs_c ws1).2 g1 g2 g3 ad H1 locs1 ls he q1 q2 q3 hl
    · cases hx9
theorem go_lastore {r : Option Nat} {i z : Int} {h' : HP} (hx9 : xsJ h r i z = some h') (hd : decode M.2.1 pc = .ok (.lastore, 1)) (hn : pc + 1 = n) (k9 : Go K M Q hf n lv st h') : Go K M Q hf pc lv (vl z :: vi i :: vr r :: st) h := by
  cases r with
  | none => cases hx9
  | some a =>
    unfold xsJ at hx9; simp only at hx9
    split at hx9
    · next hs9 =>
      cases hx9
      obtain ⟨p, l, e, R, s, m, args, below, meth, c, D, tc, A, ad0, n0, c0, s0⟩ := K
      obtain ⟨own, cc, nL, ret, d, tb, nm⟩ := M
      subst hn
      refine ⟨k9.1.sJ, fun hA wf wl ws g1 g2 g3 ad H locs ls he hR hD hS hl => ?_⟩
      obtain ⟨hx, hb, hml, hown, hts, hK, -⟩ := id hA
      obtain ⟨wz, ws0⟩ := wvs_c ws
      obtain ⟨wi, ws1⟩ := wvs_c ws0
      obtain ⟨b1, b2⟩ := wf.le (show gS h a = ((gS h a).1, (gS h a).2) from rfl) (by omega)
      have hp := hpool_get (tc := tc) (ad := ad) b1 b2
      rw [tcell_101 hs9.1] at hp
      refine va_last hx hb hK hR hD hS (a - 1) 1 hp rfl (vp_in_i wi hs9.2.1 hs9.2.2) hd fun H1 locs1 q1 q2 q3 => ?_
      have e1 : (hpool tc ad h).set (a - 1) (ad a, .inl (tc 1, (gS h a).2, .inr (.inl (vp_updL (fun j => Int64.ofInt (gJ h a j)) (Int32.ofInt i).toNatClampNeg (Int64.ofInt z))))) = hpool tc ad (sJ h a i.toNat z) := by
        refine hpool_set b1 rfl ?_ (tcell_oJ tc ad h a i.toNat z)
        rw [tcell_101 (h := sJ h a i.toNat z) hs9.1, clamp_i wi]
        show _ = Sum.inl (tc 1, (gS h a).2, Sum.inr (Sum.inl _))
        rw [← upd_rowL]; rfl
      rw [e1] at q1 q2
      exact k9.2 hA (wf_sJ wf wz) wl (wvs_c ws1).2 g1 g2 g3 ad H1 locs1 ls he q1 q2 q3 hl
    · cases hx9
theorem go_aastore {r z : Option Nat} {i : Int} {h' : HP} (hx9 : xsP h r i z = some h') (hd : decode M.2.1 pc = .ok (.aastore, 1)) (hn : pc + 1 = n) (k9 : Go K M Q hf n lv st h') : Go K M Q hf pc lv (vr z :: vi i :: vr r :: st) h := by
  cases r with
  | none => cases hx9
  | some a =>
  cases z with
  | none => cases hx9
  | some b =>
    unfold xsP at hx9; simp only at hx9
    split at hx9
    · next hs0 =>
      obtain ⟨hs9, hsb⟩ := hs0
      cases hx9
      obtain ⟨p, l, e, R, s, m, args, below, meth, c, D, tc, A, ad0, n0, c0, s0⟩ := K
      obtain ⟨own, cc, nL, ret, d, tb, nm⟩ := M
      subst hn
      refine ⟨k9.1.sP, fun hA wf wl ws g1 g2 g3 ad H locs ls he hR hD hS hl => ?_⟩
      obtain ⟨hx, hb, hml, hown, hts, hK, -⟩ := id hA
      obtain ⟨wz, ws0⟩ := wvs_c ws
      obtain ⟨wi, ws1⟩ := wvs_c ws0
      obtain ⟨b1, b2⟩ := wf.le (show gS h a = ((gS h a).1, (gS h a).2) from rfl) (by omega)
      obtain ⟨b3, b4⟩ := wf.le hsb (by omega)
      have hp := hpool_get (tc := tc) (ad := ad) b1 b2
      have hp2 := hpool_get (tc := tc) (ad := ad) b3 b4
      rw [tcell_104 hs9.1] at hp
      rw [tcell_obj hsb (by omega)] at hp2
      refine va_astq (r := (RX2, TX2, 18)) hx hb hK hR hD hS (a - 1) 4 (b - 1) 2 hp rfl hp2 rfl (vp_in_i wi hs9.2.1 hs9.2.2) hd fun H1 locs1 q1 q2 q3 => ?_
      have e1 : (hpool tc ad h).set (a - 1) (ad a, .inl (tc 4, (gS h a).2, .inr (.inr (.inr (.inr (va_up (fun j => (gP h a j).map ad) (Int32.ofInt i).toNatClampNeg (some (ad b)))))))) = hpool tc ad (sP h a i.toNat (some b)) := by
        refine hpool_set b1 rfl ?_ (tcell_oP tc ad h a i.toNat (some b))
        rw [tcell_104 (h := sP h a i.toNat (some b)) hs9.1, clamp_i wi]
        show _ = Sum.inl (tc 4, (gS h a).2, Sum.inr (Sum.inr (Sum.inr (Sum.inr _))))
        rw [← upd_rowP]; rfl
      rw [e1] at q1 q2
      exact k9.2 hA (wf_sP wf wz) wl (wvs_c ws1).2 g1 g2 g3 ad H1 locs1 ls he q1 q2 q3 hl
    · cases hx9
end GOA
