section GOM
variable {K : Ctx} {M : MI} {Q : State → Prop} {hf : HP} {pc n : Nat} {lv : List (Nat × AV)} {st : List AV} {h : HP}
theorem ad_up {n0 g q : Nat} {ad ad0 : Nat → Nat} (he : ∀ r, okr n0 r → ad r = ad0 r) (h1 : n0 ≤ g) (h2 : g < 900000) : ∀ r, okr n0 r → va_up ad (g + 1) q r = ad0 r := by
  intro r hr
  unfold va_up
  rw [if_neg (by unfold okr at hr; omega)]
  exact he r hr
theorem ad_up2 {g q : Nat} {ad : Nat → Nat} (h2 : g < 900000) : ∀ r, okr g r → va_up ad (g + 1) q r = ad r := ad_up (fun _ _ => rfl) (Nat.le_refl _) h2
theorem clamp_t {z : Int} (h0 : 0 ≤ z) (h1 : z ≤ 65536) : ¬ Int32.ofInt z < 0 ∧ (Int32.ofInt z).toNatClampNeg = z.toNat := by
  have hi : in32 z := by unfold in32; omega
  exact ⟨fun q => by have := (o32_lt0 hi).mp q; omega, clamp_i hi⟩
/-- the common part of what makes a thing: the new place is known, the rest goes on -/
theorem go_mk {S : Nat × Nat} {v : AV} {n : Nat} (k9 : Go K M Q hf n lv (vr (some (gn h + 1)) :: st) (alc h S)) (hlt : gn h < 900000)
    {ad : Nat → Nat} {H1 : Heap} {locs : List Loc} {ls : Array Slot} {q : Nat} {e1 : va_E}
    (hA : Am K.1 K.2.1 K.2.2.2.1 (kS K) K.2.2.2.2.2.1 (kArgs K) K.2.2.2.2.2.2.2.2.1 K.2.2.2.2.2.2.2.2.2.1 (kD K) (kTc K) (kA K) (kAd K) (kN K) (kC K) (kSl K) M.1 M.2.1 M.2.2.1 M.2.2.2.1 M.2.2.2.2.1 M.2.2.2.2.2.1 M.2.2.2.2.2.2 hf)
    (wf : WFh h) (wl : wvl (gn h) lv) (ws : wvs (gn h) st) (g1 : kN K ≤ gn h) (g2 : kC K ≤ gc h) (g3 : kSl K ≤ gs h) (he : ∀ r, okr (kN K) r → ad r = (kAd K) r) (hcell : tcell (kTc K) (va_up ad (gn h + 1) q) (alc h S) (gn h + 1) = e1)
    (hR : va_P (kD K) vwCl (hpool (kTc K) ad h ++ [(q, e1)]) H1) (hD : va_D (kA K) (hpool (kTc K) ad h ++ [(q, e1)])) (hS : va_S (kA K) (kS K).heap H1 locs) (hl : lv_has ls M.2.2.1 (tl ad lv)) :
    W K.1 K.2.1 K.2.2.1 K.2.2.2.1 (kS K) K.2.2.2.2.2.1 (kArgs K) (kBelow K) K.2.2.2.2.2.2.2.2.1 K.2.2.2.2.2.2.2.2.2.1 H1 locs (gc h - kC K + 1) (gs h - kSl K + S.2) Q (F0 K.2.2.2.2.2.1 n ls (.ref q :: st.map (tv ad))) := by
  rw [hpool_push wf hlt hcell] at hR hD
  have wv9 : wv (gn (alc h S)) (vr (some (gn h + 1))) := fun a e => by cases e; exact Or.inl (Nat.le_refl _)
  have kk := k9.2 hA (wf_alc wf hlt) (fun q9 h9 => (wl q9 h9).up (Nat.le_succ _)) (wvs_k wv9 (fun v9 h9 => (ws v9 h9).up (Nat.le_succ _))) (Nat.le_trans g1 (Nat.le_succ _)) (Nat.le_trans g2 (Nat.le_succ _)) (Nat.le_trans g3 (Nat.le_add_right _ _)) (va_up ad (gn h + 1) q) H1 locs ls (ad_up he g1 hlt) hR hD hS (by rw [tl_ext (ad_up2 hlt) wl]; exact hl)
  have e3 : (vr (some (gn h + 1)) :: st).map (tv (va_up ad (gn h + 1) q)) = .ref q :: st.map (tv ad) := by
    rw [List.map_cons, tvs_ext (ad_up2 hlt) ws]
    congr 1
    show va_rf (some (va_up ad (gn h + 1) q (gn h + 1))) = _
    unfold va_up; rw [if_pos rfl]; rfl
  rw [e3] at kk
  have c1 : gc (alc h S) - kC K = gc h - kC K + 1 := by show gc h + 1 - kC K = _; omega
  have c2 : gs (alc h S) - kSl K = gs h - kSl K + S.2 := by show gs h + S.2 - kSl K = _; omega
  unfold kC at c1
  unfold kSl at c2
  rw [c1, c2] at kk
  exact kk
theorem mk_room {K : Ctx} {M : MI} {S : Nat × Nat} (hA : Am K.1 K.2.1 K.2.2.2.1 (kS K) K.2.2.2.2.2.1 (kArgs K) K.2.2.2.2.2.2.2.2.1 K.2.2.2.2.2.2.2.2.2.1 (kD K) (kTc K) (kA K) (kAd K) (kN K) (kC K) (kSl K) M.1 M.2.1 M.2.2.1 M.2.2.2.1 M.2.2.2.2.1 M.2.2.2.2.2.1 M.2.2.2.2.2.2 hf) (hm : Mo (alc h S) hf) (g2 : kC K ≤ gc h) (g3 : kSl K ≤ gs h) : gc h - kC K + 1 ≤ (K.2.2.2.1).cells ∧ gs h - kSl K + S.2 ≤ (K.2.2.2.1).slots := by
  obtain ⟨-, -, -, -, -, -, -, -, -, -, ⟨-, -, r1, r2⟩, -⟩ := hA
  have m1 : gc h + 1 ≤ gc hf := hm.1
  have m2 : gs h + S.2 ≤ gs hf := hm.2
  omega
theorem tyl_I {D : va_G} {tc : Nat → ClassId} {s : State} {cA : ClassId} {ty : FieldType} (i : Nat) (hK : va_K D vwCl (tyl tc) s) (hK' : va_K D vwCl (tyl tc ++ [(cA, ty)]) s) (hi : (tyl tc)[i]? = some (tc i, ty)) : cA = tc i := by
  have h1 := (hK.2 i _ hi).2
  have h2 := (hK'.2 5 (cA, ty) rfl).2
  cases ty with
  | object C =>
    obtain ⟨kA, comp, -, -, -, e1⟩ := h1
    obtain ⟨kB, comp2, -, -, -, e2⟩ := h2
    exact Option.some.inj (e2.symm.trans e1)
  | _ => exact Option.some.inj (h2.symm.trans h1)
theorem go_newI {z : Int} {h' : HP} (hx9 : xna h 100 z = some h') (hd : decode M.2.1 pc = .ok (.newarray .int, 2)) (hn : pc + 2 = n) (hw : Cond.arrayClass .int ∈ BW) (k9 : Go K M Q hf n lv (vr (some (gn h')) :: st) h') : Go K M Q hf pc lv (vi z :: st) h := by
  unfold xna at hx9
  split at hx9
  · next hs9 =>
    cases hx9
    subst hn
    refine ⟨k9.1.alc, fun hA wf wl ws g1 g2 g3 ad H locs ls he hR hD hS hl => ?_⟩
    obtain ⟨hx, hb, hml, hown, hts, hK, -, -, -, hAA, -⟩ := id hA
    obtain ⟨r1, r2⟩ := mk_room (S := (100, z.toNat)) hA k9.1 g2 g3
    obtain ⟨t1, t2⟩ := clamp_t hs9.1 hs9.2.1
    refine va_newa (atype := .int) (ty := .int) (a0 := (z.toNat, .inl (fun _ => 0))) hx hb (hts _ hw) rfl hK hR hD hS hAA (fun cA => rfl) t1 t2 (by show z.toNat * 4 ≤ _; omega) r1 r2 hd fun q cA H1 hK1 hP1 hD1 hS1 => ?_
    have ec := tyl_I 0 hK hK1 rfl
    subst ec
    refine go_mk (v := vi z) k9 hs9.2.2 hA wf wl (wvs_c ws).2 g1 g2 g3 he ?_ hP1 hD1 hS1 hl
    rw [tcell_100 (by rw [gS_alc, if_pos rfl])]
    show Sum.inl (_, (gS (alc h (100, z.toNat)) (gn h + 1)).2, Sum.inl _) = _
    rw [gS_alc, if_pos rfl]
    congr 4
    funext i
    rw [gI_alc, if_pos rfl]; rfl
  · cases hx9
theorem go_newJ {z : Int} {h' : HP} (hx9 : xna h 101 z = some h') (hd : decode M.2.1 pc = .ok (.newarray .long, 2)) (hn : pc + 2 = n) (hw : Cond.arrayClass .long ∈ BW) (k9 : Go K M Q hf n lv (vr (some (gn h')) :: st) h') : Go K M Q hf pc lv (vi z :: st) h := by
  unfold xna at hx9
  split at hx9
  · next hs9 =>
    cases hx9
    subst hn
    refine ⟨k9.1.alc, fun hA wf wl ws g1 g2 g3 ad H locs ls he hR hD hS hl => ?_⟩
    obtain ⟨hx, hb, hml, hown, hts, hK, -, -, -, hAA, -⟩ := id hA
    obtain ⟨r1, r2⟩ := mk_room (S := (101, z.toNat)) hA k9.1 g2 g3
    obtain ⟨t1, t2⟩ := clamp_t hs9.1 hs9.2.1
    refine va_newa (atype := .long) (ty := .long) (a0 := (z.toNat, .inr (.inl (fun _ => 0)))) hx hb (hts _ hw) rfl hK hR hD hS hAA (fun cA => rfl) t1 t2 (by show z.toNat * 8 ≤ _; omega) r1 r2 hd fun q cA H1 hK1 hP1 hD1 hS1 => ?_
    have ec := tyl_I 1 hK hK1 rfl
    subst ec
    refine go_mk (v := vi z) k9 hs9.2.2 hA wf wl (wvs_c ws).2 g1 g2 g3 he ?_ hP1 hD1 hS1 hl
    rw [tcell_101 (by rw [gS_alc, if_pos rfl])]
    show Sum.inl (_, (gS (alc h (101, z.toNat)) (gn h + 1)).2, Sum.inr (Sum.inl _)) = _
    rw [gS_alc, if_pos rfl]
    congr 5
    funext i
    rw [gJ_alc, if_pos rfl]; rfl
  · cases hx9
theorem go_newB {z : Int} {h' : HP} (hx9 : xna h 102 z = some h') (hd : decode M.2.1 pc = .ok (.newarray .byte, 2)) (hn : pc + 2 = n) (hw : Cond.arrayClass .byte ∈ BW) (k9 : Go K M Q hf n lv (vr (some (gn h')) :: st) h') : Go K M Q hf pc lv (vi z :: st) h := by
  unfold xna at hx9
  split at hx9
  · next hs9 =>
    cases hx9
    subst hn
    refine ⟨k9.1.alc, fun hA wf wl ws g1 g2 g3 ad H locs ls he hR hD hS hl => ?_⟩
    obtain ⟨hx, hb, hml, hown, hts, hK, -, -, -, hAA, -⟩ := id hA
    obtain ⟨r1, r2⟩ := mk_room (S := (102, z.toNat)) hA k9.1 g2 g3
    obtain ⟨t1, t2⟩ := clamp_t hs9.1 hs9.2.1
    refine va_newa (atype := .byte) (ty := .byte) (a0 := (z.toNat, .inl (fun _ => 0))) hx hb (hts _ hw) rfl hK hR hD hS hAA (fun cA => rfl) t1 t2 (by show z.toNat * 1 ≤ _; omega) r1 r2 hd fun q cA H1 hK1 hP1 hD1 hS1 => ?_
    have ec := tyl_I 2 hK hK1 rfl
    subst ec
    refine go_mk (v := vi z) k9 hs9.2.2 hA wf wl (wvs_c ws).2 g1 g2 g3 he ?_ hP1 hD1 hS1 hl
    rw [tcell_102 (by rw [gS_alc, if_pos rfl])]
    show Sum.inl (_, (gS (alc h (102, z.toNat)) (gn h + 1)).2, Sum.inl _) = _
    rw [gS_alc, if_pos rfl]
    congr 4
    funext i
    rw [gI_alc, if_pos rfl]; rfl
  · cases hx9
theorem go_newZ {z : Int} {h' : HP} (hx9 : xna h 103 z = some h') (hd : decode M.2.1 pc = .ok (.newarray .boolean, 2)) (hn : pc + 2 = n) (hw : Cond.arrayClass .boolean ∈ BW) (k9 : Go K M Q hf n lv (vr (some (gn h')) :: st) h') : Go K M Q hf pc lv (vi z :: st) h := by
  unfold xna at hx9
  split at hx9
  · next hs9 =>
    cases hx9
    subst hn
    refine ⟨k9.1.alc, fun hA wf wl ws g1 g2 g3 ad H locs ls he hR hD hS hl => ?_⟩
    obtain ⟨hx, hb, hml, hown, hts, hK, -, -, -, hAA, -⟩ := id hA
    obtain ⟨r1, r2⟩ := mk_room (S := (103, z.toNat)) hA k9.1 g2 g3
    obtain ⟨t1, t2⟩ := clamp_t hs9.1 hs9.2.1
    refine va_newa (atype := .boolean) (ty := .boolean) (a0 := (z.toNat, .inl (fun _ => 0))) hx hb (hts _ hw) rfl hK hR hD hS hAA (fun cA => rfl) t1 t2 (by show z.toNat * 1 ≤ _; omega) r1 r2 hd fun q cA H1 hK1 hP1 hD1 hS1 => ?_
    have ec := tyl_I 3 hK hK1 rfl
    subst ec
    refine go_mk (v := vi z) k9 hs9.2.2 hA wf wl (wvs_c ws).2 g1 g2 g3 he ?_ hP1 hD1 hS1 hl
    rw [tcell_103 (by rw [gS_alc, if_pos rfl])]
    show Sum.inl (_, (gS (alc h (103, z.toNat)) (gn h + 1)).2, Sum.inl _) = _
    rw [gS_alc, if_pos rfl]
    congr 4
    funext i
    rw [gI_alc, if_pos rfl]; rfl
  · cases hx9
theorem go_newP {z : Int} {i : Nat} {h' : HP} (hx9 : xna h 104 z = some h') (hd : decode M.2.1 pc = .ok (.anewarray i, 3)) (hn : pc + 3 = n) (hw : Cond.classLink M.1 i "TeaNight$Job" ∈ BW) (k9 : Go K M Q hf n lv (vr (some (gn h')) :: st) h') : Go K M Q hf pc lv (vi z :: st) h := by
  unfold xna at hx9
  split at hx9
  · next hs9 =>
    cases hx9
    subst hn
    refine ⟨k9.1.alc, fun hA wf wl ws g1 g2 g3 ad H locs ls he hR hD hS hl => ?_⟩
    obtain ⟨hx, hb, hml, hown, hts, hK, -, -, hSF, hAA, -⟩ := id hA
    obtain ⟨r1, r2⟩ := mk_room (S := (104, z.toNat)) hA k9.1 g2 g3
    obtain ⟨t1, t2⟩ := clamp_t hs9.1 hs9.2.1
    refine va_newq (C := "TeaNight$Job") hx hb hown (hts _ hw) hSF.2.2.2.2.2.2.2.1 hK hR hD hS hAA t1 t2 (by omega) r1 r2 hd fun q cA H1 hK1 hP1 hD1 hS1 => ?_
    have ec := tyl_I 4 hK hK1 rfl
    subst ec
    refine go_mk (v := vi z) k9 hs9.2.2 hA wf wl (wvs_c ws).2 g1 g2 g3 he ?_ hP1 hD1 hS1 hl
    rw [tcell_104 (by rw [gS_alc, if_pos rfl])]
    show Sum.inl (_, (gS (alc h (104, z.toNat)) (gn h + 1)).2, Sum.inr (Sum.inr (Sum.inr (Sum.inr _)))) = _
    rw [gS_alc, if_pos rfl]
    congr 7
    funext i
    rw [gP_alc, if_pos rfl]; rfl
  · cases hx9
def fok (t : FieldType) : Bool := match t with
  | .float => false
  | .double => false
  | _ => true
/-- the words of a class whose objects are made -/
def NL (own : String) (i ci N : Nat) : Prop := ∃ (C : String) (T : u_T), CI ci C T N ∧ Cond.classLink own i C ∈ BW ∧ Cond.instantiable C N ∈ BW ∧ Cond.initialized C ∈ BW ∧ ∀ k, k < N → fok (ftp ci k) = true
theorem go_new {h' : HP} {i ci N : Nat} (hx9 : xnw h ci N = some h') (hN : NL M.1 i ci N) (hd : decode M.2.1 pc = .ok (.new i, 3)) (hn : pc + 3 = n) (k9 : Go K M Q hf n lv (vr (some (gn h')) :: st) h') : Go K M Q hf pc lv st h := by
  unfold xnw at hx9
  split at hx9
  · next hs9 =>
    cases hx9
    subst hn
    obtain ⟨C, T, ⟨hC, hin, hty, hnm, hlt⟩, w1, w2, w3, w4⟩ := hN
    refine ⟨k9.1.alc, fun hA wf wl ws g1 g2 g3 ad H locs ls he hR hD hS hl => ?_⟩
    obtain ⟨hx, hb, hml, hown, hts, hK, -, -, -, hAA, -⟩ := id hA
    obtain ⟨r1, r2⟩ := mk_room (S := (ci, N)) hA k9.1 g2 g3
    refine va_new (ci := ci) (C := C) (T := T) (N := N) (fs := (List.range N).map (fun k => defaultValue (ftp ci k))) hx hb hts hin (ftp ci) hty hown (hts _ w1) (hts _ w2) (hts _ w3) hK hR hD hS hAA hC (fun j hj => by unfold vp_V; rw [List.getD_eq_getElem?_getD, fs_get hj]; rfl) r1 r2 hd fun q H1 hP1 hD1 hS1 => ?_
    refine go_mk (v := vi 0) k9 hs9 hA wf wl ws g1 g2 g3 he ?_ hP1 hD1 hS1 hl
    rw [tcell_obj (ci := ci) (N := N) (by rw [gS_alc, if_pos rfl]) hlt]
    congr 2
    apply List.map_congr_left
    intro k hk9
    have hk8 := w4 k (List.mem_range.mp hk9)
    unfold tfld
    rw [gI_alc, if_pos rfl, gJ_alc, if_pos rfl, gP_alc, if_pos rfl]
    cases e : ftp ci k <;> rw [e] at hk8 <;> first | rfl | cases hk8
  · cases hx9
end GOM
