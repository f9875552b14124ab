/-! reading and writing the abstract heap, and the machine's instructions that do so -/
def xgI (h : HP) (r : Option Nat) (ci N k : Nat) : Option Int := match r with
  | none => none
  | some a => if gS h a = (ci, N) then some (gI h a k) else none
def xgJ (h : HP) (r : Option Nat) (ci N k : Nat) : Option Int := match r with
  | none => none
  | some a => if gS h a = (ci, N) then some (gJ h a k) else none
def xgP (h : HP) (r : Option Nat) (ci N k : Nat) : Option (Option Nat) := match r with
  | none => none
  | some a => if gS h a = (ci, N) then some (gP h a k) else none
def xpI (h : HP) (r : Option Nat) (ci N k : Nat) (z : Int) : Option HP := match r with
  | none => none
  | some a => if gS h a = (ci, N) then some (sI h a k z) else none
def xpZ (h : HP) (r : Option Nat) (ci N k : Nat) (z : Int) : Option HP := match r with
  | none => none
  | some a => if gS h a = (ci, N) ∧ (z = 0 ∨ z = 1) then some (sI h a k z) else none
def xpJ (h : HP) (r : Option Nat) (ci N k : Nat) (z : Int) : Option HP := match r with
  | none => none
  | some a => if gS h a = (ci, N) then some (sJ h a k z) else none
def xpP (h : HP) (r : Option Nat) (ci N k : Nat) (z : Option Nat) : Option HP := match r with
  | none => none
  | some a => if gS h a = (ci, N) then some (sP h a k z) else none
def xaI (h : HP) (r : Option Nat) (t : Nat) (i : Int) : Option Int := match r with
  | none => none
  | some a => if (gS h a).1 = t ∧ 0 ≤ i ∧ i < (gS h a).2 then some (gI h a i.toNat) else none
def xaJ (h : HP) (r : Option Nat) (i : Int) : Option Int := match r with
  | none => none
  | some a => if (gS h a).1 = 101 ∧ 0 ≤ i ∧ i < (gS h a).2 then some (gJ h a i.toNat) else none
def xaP (h : HP) (r : Option Nat) (i : Int) : Option (Option Nat) := match r with
  | none => none
  | some a => if (gS h a).1 = 104 ∧ 0 ≤ i ∧ i < (gS h a).2 then some (gP h a i.toNat) else none
def xsI (h : HP) (r : Option Nat) (i z : Int) : Option HP := match r with
  | none => none
  | some a => if (gS h a).1 = 100 ∧ 0 ≤ i ∧ i < (gS h a).2 then some (sI h a i.toNat z) else none
def xsB (h : HP) (r : Option Nat) (i z : Int) : Option HP := match r with
  | none => none
  | some a => if (gS h a).1 = 102 ∧ 0 ≤ i ∧ i < (gS h a).2 then some (sI h a i.toNat (wbyte z)) else none
def xsZ (h : HP) (r : Option Nat) (i z : Int) : Option HP := match r with
  | none => none
  | some a => if ((gS h a).1 = 103 ∧ 0 ≤ i ∧ i < (gS h a).2) ∧ (z = 0 ∨ z = 1) then some (sI h a i.toNat z) else none
def xsJ (h : HP) (r : Option Nat) (i z : Int) : Option HP := match r with
  | none => none
  | some a => if (gS h a).1 = 101 ∧ 0 ≤ i ∧ i < (gS h a).2 then some (sJ h a i.toNat z) else none
def xsP (h : HP) (r : Option Nat) (i : Int) (z : Option Nat) : Option HP := match r, z with
  | some a, some b => if ((gS h a).1 = 104 ∧ 0 ≤ i ∧ i < (gS h a).2) ∧ gS h b = (2, 18) then some (sP h a i.toNat (some b)) else none
  | _, _ => none
def xal (h : HP) (r : Option Nat) : Option Int := match r with
  | none => none
  | some a => if 100 ≤ (gS h a).1 ∧ (gS h a).1 ≤ 104 ∧ (gS h a).2 ≤ 65536 then some ((gS h a).2 : Int) else none
/-- a new array of n places of the kind t -/
def xna (h : HP) (t : Nat) (n : Int) : Option HP := if 0 ≤ n ∧ n ≤ 65536 ∧ gn h < 900000 then some (alc h (t, n.toNat)) else none
def xnw (h : HP) (ci N : Nat) : Option HP := if gn h < 900000 then some (alc h (ci, N)) else none
/-- the receiver of a call: not null, of its class -/
def xrc (h : HP) (r : Option Nat) (ci N : Nat) : Option Nat := match r with
  | none => none
  | some a => if gS h a = (ci, N) then some a else none
/-- a piece of an array is copied into another one -/
def xcp (h : HP) (r : Option Nat) (i : Int) (r' : Option Nat) (j m : Int) : Option HP := match r, r' with
  | some a, some b => if (gS h a).1 = 100 ∧ (gS h b).1 = 100 ∧ 0 ≤ i ∧ 0 ≤ j ∧ 0 ≤ m ∧ i + m ≤ (gS h a).2 ∧ j + m ≤ (gS h b).2 ∧ m < 1000000 then some (sIr h b (fun k => if j.toNat ≤ k ∧ k < j.toNat + m.toNat then gI h a (i.toNat + (k - j.toNat)) else gI h b k)) else none
  | _, _ => none
def FL (own : String) (i ci N k : Nat) (fin : Bool) : Prop := ∃ (C : String) (T : u_T), CI ci C T N ∧ k < N ∧ Cond.fieldLink own i C (T k).2.1 (T k).2.2.1 ∈ BW ∧ (T k).1 = C ∧ (T k).2.2.2 = fin
def ftpI (t : FieldType) : Bool := match t with
  | .int => true
  | .boolean => true
  | _ => false
def ftpP (t : FieldType) : Bool := match t with
  | .object _ => true
  | .array _ => true
  | _ => false
theorem tfld_I {h : HP} {ad : Nat → Nat} {ci a k : Nat} (hf : ftpI (ftp ci k) = true) : tfld h ad ci a k = tv ad (vi (gI h a k)) := by
  unfold tfld
  cases e : ftp ci k <;> rw [e] at hf <;> first | rfl | cases hf
theorem tfld_J {h : HP} {ad : Nat → Nat} {ci a k : Nat} (hf : ftp ci k = .long) : tfld h ad ci a k = tv ad (vl (gJ h a k)) := by
  unfold tfld; rw [hf]; rfl
theorem tfld_P {h : HP} {ad : Nat → Nat} {ci a k : Nat} (hf : ftpP (ftp ci k) = true) : tfld h ad ci a k = tv ad (vr (gP h a k)) := by
  unfold tfld
  cases e : ftp ci k <;> rw [e] at hf <;> first | rfl | cases hf
theorem tcell_obj {tc : Nat → ClassId} {ad : Nat → Nat} {h : HP} {a ci N : Nat} (hs : gS h a = (ci, N)) (hc : ci < 99) : tcell tc ad h a = .inr (ci, (List.range N).map (tfld h ad ci a)) := by
  unfold tcell
  rw [hs]
  show (if ci = 100 then _ else _) = _
  rw [if_neg (by omega), if_neg (show ¬ ci = 101 by omega), if_neg (show ¬ ci = 102 by omega), if_neg (show ¬ ci = 103 by omega), if_neg (show ¬ ci = 104 by omega)]
theorem tcell_100 {tc : Nat → ClassId} {ad : Nat → Nat} {h : HP} {a : Nat} (hs : (gS h a).1 = 100) : tcell tc ad h a = .inl (tc 0, (gS h a).2, .inl (fun i => Int32.ofInt (gI h a i))) := by unfold tcell; rw [if_pos hs]
theorem tcell_101 {tc : Nat → ClassId} {ad : Nat → Nat} {h : HP} {a : Nat} (hs : (gS h a).1 = 101) : tcell tc ad h a = .inl (tc 1, (gS h a).2, .inr (.inl (fun i => Int64.ofInt (gJ h a i)))) := by unfold tcell; rw [if_neg (by omega), if_pos hs]
theorem tcell_102 {tc : Nat → ClassId} {ad : Nat → Nat} {h : HP} {a : Nat} (hs : (gS h a).1 = 102) : tcell tc ad h a = .inl (tc 2, (gS h a).2, .inl (fun i => Int32.ofInt (gI h a i))) := by unfold tcell; rw [if_neg (by omega), if_neg (by omega), if_pos hs]
theorem tcell_103 {tc : Nat → ClassId} {ad : Nat → Nat} {h : HP} {a : Nat} (hs : (gS h a).1 = 103) : tcell tc ad h a = .inl (tc 3, (gS h a).2, .inl (fun i => Int32.ofInt (gI h a i))) := by unfold tcell; rw [if_neg (by omega), if_neg (by omega), if_neg (by omega), if_pos hs]
theorem tcell_104 {tc : Nat → ClassId} {ad : Nat → Nat} {h : HP} {a : Nat} (hs : (gS h a).1 = 104) : tcell tc ad h a = .inl (tc 4, (gS h a).2, .inr (.inr (.inr (.inr (fun i => (gP h a i).map ad))))) := by unfold tcell; rw [if_neg (by omega), if_neg (by omega), if_neg (by omega), if_neg (by omega), if_pos hs]
theorem upd2_ne {α : Type} {f : Nat → Nat → α} {a k x y : Nat} {v : α} (hx : x ≠ a) : upd2 f a k v x y = f x y := by unfold upd2; rw [if_neg (fun q => hx q.1)]
theorem upd2_eq {α : Type} {f : Nat → Nat → α} {a k : Nat} {v : α} : upd2 f a k v a k = v := by unfold upd2; rw [if_pos ⟨rfl, rfl⟩]
theorem upd2_nk {α : Type} {f : Nat → Nat → α} {a k x y : Nat} {v : α} (hy : y ≠ k) : upd2 f a k v x y = f x y := by unfold upd2; rw [if_neg (fun q => hy q.2)]
theorem upd2_row {α : Type} (f : Nat → Nat → α) (a k : Nat) (v : α) : upd2 f a k v a = fun y => if y = k then v else f a y := by
  funext y; unfold upd2; by_cases c : y = k
  · rw [if_pos ⟨rfl, c⟩, if_pos c]
  · rw [if_neg (fun q => c q.2), if_neg c]
theorem tcell_oI (tc : Nat → ClassId) (ad : Nat → Nat) (h : HP) (a k : Nat) (z : Int) (x : Nat) (hx : x ≠ a) : tcell tc ad (sI h a k z) x = tcell tc ad h x := by
  have e : ∀ y, gI (sI h a k z) x y = gI h x y := fun y => upd2_ne hx
  have e2 : ∀ c y, tfld (sI h a k z) ad c x y = tfld h ad c x y := fun c y => by unfold tfld; rw [e y]; rfl
  unfold tcell; simp only [e, e2]; rfl
theorem tcell_oJ (tc : Nat → ClassId) (ad : Nat → Nat) (h : HP) (a k : Nat) (z : Int) (x : Nat) (hx : x ≠ a) : tcell tc ad (sJ h a k z) x = tcell tc ad h x := by
  have e : ∀ y, gJ (sJ h a k z) x y = gJ h x y := fun y => upd2_ne hx
  have e2 : ∀ c y, tfld (sJ h a k z) ad c x y = tfld h ad c x y := fun c y => by unfold tfld; rw [e y]; rfl
  unfold tcell; simp only [e, e2]; rfl
theorem tcell_oP (tc : Nat → ClassId) (ad : Nat → Nat) (h : HP) (a k : Nat) (z : Option Nat) (x : Nat) (hx : x ≠ a) : tcell tc ad (sP h a k z) x = tcell tc ad h x := by
  have e : ∀ y, gP (sP h a k z) x y = gP h x y := fun y => upd2_ne hx
  have e2 : ∀ c y, tfld (sP h a k z) ad c x y = tfld h ad c x y := fun c y => by unfold tfld; rw [e y]; rfl
  unfold tcell; simp only [e, e2]; rfl
theorem tcell_oIr (tc : Nat → ClassId) (ad : Nat → Nat) (h : HP) (a : Nat) (g : Nat → Int) (x : Nat) (hx : x ≠ a) : tcell tc ad (sIr h a g) x = tcell tc ad h x := by
  have e : ∀ y, gI (sIr h a g) x y = gI h x y := fun y => by show updr h.1 a g x y = _; unfold updr; rw [if_neg hx]; rfl
  have e2 : ∀ c y, tfld (sIr h a g) ad c x y = tfld h ad c x y := fun c y => by unfold tfld; rw [e y]; rfl
  unfold tcell; simp only [e, e2]; rfl
theorem fs_set {N k : Nat} {f g : Nat → Value} {v : Value} (hk : g k = v) (ho : ∀ j, j ≠ k → g j = f j) : ((List.range N).map f).set k v = (List.range N).map g := by
  apply List.ext_getElem?
  intro i
  rw [List.getElem?_set]
  by_cases c : k = i
  · subst c
    rw [if_pos rfl]
    by_cases l : k < N
    · rw [if_pos (by simpa using l), List.getElem?_map, List.getElem?_range l, ← hk]; rfl
    · rw [if_neg (by simpa using l), List.getElem?_eq_none (by simp; omega)]
  · rw [if_neg c, List.getElem?_map, List.getElem?_map]
    by_cases l : i < N
    · rw [List.getElem?_range l]; simp only [Option.map_some]; rw [ho i (fun q => c q.symm)]
    · rw [List.getElem?_eq_none (by simp; omega)]; rfl
theorem fs_get {N k : Nat} {f : Nat → Value} (hk : k < N) : ((List.range N).map f)[k]? = some (f k) := by
  rw [List.getElem?_map, List.getElem?_range hk]; rfl
theorem wf_sI {h : HP} {a k : Nat} {z : Int} (w : WFh h) (hz : in32 z) : WFh (sI h a k z) := by
  refine ⟨fun x y => ?_, w.2⟩
  show in32 (upd2 h.1 a k z x y)
  unfold upd2; split
  · exact hz
  · exact w.1 x y
theorem wf_sJ {h : HP} {a k : Nat} {z : Int} (w : WFh h) (hz : in64 z) : WFh (sJ h a k z) := by
  refine ⟨w.1, fun x y => ?_, w.2.2⟩
  show in64 (upd2 h.2.1 a k z x y)
  unfold upd2; split
  · exact hz
  · exact w.2.1 x y
theorem wf_sP {h : HP} {a k : Nat} {z : Option Nat} (w : WFh h) (hz : ∀ r, z = some r → okr (gn h) r) : WFh (sP h a k z) := by
  refine ⟨w.1, w.2.1, fun x y r => ?_, w.2.2.2⟩
  show upd2 h.2.2.1 a k z x y = some r → okr (gn h) r
  unfold upd2; split
  · exact hz r
  · exact w.2.2.1 x y r
theorem wf_sIr {h : HP} {a : Nat} {g : Nat → Int} (w : WFh h) (hz : ∀ y, in32 (g y)) : WFh (sIr h a g) := by
  refine ⟨fun x y => ?_, w.2⟩
  show in32 (updr h.1 a g x y)
  unfold updr; split
  · exact hz y
  · exact w.1 x y
section GOH
variable {K : Ctx} {M : MI} {Q : State → Prop} {hf : HP} {pc n : Nat} {lv : List (Nat × AV)} {st : List AV} {h : HP}
theorem go_getV {a i ci N k : Nat} {fin : Bool} {v : AV} (hs9 : gS h a = (ci, N)) (hv9 : ∀ ad, tfld h ad ci a k = tv ad v) (hw9 : WFh h → wv (gn h) v) (hF : FL M.1 i ci N k fin) (hd : decode M.2.1 pc = .ok (.getfield i, 3)) (hn : pc + 3 = n) (k9 : Go K M Q hf n lv (v :: st) h) : Go K M Q hf pc lv (vr (some a) :: st) h := by
  obtain ⟨p, l, e, R, s, m, args, below, meth, c, D, tc, A, ad0, n0, c0, s0⟩ := K
  obtain ⟨own, cc, nL, ret, d, tb, nm⟩ := M
  subst hn
  obtain ⟨C, T, ⟨hC, hin, hty, hnm, hlt⟩, hk, hlink, hT, -⟩ := hF
  refine ⟨k9.1, fun hA wf wl ws g1 g2 g3 ad H locs ls he hR hD hS hl => ?_⟩
  obtain ⟨hx, hb, hml, hown, hts, hK, -⟩ := id hA
  have kk := k9.2 hA wf wl (wvs_k (hw9 wf) (wvs_c ws).2) g1 g2 g3 ad H locs ls he hR hD hS hl
  obtain ⟨b1, b2⟩ := wf.le hs9 (by omega)
  have hp := hpool_get (tc := tc) (ad := ad) b1 b2
  rw [tcell_obj hs9 hlt] at hp
  exact va_get (C := C) (T := T) (N := N) hx hb hts hin hown hK hR (a - 1) hp hC k hk (hts _ hlink) (fun x9 h9 => by rw [hT] at h9; exact h9) (by rw [fs_get hk, hv9 ad]) hd kk
theorem go_getI {r : Option Nat} {z : Int} {i ci N k : Nat} {fin : Bool} (hx9 : xgI h r ci N k = some z) (hF : FL M.1 i ci N k fin) (hf9 : ftpI (ftp ci k) = true) (hd : decode M.2.1 pc = .ok (.getfield i, 3)) (hn : pc + 3 = n) (k9 : Go K M Q hf n lv (vi z :: st) h) : Go K M Q hf pc lv (vr r :: st) h := by
  cases r with
  | none => cases hx9
  | some a =>
    unfold xgI at hx9; simp only at hx9
    split at hx9
    · next hs9 => cases hx9; exact go_getV hs9 (fun ad => tfld_I hf9) (fun w => w.1 a k) hF hd hn k9
    · cases hx9
theorem go_getJ {r : Option Nat} {z : Int} {i ci N k : Nat} {fin : Bool} (hx9 : xgJ h r ci N k = some z) (hF : FL M.1 i ci N k fin) (hf9 : ftp ci k = .long) (hd : decode M.2.1 pc = .ok (.getfield i, 3)) (hn : pc + 3 = n) (k9 : Go K M Q hf n lv (vl z :: st) h) : Go K M Q hf pc lv (vr r :: st) h := by
  cases r with
  | none => cases hx9
  | some a =>
    unfold xgJ at hx9; simp only at hx9
    split at hx9
    · next hs9 => cases hx9; exact go_getV hs9 (fun ad => tfld_J hf9) (fun w => w.2.1 a k) hF hd hn k9
    · cases hx9
theorem go_getP {r z : Option Nat} {i ci N k : Nat} {fin : Bool} (hx9 : xgP h r ci N k = some z) (hF : FL M.1 i ci N k fin) (hf9 : ftpP (ftp ci k) = true) (hd : decode M.2.1 pc = .ok (.getfield i, 3)) (hn : pc + 3 = n) (k9 : Go K M Q hf n lv (vr z :: st) h) : Go K M Q hf pc lv (vr r :: st) h := by
  cases r with
  | none => cases hx9
  | some a =>
    unfold xgP at hx9; simp only at hx9
    split at hx9
    · next hs9 => cases hx9; exact go_getV hs9 (fun ad => tfld_P hf9) (fun w => w.2.2.1 a k) hF hd hn k9
    · cases hx9
theorem go_putV {a i ci N k : Nat} {v : AV} {h' : HP} (hs9 : gS h a = (ci, N)) (hn9 : ∀ ad, narrow (ftp ci k) (tv ad v) = tv ad v) (hf9 : ∀ ad, fits (ftp ci k) (tv ad v) = true) (hv9 : ∀ ad, tfld h' ad ci a k = tv ad v) (ho9 : ∀ ad j, j ≠ k → tfld h' ad ci a j = tfld h ad ci a j) (hx9 : ∀ tc ad x, x ≠ a → tcell tc ad h' x = tcell tc ad h x) (hcn : gn h' = gn h ∧ gc h' = gc h ∧ gs h' = gs h) (hS9 : gS h' = gS h) (hw9 : WFh h → wv (gn h) v → WFh h')
    (hF : FL M.1 i ci N k false) (hd : decode M.2.1 pc = .ok (.putfield i, 3)) (hn : pc + 3 = n) (k9 : Go K M Q hf n lv st h') : Go K M Q hf pc lv (v :: vr (some a) :: st) h := by
  obtain ⟨p, l, e, R, s, m, args, below, meth, c, D, tc, A, ad0, n0, c0, s0⟩ := K
  obtain ⟨own, cc, nL, ret, d, tb, nm⟩ := M
  subst hn
  obtain ⟨C, T, ⟨hC, hin, hty, hnm, hlt⟩, hk, hlink, hT, hfin⟩ := hF
  obtain ⟨c1, c2, c3⟩ := hcn
  have hmo : Mo h hf := by have := k9.1; unfold Mo at *; rw [c2, c3] at this; exact this
  refine ⟨hmo, fun hA wf wl ws g1 g2 g3 ad H locs ls he hR hD hS hl => ?_⟩
  obtain ⟨hx, hb, hml, hown, hts, hK, -⟩ := id hA
  obtain ⟨wv1, ws1⟩ := wvs_c ws
  have wf' := hw9 wf wv1
  obtain ⟨b1, b2⟩ := wf.le hs9 (by omega)
  have hp := hpool_get (tc := tc) (ad := ad) b1 b2
  rw [tcell_obj hs9 hlt] at hp
  refine va_put (C := C) (T := T) (N := N) (v := tv ad v) (ty := ftp ci k) hx hb hts hin (ftp ci) hty hnm hown hK hR hD hS (a - 1) hp hC k hk (hts _ hlink) (fun x9 h9 => by rw [hT] at h9; exact h9) hfin (hty k hk) (hn9 ad) (hf9 ad) (by simpa using hk) hd fun H1 locs1 q1 q2 q3 => ?_
  have e1 : (hpool tc ad h).set (a - 1) (ad a, .inr (ci, ((List.range N).map (tfld h ad ci a)).set k (tv ad v))) = hpool tc ad h' := by
    refine hpool_set b1 c1 ?_ (hx9 tc ad)
    rw [tcell_obj (by rw [hS9]; exact hs9) hlt, fs_set (hv9 ad) (ho9 ad)]
  rw [e1] at q1 q2
  have kk := k9.2 hA wf' (by rw [c1]; exact wl) (by rw [c1]; exact (wvs_c ws1).2) (by rw [c1]; exact g1) (by rw [c2]; exact g2) (by rw [c3]; exact g3) ad H1 locs1 ls he q1 q2 q3 hl
  rw [c2, c3] at kk
  exact kk
theorem go_putI {r : Option Nat} {z : Int} {h' : HP} {i ci N k : Nat} (hx9 : xpI h r ci N k z = some h') (hF : FL M.1 i ci N k false) (hf9 : ftp ci k = .int) (hd : decode M.2.1 pc = .ok (.putfield i, 3)) (hn : pc + 3 = n) (k9 : Go K M Q hf n lv st h') : Go K M Q hf pc lv (vi z :: vr r :: st) h := by
  cases r with
  | none => cases hx9
  | some a =>
    unfold xpI at hx9; simp only at hx9
    split at hx9
    · next hs9 =>
      cases hx9
      refine go_putV hs9 (fun ad => by rw [hf9]; rfl) (fun ad => by rw [hf9]; rfl) (fun ad => ?_) (fun ad j hj => ?_) (fun tc ad => tcell_oI tc ad h a k z) ⟨rfl, rfl, rfl⟩ rfl (fun w q => wf_sI w q) hF hd hn k9
      · rw [tfld_I (by rw [hf9]; rfl)]; show tv ad (vi (upd2 h.1 a k z a k)) = _; rw [upd2_eq]
      · unfold tfld; rw [show gI (sI h a k z) a j = gI h a j from upd2_nk hj]; rfl
    · cases hx9
theorem go_putZ {r : Option Nat} {z : Int} {h' : HP} {i ci N k : Nat} (hx9 : xpZ h r ci N k z = some h') (hF : FL M.1 i ci N k false) (hf9 : ftp ci k = .boolean) (hd : decode M.2.1 pc = .ok (.putfield i, 3)) (hn : pc + 3 = n) (k9 : Go K M Q hf n lv st h') : Go K M Q hf pc lv (vi z :: vr r :: st) h := by
  cases r with
  | none => cases hx9
  | some a =>
    unfold xpZ at hx9; simp only at hx9
    split at hx9
    · next hs9 =>
      cases hx9
      refine go_putV hs9.1 (fun ad => by rw [hf9]; rcases hs9.2 with q | q <;> rw [q] <;> rfl) (fun ad => by rw [hf9]; rcases hs9.2 with q | q <;> rw [q] <;> rfl) (fun ad => ?_) (fun ad j hj => ?_) (fun tc ad => tcell_oI tc ad h a k z) ⟨rfl, rfl, rfl⟩ rfl (fun w q => wf_sI w q) hF hd hn k9
      · rw [tfld_I (by rw [hf9]; rfl)]; show tv ad (vi (upd2 h.1 a k z a k)) = _; rw [upd2_eq]
      · unfold tfld; rw [show gI (sI h a k z) a j = gI h a j from upd2_nk hj]; rfl
    · cases hx9
theorem go_putJ {r : Option Nat} {z : Int} {h' : HP} {i ci N k : Nat} (hx9 : xpJ h r ci N k z = some h') (hF : FL M.1 i ci N k false) (hf9 : ftp ci k = .long) (hd : decode M.2.1 pc = .ok (.putfield i, 3)) (hn : pc + 3 = n) (k9 : Go K M Q hf n lv st h') : Go K M Q hf pc lv (vl z :: vr r :: st) h := by
  cases r with
  | none => cases hx9
  | some a =>
    unfold xpJ at hx9; simp only at hx9
    split at hx9
    · next hs9 =>
      cases hx9
      refine go_putV hs9 (fun ad => by rw [hf9]; rfl) (fun ad => by rw [hf9]; rfl) (fun ad => ?_) (fun ad j hj => ?_) (fun tc ad => tcell_oJ tc ad h a k z) ⟨rfl, rfl, rfl⟩ rfl (fun w q => wf_sJ w q) hF hd hn k9
      · rw [tfld_J hf9]; show tv ad (vl (upd2 h.2.1 a k z a k)) = _; rw [upd2_eq]
      · unfold tfld; rw [show gJ (sJ h a k z) a j = gJ h a j from upd2_nk hj]; rfl
    · cases hx9
theorem go_putP {r z : Option Nat} {h' : HP} {i ci N k : Nat} (hx9 : xpP h r ci N k z = some h') (hF : FL M.1 i ci N k false) (hf9 : ftpP (ftp ci k) = true) (hd : decode M.2.1 pc = .ok (.putfield i, 3)) (hn : pc + 3 = n) (k9 : Go K M Q hf n lv st h') : Go K M Q hf pc lv (vr z :: vr r :: st) h := by
  cases r with
  | none => cases hx9
  | some a =>
    unfold xpP at hx9; simp only at hx9
    split at hx9
    · next hs9 =>
      cases hx9
      refine go_putV hs9 (fun ad => ?_) (fun ad => ?_) (fun ad => ?_) (fun ad j hj => ?_) (fun tc ad => tcell_oP tc ad h a k z) ⟨rfl, rfl, rfl⟩ rfl (fun w q => wf_sP w q) hF hd hn k9
      · cases e : ftp ci k <;> rw [e] at hf9 <;> first | rfl | cases hf9
      · cases e : ftp ci k <;> rw [e] at hf9 <;> first | (cases z <;> rfl) | cases hf9
      · rw [tfld_P hf9]; show tv ad (vr (upd2 h.2.2.1 a k z a k)) = _; rw [upd2_eq]
      · unfold tfld; rw [show gP (sP h a k z) a j = gP h a j from upd2_nk hj]; rfl
    · cases hx9
end GOH
