/-! the pure layer -/
def hz : HP := (fun _ _ => 0, fun _ _ => 0, fun _ _ => none, fun _ => (999, 0), 0, 0, 0)
theorem hz_wf : WFh hz := by
  refine ⟨fun a k => ?_, fun a k => ?_, fun a k r h => ?_, fun _ _ => rfl, ?_⟩
  · show in32 0
    exact in32_0
  · show in64 0
    unfold in64; omega
  · exact nomatch (show (none : Option Nat) = some r from h)
  · show 0 ≤ 900000
    omega
/-! arrays by Int -/
def aI (h : HP) (a : Nat) : Int → Int := fun i => gI h a i.toNat
def aJ (h : HP) (a : Nat) : Int → Int := fun i => gJ h a i.toNat
def sA (h : HP) (a : Nat) (i v : Int) : HP := sI h a i.toNat v
def sB (h : HP) (a : Nat) (i v : Int) : HP := sJ h a i.toNat v
/-! what reads what is written -/
theorem gS_sI (h : HP) (a k : Nat) (v : Int) : gS (sI h a k v) = gS h := rfl
theorem gS_sJ (h : HP) (a k : Nat) (v : Int) : gS (sJ h a k v) = gS h := rfl
theorem gS_sP (h : HP) (a k : Nat) (v : Option Nat) : gS (sP h a k v) = gS h := rfl
theorem gS_sIr (h : HP) (a : Nat) (g : Nat → Int) : gS (sIr h a g) = gS h := rfl
theorem gS_sA (h : HP) (a : Nat) (i v : Int) : gS (sA h a i v) = gS h := rfl
theorem gS_sB (h : HP) (a : Nat) (i v : Int) : gS (sB h a i v) = gS h := rfl
theorem gS_exc (h : HP) : gS (exc h) = gS h := rfl
theorem gP_sI (h : HP) (a k : Nat) (v : Int) : gP (sI h a k v) = gP h := rfl
theorem gP_sJ (h : HP) (a k : Nat) (v : Int) : gP (sJ h a k v) = gP h := rfl
theorem gP_sIr (h : HP) (a : Nat) (g : Nat → Int) : gP (sIr h a g) = gP h := rfl
theorem gP_sA (h : HP) (a : Nat) (i v : Int) : gP (sA h a i v) = gP h := rfl
theorem gP_sB (h : HP) (a : Nat) (i v : Int) : gP (sB h a i v) = gP h := rfl
theorem gP_exc (h : HP) : gP (exc h) = gP h := rfl
theorem gP_sP (h : HP) (a k : Nat) (v : Option Nat) (b j : Nat) : gP (sP h a k v) b j = if b = a ∧ j = k then v else gP h b j := rfl
theorem gP_sPn (h : HP) (a k : Nat) (v : Option Nat) (b : Nat) (n : b ≠ a) : gP (sP h a k v) b = gP h b := by
  funext j; exact upd2_ne n
theorem gJ_sI (h : HP) (a k : Nat) (v : Int) : gJ (sI h a k v) = gJ h := rfl
theorem gJ_sP (h : HP) (a k : Nat) (v : Option Nat) : gJ (sP h a k v) = gJ h := rfl
theorem gJ_sIr (h : HP) (a : Nat) (g : Nat → Int) : gJ (sIr h a g) = gJ h := rfl
theorem gJ_sA (h : HP) (a : Nat) (i v : Int) : gJ (sA h a i v) = gJ h := rfl
theorem gJ_exc (h : HP) : gJ (exc h) = gJ h := rfl
theorem gJ_sJ (h : HP) (a k : Nat) (v : Int) (b j : Nat) : gJ (sJ h a k v) b j = if b = a ∧ j = k then v else gJ h b j := rfl
theorem gJ_sJe (h : HP) (a k : Nat) (v : Int) : gJ (sJ h a k v) a k = v := upd2_eq
theorem gJ_sJn (h : HP) (a k : Nat) (v : Int) (b : Nat) (n : b ≠ a) : gJ (sJ h a k v) b = gJ h b := by
  funext j; exact upd2_ne n
theorem gJ_sBn (h : HP) (a : Nat) (i v : Int) (b : Nat) (n : b ≠ a) : gJ (sB h a i v) b = gJ h b := gJ_sJn h a i.toNat v b n
theorem gI_sJ (h : HP) (a k : Nat) (v : Int) : gI (sJ h a k v) = gI h := rfl
theorem gI_sB (h : HP) (a : Nat) (i v : Int) : gI (sB h a i v) = gI h := rfl
theorem gI_sP (h : HP) (a k : Nat) (v : Option Nat) : gI (sP h a k v) = gI h := rfl
theorem gI_exc (h : HP) : gI (exc h) = gI h := rfl
theorem gI_sI (h : HP) (a k : Nat) (v : Int) (b j : Nat) : gI (sI h a k v) b j = if b = a ∧ j = k then v else gI h b j := rfl
theorem gI_sIn (h : HP) (a k : Nat) (v : Int) (b : Nat) (n : b ≠ a) : gI (sI h a k v) b = gI h b := by
  funext j; exact upd2_ne n
theorem gI_sIrn (h : HP) (a : Nat) (g : Nat → Int) (b : Nat) (n : b ≠ a) : gI (sIr h a g) b = gI h b := by
  funext j; show updr h.1 a g b j = _; unfold updr; rw [if_neg n]; rfl
theorem gI_sIre (h : HP) (a : Nat) (g : Nat → Int) : gI (sIr h a g) a = g := by
  funext j; show updr h.1 a g a j = _; unfold updr; rw [if_pos rfl]
theorem gI_sIe (h : HP) (a k : Nat) (v : Int) : gI (sI h a k v) a k = v := upd2_eq
theorem gI_sIk (h : HP) (a k : Nat) (v : Int) (j : Nat) (n : j ≠ k) : gI (sI h a k v) a j = gI h a j := upd2_nk n
theorem gI_sAn (h : HP) (a : Nat) (i v : Int) (b : Nat) (n : b ≠ a) : gI (sA h a i v) b = gI h b := gI_sIn h a i.toNat v b n
theorem aI_sJ (h : HP) (a k : Nat) (v : Int) : aI (sJ h a k v) = aI h := rfl
theorem aI_sB (h : HP) (a : Nat) (i v : Int) : aI (sB h a i v) = aI h := rfl
theorem aI_sP (h : HP) (a k : Nat) (v : Option Nat) : aI (sP h a k v) = aI h := rfl
theorem aI_exc (h : HP) : aI (exc h) = aI h := rfl
theorem aI_sIn (h : HP) (a k : Nat) (v : Int) (b : Nat) (n : b ≠ a) : aI (sI h a k v) b = aI h b := by
  funext j; exact upd2_ne n
theorem aI_sAn (h : HP) (a : Nat) (i v : Int) (b : Nat) (n : b ≠ a) : aI (sA h a i v) b = aI h b := aI_sIn h a i.toNat v b n
theorem aI_sIrn (h : HP) (a : Nat) (g : Nat → Int) (b : Nat) (n : b ≠ a) : aI (sIr h a g) b = aI h b := by
  funext j; show gI (sIr h a g) b _ = _; rw [gI_sIrn h a g b n]; rfl
theorem aI_sIre (h : HP) (a : Nat) (g : Nat → Int) (i : Int) : aI (sIr h a g) a i = g i.toNat := by
  show gI (sIr h a g) a _ = _; rw [gI_sIre]
theorem aI_sA (h : HP) (a : Nat) (i v j : Int) (hi : 0 ≤ i) (hj : 0 ≤ j) : aI (sA h a i v) a j = if j = i then v else aI h a j := by
  show upd2 h.1 a i.toNat v a j.toNat = _
  unfold upd2
  by_cases c : j = i
  · rw [if_pos c, if_pos ⟨rfl, by rw [c]⟩]
  · rw [if_neg c, if_neg (fun q => c (by have := q.2; omega))]; rfl
theorem aI_sAe (h : HP) (a : Nat) (i v : Int) : aI (sA h a i v) a i = v := upd2_eq
theorem aI_sAk (h : HP) (a : Nat) (i v j : Int) (hi : 0 ≤ i) (hj : 0 ≤ j) (n : j ≠ i) : aI (sA h a i v) a j = aI h a j := by
  rw [aI_sA h a i v j hi hj, if_neg n]
theorem aJ_sI (h : HP) (a k : Nat) (v : Int) : aJ (sI h a k v) = aJ h := rfl
theorem aJ_sA (h : HP) (a : Nat) (i v : Int) : aJ (sA h a i v) = aJ h := rfl
theorem aJ_sP (h : HP) (a k : Nat) (v : Option Nat) : aJ (sP h a k v) = aJ h := rfl
theorem aJ_sIr (h : HP) (a : Nat) (g : Nat → Int) : aJ (sIr h a g) = aJ h := rfl
theorem aJ_exc (h : HP) : aJ (exc h) = aJ h := rfl
theorem aJ_sJn (h : HP) (a k : Nat) (v : Int) (b : Nat) (n : b ≠ a) : aJ (sJ h a k v) b = aJ h b := by
  funext j; exact upd2_ne n
theorem aJ_sBn (h : HP) (a : Nat) (i v : Int) (b : Nat) (n : b ≠ a) : aJ (sB h a i v) b = aJ h b := aJ_sJn h a i.toNat v b n
theorem aJ_sB (h : HP) (a : Nat) (i v j : Int) (hi : 0 ≤ i) (hj : 0 ≤ j) : aJ (sB h a i v) a j = if j = i then v else aJ h a j := by
  show upd2 h.2.1 a i.toNat v a j.toNat = _
  unfold upd2
  by_cases c : j = i
  · rw [if_pos c, if_pos ⟨rfl, by rw [c]⟩]
  · rw [if_neg c, if_neg (fun q => c (by have := q.2; omega))]; rfl
theorem aJ_sBe (h : HP) (a : Nat) (i v : Int) : aJ (sB h a i v) a i = v := upd2_eq
theorem w32i (z : Int) (h1 : -2147483648 ≤ z) (h2 : z < 2147483648) : w32 z = z := w32_id ⟨h1, h2⟩
theorem w64i (z : Int) (h1 : -9223372036854775808 ≤ z) (h2 : z < 9223372036854775808) : w64 z = z := w64_id ⟨h1, h2⟩
/-! the pieces of a program, run -/
section BB
variable {β : Type}
theorem b_gI (h : HP) (a ci N k : Nat) (f : Int → Option β) (hs : gS h a = (ci, N)) : (xgI h (some a) ci N k).bind f = f (gI h a k) := by
  show Option.bind (if gS h a = (ci, N) then _ else _) f = _; rw [if_pos hs]; rfl
theorem b_gJ (h : HP) (a ci N k : Nat) (f : Int → Option β) (hs : gS h a = (ci, N)) : (xgJ h (some a) ci N k).bind f = f (gJ h a k) := by
  show Option.bind (if gS h a = (ci, N) then _ else _) f = _; rw [if_pos hs]; rfl
theorem b_gP (h : HP) (a ci N k : Nat) (f : Option Nat → Option β) (z : Option Nat) (hs : gS h a = (ci, N)) (hp : gP h a k = z) : (xgP h (some a) ci N k).bind f = f z := by
  show Option.bind (if gS h a = (ci, N) then _ else _) f = _; rw [if_pos hs, hp]; rfl
theorem b_gPr (h : HP) (a ci N k : Nat) (f : Option Nat → Option β) (hs : gS h a = (ci, N)) : (xgP h (some a) ci N k).bind f = f (gP h a k) := by
  show Option.bind (if gS h a = (ci, N) then _ else _) f = _; rw [if_pos hs]; rfl
theorem b_pI (h : HP) (a ci N k : Nat) (z : Int) (f : HP → Option β) (hs : gS h a = (ci, N)) : (xpI h (some a) ci N k z).bind f = f (sI h a k z) := by
  show Option.bind (if gS h a = (ci, N) then _ else _) f = _; rw [if_pos hs]; rfl
theorem b_pZ (h : HP) (a ci N k : Nat) (z : Int) (f : HP → Option β) (hs : gS h a = (ci, N)) (hz : z = 0 ∨ z = 1) : (xpZ h (some a) ci N k z).bind f = f (sI h a k z) := by
  show Option.bind (if gS h a = (ci, N) ∧ (z = 0 ∨ z = 1) then _ else _) f = _; rw [if_pos ⟨hs, hz⟩]; rfl
theorem b_pJ (h : HP) (a ci N k : Nat) (z : Int) (f : HP → Option β) (hs : gS h a = (ci, N)) : (xpJ h (some a) ci N k z).bind f = f (sJ h a k z) := by
  show Option.bind (if gS h a = (ci, N) then _ else _) f = _; rw [if_pos hs]; rfl
theorem b_pP (h : HP) (a ci N k : Nat) (z : Option Nat) (f : HP → Option β) (hs : gS h a = (ci, N)) : (xpP h (some a) ci N k z).bind f = f (sP h a k z) := by
  show Option.bind (if gS h a = (ci, N) then _ else _) f = _; rw [if_pos hs]; rfl
theorem b_aI (h : HP) (a t : Nat) (i : Int) (f : Int → Option β) (n : Nat) (hs : gS h a = (t, n)) (h0 : 0 ≤ i) (h1 : i < (n : Int)) : (xaI h (some a) t i).bind f = f (aI h a i) := by
  show Option.bind (if (gS h a).1 = t ∧ 0 ≤ i ∧ i < ((gS h a).2 : Int) then _ else _) f = _; rw [hs, if_pos ⟨rfl, h0, h1⟩]; rfl
theorem b_aJ (h : HP) (a : Nat) (i : Int) (f : Int → Option β) (n : Nat) (hs : gS h a = (101, n)) (h0 : 0 ≤ i) (h1 : i < (n : Int)) : (xaJ h (some a) i).bind f = f (aJ h a i) := by
  show Option.bind (if (gS h a).1 = 101 ∧ 0 ≤ i ∧ i < ((gS h a).2 : Int) then _ else _) f = _; rw [hs, if_pos ⟨rfl, h0, h1⟩]; rfl
theorem b_aP (h : HP) (a : Nat) (i : Int) (f : Option Nat → Option β) (n : Nat) (hs : gS h a = (104, n)) (h0 : 0 ≤ i) (h1 : i < (n : Int)) : (xaP h (some a) i).bind f = f (gP h a i.toNat) := by
  show Option.bind (if (gS h a).1 = 104 ∧ 0 ≤ i ∧ i < ((gS h a).2 : Int) then _ else _) f = _; rw [hs, if_pos ⟨rfl, h0, h1⟩]; rfl
theorem b_sI (h : HP) (a : Nat) (i z : Int) (f : HP → Option β) (n : Nat) (hs : gS h a = (100, n)) (h0 : 0 ≤ i) (h1 : i < (n : Int)) : (xsI h (some a) i z).bind f = f (sA h a i z) := by
  show Option.bind (if (gS h a).1 = 100 ∧ 0 ≤ i ∧ i < ((gS h a).2 : Int) then _ else _) f = _; rw [hs, if_pos ⟨rfl, h0, h1⟩]; rfl
theorem b_sB (h : HP) (a : Nat) (i z : Int) (f : HP → Option β) (n : Nat) (hs : gS h a = (102, n)) (h0 : 0 ≤ i) (h1 : i < (n : Int)) : (xsB h (some a) i z).bind f = f (sA h a i (wbyte z)) := by
  show Option.bind (if (gS h a).1 = 102 ∧ 0 ≤ i ∧ i < ((gS h a).2 : Int) then _ else _) f = _; rw [hs, if_pos ⟨rfl, h0, h1⟩]; rfl
theorem b_sZ (h : HP) (a : Nat) (i z : Int) (f : HP → Option β) (n : Nat) (hs : gS h a = (103, n)) (h0 : 0 ≤ i) (h1 : i < (n : Int)) (hz : z = 0 ∨ z = 1) : (xsZ h (some a) i z).bind f = f (sA h a i z) := by
  show Option.bind (if ((gS h a).1 = 103 ∧ 0 ≤ i ∧ i < ((gS h a).2 : Int)) ∧ (z = 0 ∨ z = 1) then _ else _) f = _; rw [hs, if_pos ⟨⟨rfl, h0, h1⟩, hz⟩]; rfl
theorem b_sJ (h : HP) (a : Nat) (i z : Int) (f : HP → Option β) (n : Nat) (hs : gS h a = (101, n)) (h0 : 0 ≤ i) (h1 : i < (n : Int)) : (xsJ h (some a) i z).bind f = f (sB h a i z) := by
  show Option.bind (if (gS h a).1 = 101 ∧ 0 ≤ i ∧ i < ((gS h a).2 : Int) then _ else _) f = _; rw [hs, if_pos ⟨rfl, h0, h1⟩]; rfl
theorem b_rc (h : HP) (a ci N : Nat) (f : Nat → Option β) (hs : gS h a = (ci, N)) : (xrc h (some a) ci N).bind f = f a := by
  show Option.bind (if gS h a = (ci, N) then _ else _) f = _; rw [if_pos hs]; rfl
theorem b_al (h : HP) (a t n : Nat) (f : Int → Option β) (hs : gS h a = (t, n)) (h1 : 100 ≤ t ∧ t ≤ 104 ∧ n ≤ 65536) : (xal h (some a)).bind f = f (n : Int) := by
  show Option.bind (if 100 ≤ (gS h a).1 ∧ (gS h a).1 ≤ 104 ∧ (gS h a).2 ≤ 65536 then _ else _) f = _; rw [hs, if_pos h1]; rfl
theorem b_cp (h : HP) (a b : Nat) (i j m : Int) (f : HP → Option β) (n n' : Nat) (hs : gS h a = (100, n)) (hs' : gS h b = (100, n')) (h0 : 0 ≤ i ∧ 0 ≤ j ∧ 0 ≤ m ∧ i + m ≤ n ∧ j + m ≤ n' ∧ m < 1000000) : (xcp h (some a) i (some b) j m).bind f = f (sIr h b (fun k => if j.toNat ≤ k ∧ k < j.toNat + m.toNat then gI h a (i.toNat + (k - j.toNat)) else gI h b k)) := by
  show Option.bind (if (gS h a).1 = 100 ∧ (gS h b).1 = 100 ∧ 0 ≤ i ∧ 0 ≤ j ∧ 0 ≤ m ∧ i + m ≤ (gS h a).2 ∧ j + m ≤ (gS h b).2 ∧ m < 1000000 then _ else _) f = _
  rw [if_pos (by rw [hs, hs']; exact ⟨rfl, rfl, h0⟩)]; rfl
theorem b_xb {α γ : Type} (o : Option (α × HP)) (f : α → HP → Option γ) (v : α) (h' : HP) (e : o = some (v, h')) : xb o f = f v h' := by rw [e]; rfl
theorem b_xbs {α γ : Type} (f : α → HP → Option γ) (v : α) (h' : HP) : xb (some (v, h')) f = f v h' := rfl
theorem b_xthr {α γ : Type} (f : α → HP → Option ((String ⊕ γ) × HP)) (v : α) (h' : HP) : xth (some (.inr v, h')) f = f v h' := rfl
theorem b_xthl {α γ : Type} (f : α → HP → Option ((String ⊕ γ) × HP)) (v : String) (h' : HP) : xth (some (.inl v, h')) f = some (.inl v, h') := rfl
theorem b_xctr {α γ : Type} (g : String → HP → Option γ) (f : α → HP → Option γ) (v : α) (h' : HP) : xct (some (.inr v, h')) g f = f v h' := rfl
theorem b_xctl {α γ : Type} (g : String → HP → Option γ) (f : α → HP → Option γ) (v : String) (h' : HP) : xct (some (.inl v, h')) g f = g v h' := rfl
theorem b_xz (z : Int) (h : HP) (hz : z = 0 ∨ z = 1) : xz z h = some (z, h) := if_pos hz
theorem b_xzX (z : Int) (h : HP) (hz : z = 0 ∨ z = 1) : xzX z h = some (.inr z, h) := if_pos hz
theorem b_xd (z : Int) (f : Unit → Option β) (hz : z ≠ 0) : (xd z).bind f = f () := by unfold xd; rw [if_neg hz]; rfl
end BB
