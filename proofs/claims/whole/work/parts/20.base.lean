/-! My own layer over the kit: abstract values (integers as Int), one abstract heap, and what it says of the machine's heap. -/
abbrev AV : Type := Int ⊕ (Int ⊕ Option Nat)
abbrev vi (z : Int) : AV := Sum.inl z
abbrev vl (z : Int) : AV := Sum.inr (Sum.inl z)
abbrev vr (r : Option Nat) : AV := Sum.inr (Sum.inr r)
def tv (ad : Nat → Nat) (v : AV) : Value := match v with
  | .inl z => .int (Int32.ofInt z)
  | .inr (.inl z) => .long (Int64.ofInt z)
  | .inr (.inr r) => va_rf (r.map ad)
def catv (v : AV) : Nat := match v with
  | .inl _ => 1
  | .inr (.inl _) => 2
  | .inr (.inr _) => 1
def in32 (z : Int) : Prop := -2147483648 ≤ z ∧ z < 2147483648
def in64 (z : Int) : Prop := -9223372036854775808 ≤ z ∧ z < 9223372036854775808
def w32 (z : Int) : Int := (z + 2147483648) % 4294967296 - 2147483648
def w64 (z : Int) : Int := (z + 9223372036854775808) % 18446744073709551616 - 9223372036854775808
theorem w32_in (z : Int) : in32 (w32 z) := by unfold in32 w32; omega
theorem w64_in (z : Int) : in64 (w64 z) := by unfold in64 w64; omega
theorem w32_id {z : Int} (h : in32 z) : w32 z = z := by unfold in32 at h; unfold w32; omega
theorem w64_id {z : Int} (h : in64 z) : w64 z = z := by unfold in64 at h; unfold w64; omega
theorem w32_bmod (z : Int) : z.bmod (2 ^ 32) = w32 z := by
  unfold w32
  rw [Int.bmod_def]
  have e : ((2 ^ 32 : Nat) : Int) = 4294967296 := by decide
  rw [e]
  split <;> omega
theorem w64_bmod (z : Int) : z.bmod (2 ^ 64) = w64 z := by
  unfold w64
  rw [Int.bmod_def]
  have e : ((2 ^ 64 : Nat) : Int) = 18446744073709551616 := by decide
  rw [e]
  split <;> omega
theorem t32 (z : Int) : (Int32.ofInt z).toInt = w32 z := by
  rw [Int32.toInt_ofInt]; exact w32_bmod z
theorem t64 (z : Int) : (Int64.ofInt z).toInt = w64 z := by
  rw [Int64.toInt_ofInt]; exact w64_bmod z
theorem t32i {z : Int} (h : in32 z) : (Int32.ofInt z).toInt = z := by rw [t32, w32_id h]
theorem t64i {z : Int} (h : in64 z) : (Int64.ofInt z).toInt = z := by rw [t64, w64_id h]
theorem in32_toInt (x : Int32) : in32 x.toInt := ⟨by have := x.le_toInt; omega, by have := x.toInt_lt; omega⟩
theorem in64_toInt (x : Int64) : in64 x.toInt := ⟨by have := x.le_toInt; omega, by have := x.toInt_lt; omega⟩
theorem o32 (x : Int32) : Int32.ofInt x.toInt = x := Int32.ofInt_toInt x
theorem o64 (x : Int64) : Int64.ofInt x.toInt = x := Int64.ofInt_toInt x
theorem e32 {x : Int32} {z : Int} (h : x.toInt = w32 z) : x = Int32.ofInt (w32 z) := by rw [← h, o32]
theorem e64 {x : Int64} {z : Int} (h : x.toInt = w64 z) : x = Int64.ofInt (w64 z) := by rw [← h, o64]
theorem o32_w (z : Int) : Int32.ofInt (w32 z) = Int32.ofInt z := by rw [← t32, o32]
theorem o64_w (z : Int) : Int64.ofInt (w64 z) = Int64.ofInt z := by rw [← t64, o64]
theorem o32_add (a b : Int) : Int32.ofInt a + Int32.ofInt b = Int32.ofInt (w32 (a + b)) := by rw [o32_w, Int32.ofInt_add]
theorem o32_sub (a b : Int) : Int32.ofInt a - Int32.ofInt b = Int32.ofInt (w32 (a - b)) := by rw [o32_w, Int32.ofInt_sub]
theorem o32_mul (a b : Int) : Int32.ofInt a * Int32.ofInt b = Int32.ofInt (w32 (a * b)) := by rw [o32_w, Int32.ofInt_mul]
theorem o32_neg (a : Int) : -Int32.ofInt a = Int32.ofInt (w32 (-a)) := by rw [o32_w, Int32.ofInt_neg]
theorem o64_add (a b : Int) : Int64.ofInt a + Int64.ofInt b = Int64.ofInt (w64 (a + b)) := by rw [o64_w, Int64.ofInt_add]
theorem o64_sub (a b : Int) : Int64.ofInt a - Int64.ofInt b = Int64.ofInt (w64 (a - b)) := by rw [o64_w, Int64.ofInt_sub]
theorem o64_mul (a b : Int) : Int64.ofInt a * Int64.ofInt b = Int64.ofInt (w64 (a * b)) := by rw [o64_w, Int64.ofInt_mul]
theorem o32_div {a b : Int} (ha : in32 a) (hb : in32 b) : Int32.ofInt a / Int32.ofInt b = Int32.ofInt (w32 (a.tdiv b)) := by
  apply e32
  rw [Int32.toInt_div, t32i ha, t32i hb]; exact w32_bmod _
theorem o64_div {a b : Int} (ha : in64 a) (hb : in64 b) : Int64.ofInt a / Int64.ofInt b = Int64.ofInt (w64 (a.tdiv b)) := by
  apply e64
  rw [Int64.toInt_div, t64i ha, t64i hb]; exact w64_bmod _
theorem tmod_in32 {a b : Int} (ha : in32 a) : in32 (a.tmod b) := by
  unfold in32 at *
  have h1 : (a.tmod b).natAbs ≤ a.natAbs := by
    rw [Int.natAbs_tmod]; exact Nat.mod_le _ _
  have h2 : 0 ≤ a → 0 ≤ a.tmod b := fun h => Int.tmod_nonneg b h
  have h3 : a ≤ 0 → 0 ≤ -(a.tmod b) := fun h => by rw [← Int.neg_tmod]; exact Int.tmod_nonneg b (by omega)
  omega
theorem o32_rem {a b : Int} (ha : in32 a) (hb : in32 b) : Int32.ofInt a - Int32.ofInt a / Int32.ofInt b * Int32.ofInt b = Int32.ofInt (a.tmod b) := by
  have h := rem_toInt (Int32.ofInt a) (Int32.ofInt b)
  rw [t32i ha, t32i hb] at h
  rw [← h, o32]
theorem tmod_in64 {a b : Int} (ha : in64 a) : in64 (a.tmod b) := by
  unfold in64 at *
  have h1 : (a.tmod b).natAbs ≤ a.natAbs := by
    rw [Int.natAbs_tmod]; exact Nat.mod_le _ _
  have h2 : 0 ≤ a → 0 ≤ a.tmod b := fun h => Int.tmod_nonneg b h
  have h3 : a ≤ 0 → 0 ≤ -(a.tmod b) := fun h => by rw [← Int.neg_tmod]; exact Int.tmod_nonneg b (by omega)
  omega
theorem o64_rem {a b : Int} (ha : in64 a) (hb : in64 b) : Int64.ofInt a - Int64.ofInt a / Int64.ofInt b * Int64.ofInt b = Int64.ofInt (a.tmod b) := by
  have e : a.tmod b = a - b * a.tdiv b := by have := Int.mul_tdiv_add_tmod a b; omega
  rw [e, o64_div ha hb, o64_w, o64_mul, o64_w, o64_sub, o64_w, Int.mul_comm]
def xand (a b : Int) : Int := (Int32.ofInt a &&& Int32.ofInt b).toInt
def xor_ (a b : Int) : Int := (Int32.ofInt a ||| Int32.ofInt b).toInt
def xxor (a b : Int) : Int := (Int32.ofInt a ^^^ Int32.ofInt b).toInt
def xshl (a b : Int) : Int := (Int32.ofInt a <<< (Int32.ofInt b &&& 31)).toInt
def xshr (a b : Int) : Int := (Int32.ofInt a >>> (Int32.ofInt b &&& 31)).toInt
def xush (a b : Int) : Int := ((Int32.ofInt a).toUInt32 >>> ((Int32.ofInt b).toUInt32 &&& Int32.toUInt32 31)).toInt32.toInt
def yand (a b : Int) : Int := (Int64.ofInt a &&& Int64.ofInt b).toInt
def yor (a b : Int) : Int := (Int64.ofInt a ||| Int64.ofInt b).toInt
def yxor (a b : Int) : Int := (Int64.ofInt a ^^^ Int64.ofInt b).toInt
def yshl (a b : Int) : Int := (Int64.ofInt a <<< ((Int32.ofInt b).toInt64 &&& 63)).toInt
def yshr (a b : Int) : Int := (Int64.ofInt a >>> ((Int32.ofInt b).toInt64 &&& 63)).toInt
def yush (a b : Int) : Int := ((Int64.ofInt a).toUInt64 >>> ((Int32.ofInt b).toInt64.toUInt64 &&& Int64.toUInt64 63)).toInt64.toInt
def xcmp (a b : Int) : Int := if b < a then 1 else if a = b then 0 else -1
def wbyte (a : Int) : Int := (Int32.ofInt a).toInt8.toInt32.toInt
theorem o32_lt {a b : Int} (ha : in32 a) (hb : in32 b) : Int32.ofInt a < Int32.ofInt b ↔ a < b := by
  rw [Int32.lt_iff_toInt_lt, t32i ha, t32i hb]
theorem o32_le {a b : Int} (ha : in32 a) (hb : in32 b) : Int32.ofInt a ≤ Int32.ofInt b ↔ a ≤ b := by
  rw [Int32.le_iff_toInt_le, t32i ha, t32i hb]
theorem o32_eq {a b : Int} (ha : in32 a) (hb : in32 b) : Int32.ofInt a = Int32.ofInt b ↔ a = b := by
  rw [← Int32.toInt_inj, t32i ha, t32i hb]
theorem o64_lt {a b : Int} (ha : in64 a) (hb : in64 b) : Int64.ofInt a < Int64.ofInt b ↔ a < b := by
  rw [Int64.lt_iff_toInt_lt, t64i ha, t64i hb]
theorem o64_eq {a b : Int} (ha : in64 a) (hb : in64 b) : Int64.ofInt a = Int64.ofInt b ↔ a = b := by
  rw [← Int64.toInt_inj, t64i ha, t64i hb]
theorem in32_0 : in32 0 := by unfold in32; omega
theorem o32_0 : Int32.ofInt 0 = 0 := rfl
theorem o32_cmp {a b : Int} (ha : in64 a) (hb : in64 b) : lg_cmp (Int64.ofInt a) (Int64.ofInt b) = Int32.ofInt (xcmp a b) := by
  have h1 := o64_lt hb ha
  have h2 := o64_eq ha hb
  unfold lg_cmp xcmp
  by_cases c1 : b < a
  · rw [if_pos (h1.mpr c1), if_pos c1]; rfl
  · rw [if_neg (fun q => c1 (h1.mp q)), if_neg c1]
    by_cases c2 : a = b
    · rw [if_pos (h2.mpr c2), if_pos c2]; rfl
    · rw [if_neg (fun q => c2 (h2.mp q)), if_neg c2]; rfl
theorem xcmp_in (a b : Int) : in32 (xcmp a b) := by
  unfold xcmp in32; split
  · omega
  · split <;> omega
theorem o32_i2l {a : Int} (ha : in32 a) : (Int32.ofInt a).toInt64 = Int64.ofInt a := by
  have h : in64 a := by unfold in32 at ha; unfold in64; omega
  apply Int64.toInt_inj.mp
  rw [Int32.toInt_toInt64, t32i ha, t64i h]
theorem o64_l2i {a : Int} (ha : in64 a) : (Int64.ofInt a).toInt32 = Int32.ofInt (w32 a) := by
  apply e32
  rw [Int64.toInt_toInt32, t64i ha]; exact w32_bmod a
/-- a place in an array: what the machine asks, and its number -/
theorem vp_in_i {i : Int} {n : Nat} (hi : in32 i) (h0 : 0 ≤ i) (h : i < n) : vp_in (Int32.ofInt i) n := by
  rw [vp_in_iff, t32i hi]; exact ⟨h0, h⟩
theorem clamp_i {i : Int} (hi : in32 i) : (Int32.ofInt i).toNatClampNeg = i.toNat := by
  show (Int32.ofInt i).toInt.toNat = _
  rw [t32i hi]
/-! the abstract heap: ints, longs, references by place and field or index; the shape of each place; how many places; how many cells and slots were taken in all -/
abbrev HP : Type := (Nat → Nat → Int) × (Nat → Nat → Int) × (Nat → Nat → Option Nat) × (Nat → Nat × Nat) × Nat × Nat × Nat
def upd2 {α : Type} (f : Nat → Nat → α) (a k : Nat) (v : α) : Nat → Nat → α := fun x y => if x = a ∧ y = k then v else f x y
def updr {α : Type} (f : Nat → Nat → α) (a : Nat) (g : Nat → α) : Nat → Nat → α := fun x y => if x = a then g y else f x y
def gI (h : HP) : Nat → Nat → Int := h.1
def gJ (h : HP) : Nat → Nat → Int := h.2.1
def gP (h : HP) : Nat → Nat → Option Nat := h.2.2.1
def gS (h : HP) : Nat → Nat × Nat := h.2.2.2.1
def gn (h : HP) : Nat := h.2.2.2.2.1
def gc (h : HP) : Nat := h.2.2.2.2.2.1
def gs (h : HP) : Nat := h.2.2.2.2.2.2
def sI (h : HP) (a k : Nat) (v : Int) : HP := (upd2 h.1 a k v, h.2)
def sJ (h : HP) (a k : Nat) (v : Int) : HP := (h.1, upd2 h.2.1 a k v, h.2.2)
def sP (h : HP) (a k : Nat) (v : Option Nat) : HP := (h.1, h.2.1, upd2 h.2.2.1 a k v, h.2.2.2)
def sIr (h : HP) (a : Nat) (g : Nat → Int) : HP := (updr h.1 a g, h.2)
/-- a new place n + 1 of shape S: everything in it 0 or null -/
def alc (h : HP) (S : Nat × Nat) : HP := (updr h.1 (gn h + 1) (fun _ => 0), updr h.2.1 (gn h + 1) (fun _ => 0), updr h.2.2.1 (gn h + 1) (fun _ => none), (fun x => if x = gn h + 1 then S else gS h x), gn h + 1, gc h + 1, gs h + S.2)
/-- a cell that nobody keeps (an exception): six slots -/
def exc (h : HP) : HP := (h.1, h.2.1, h.2.2.1, h.2.2.2.1, h.2.2.2.2.1, h.2.2.2.2.2.1 + 1, h.2.2.2.2.2.2 + 6)
def Mo (h hf : HP) : Prop := gc h ≤ gc hf ∧ gs h ≤ gs hf
theorem Mo.rf (h : HP) : Mo h h := ⟨Nat.le_refl _, Nat.le_refl _⟩
theorem Mo.tr {a b c : HP} (h1 : Mo a b) (h2 : Mo b c) : Mo a c := ⟨Nat.le_trans h1.1 h2.1, Nat.le_trans h1.2 h2.2⟩
theorem Mo.sI {h hf : HP} {a k : Nat} {v : Int} (q : Mo (sI h a k v) hf) : Mo h hf := q
theorem Mo.sJ {h hf : HP} {a k : Nat} {v : Int} (q : Mo (sJ h a k v) hf) : Mo h hf := q
theorem Mo.sP {h hf : HP} {a k : Nat} {v : Option Nat} (q : Mo (sP h a k v) hf) : Mo h hf := q
theorem Mo.sIr {h hf : HP} {a : Nat} {g : Nat → Int} (q : Mo (sIr h a g) hf) : Mo h hf := q
theorem Mo.alc {h hf : HP} {S : Nat × Nat} (q : Mo (alc h S) hf) : Mo h hf := ⟨by have := q.1; show gc h ≤ gc hf; exact Nat.le_of_succ_le this, by have := q.2; exact Nat.le_trans (Nat.le_add_right _ _) this⟩
theorem Mo.exc {h hf : HP} (q : Mo (exc h) hf) : Mo h hf := ⟨Nat.le_of_succ_le q.1, Nat.le_trans (Nat.le_add_right _ _) q.2⟩
def ftp (ci k : Nat) : FieldType := match ci with
  | 0 => tyX0 k | 1 => tyX1 k | 2 => tyX2 k | 3 => tyX3 k | 4 => tyX4 k | 5 => tyX5 k | 6 => tyX6 k | 7 => tyX7 k
  | 8 => tyX8 k | 9 => tyX9 k | 10 => tyX10 k | 11 => tyX11 k | _ => tyX12 k
def tfld (h : HP) (ad : Nat → Nat) (ci a k : Nat) : Value := match ftp ci k with
  | .long => .long (Int64.ofInt (gJ h a k))
  | .object _ => va_rf ((gP h a k).map ad)
  | .array _ => va_rf ((gP h a k).map ad)
  | _ => .int (Int32.ofInt (gI h a k))
def tcell (tc : Nat → ClassId) (ad : Nat → Nat) (h : HP) (a : Nat) : va_E :=
  if (gS h a).1 = 100 then .inl (tc 0, (gS h a).2, .inl (fun i => Int32.ofInt (gI h a i)))
  else if (gS h a).1 = 101 then .inl (tc 1, (gS h a).2, .inr (.inl (fun i => Int64.ofInt (gJ h a i))))
  else if (gS h a).1 = 102 then .inl (tc 2, (gS h a).2, .inl (fun i => Int32.ofInt (gI h a i)))
  else if (gS h a).1 = 103 then .inl (tc 3, (gS h a).2, .inl (fun i => Int32.ofInt (gI h a i)))
  else if (gS h a).1 = 104 then .inl (tc 4, (gS h a).2, .inr (.inr (.inr (.inr (fun i => (gP h a i).map ad)))))
  else .inr ((gS h a).1, (List.range (gS h a).2).map (fun k => tfld h ad (gS h a).1 a k))
def hpool (tc : Nat → ClassId) (ad : Nat → Nat) (h : HP) : va_W := (List.range (gn h)).map (fun k => (ad (k + 1), tcell tc ad h (k + 1)))
def okr (n a : Nat) : Prop := a ≤ n ∨ 1000000 ≤ a
def wv (n : Nat) (v : AV) : Prop := match v with
  | .inl z => in32 z
  | .inr (.inl z) => in64 z
  | .inr (.inr r) => ∀ a, r = some a → okr n a
def wvs (n : Nat) (st : List AV) : Prop := ∀ v ∈ st, wv n v
def wvl (n : Nat) (lv : List (Nat × AV)) : Prop := ∀ q ∈ lv, wv n q.2
def WFh (h : HP) : Prop := (∀ a k, in32 (gI h a k)) ∧ (∀ a k, in64 (gJ h a k)) ∧ (∀ a k r, gP h a k = some r → okr (gn h) r) ∧ (∀ a, (a = 0 ∨ gn h < a) → gS h a = (999, 0)) ∧ gn h ≤ 900000
theorem WFh.le {h : HP} (w : WFh h) {a t n : Nat} (hs : gS h a = (t, n)) (ht : t < 999) : 1 ≤ a ∧ a ≤ gn h := by
  rcases Nat.lt_or_ge (gn h) a with q | q
  · have := w.2.2.2.1 a (Or.inr q); rw [hs] at this; cases this; omega
  · rcases Nat.eq_zero_or_pos a with z | z
    · have := w.2.2.2.1 a (Or.inl z); rw [hs] at this; cases this; omega
    · exact ⟨z, q⟩
theorem hpool_get {tc : Nat → ClassId} {ad : Nat → Nat} {h : HP} {a : Nat} (h1 : 1 ≤ a) (h2 : a ≤ gn h) : (hpool tc ad h)[a - 1]? = some (ad a, tcell tc ad h a) := by
  unfold hpool
  have e : a - 1 + 1 = a := by omega
  rw [List.getElem?_map, List.getElem?_range (by omega)]
  simp only [Option.map_some, e]
theorem hpool_set {tc : Nat → ClassId} {ad : Nat → Nat} {h h' : HP} {a : Nat} {e : va_E} (h1 : 1 ≤ a) (hn : gn h' = gn h) (he : tcell tc ad h' a = e) (ho : ∀ x, x ≠ a → tcell tc ad h' x = tcell tc ad h x) : (hpool tc ad h).set (a - 1) (ad a, e) = hpool tc ad h' := by
  subst he
  unfold hpool
  rw [hn]
  apply List.ext_getElem?
  intro i
  rw [List.getElem?_set]
  by_cases c : a - 1 = i
  · subst c
    rw [if_pos rfl]
    by_cases l : a - 1 < gn h
    · have e : a - 1 + 1 = a := by omega
      rw [if_pos (by simpa using l), List.getElem?_map, List.getElem?_range l]
      simp only [Option.map_some, e]
    · rw [if_neg (by simpa using l)]
      rw [List.getElem?_eq_none (by simp; omega)]
  · rw [if_neg c]
    rw [List.getElem?_map, List.getElem?_map]
    by_cases l : i < gn h
    · rw [List.getElem?_range l]
      simp only [Option.map_some]
      rw [ho (i + 1) (by omega)]
    · rw [List.getElem?_eq_none (by simp; omega)]
      rfl
theorem okr.up {n n' a : Nat} (h : okr n a) (hn : n ≤ n') : okr n' a := by unfold okr at *; omega
theorem wv.up {n n' : Nat} {v : AV} (h : wv n v) (hn : n ≤ n') : wv n' v := by
  match v with
  | .inl z => exact h
  | .inr (.inl z) => exact h
  | .inr (.inr r) => exact fun a e => (h a e).up hn
theorem tv_ext {ad ad' : Nat → Nat} {n : Nat} (he : ∀ r, okr n r → ad' r = ad r) {v : AV} (h : wv n v) : tv ad' v = tv ad v := by
  match v with
  | .inl z => rfl
  | .inr (.inl z) => rfl
  | .inr (.inr none) => rfl
  | .inr (.inr (some a)) => show va_rf (some (ad' a)) = va_rf (some (ad a)); rw [he a (h a rfl)]
theorem tvs_ext {ad ad' : Nat → Nat} {n : Nat} (he : ∀ r, okr n r → ad' r = ad r) {st : List AV} (h : wvs n st) : st.map (tv ad') = st.map (tv ad) :=
  List.map_congr_left fun v hv => tv_ext he (h v hv)
def tl (ad : Nat → Nat) (lv : List (Nat × AV)) : List (Nat × Value) := lv.map (fun q => (q.1, tv ad q.2))
theorem tl_ext {ad ad' : Nat → Nat} {n : Nat} (he : ∀ r, okr n r → ad' r = ad r) {lv : List (Nat × AV)} (h : wvl n lv) : tl ad' lv = tl ad lv :=
  List.map_congr_left fun q hq => by rw [tv_ext he (h q hq)]
theorem tcell_ext {tc : Nat → ClassId} {ad ad' : Nat → Nat} {h : HP} (w : WFh h) (he : ∀ r, okr (gn h) r → ad' r = ad r) (a : Nat) : tcell tc ad' h a = tcell tc ad h a := by
  have hr : ∀ k, (gP h a k).map ad' = (gP h a k).map ad := by
    intro k
    cases hq : gP h a k with
    | none => rfl
    | some r => show some (ad' r) = some (ad r); rw [he r (w.2.2.1 a k r hq)]
  have hf : ∀ ci k, tfld h ad' ci a k = tfld h ad ci a k := by
    intro ci k
    unfold tfld
    rw [hr k]
  unfold tcell
  simp only [hr, hf]
theorem cat_tv (ad : Nat → Nat) (v : AV) : (tv ad v).category = catv v := by
  match v with
  | .inl z => rfl
  | .inr (.inl z) => rfl
  | .inr (.inr none) => rfl
  | .inr (.inr (some a)) => rfl
theorem cat_map (ad : Nat → Nat) (st : List AV) : ((st.map (tv ad)).map fun v => v.category) = st.map catv := by
  rw [List.map_map]
  exact List.map_congr_left fun v _ => cat_tv ad v
