/-! what the printed programs are put together with -/
def xb {α β : Type} (o : Option (α × HP)) (f : α → HP → Option β) : Option β := match o with
  | none => none
  | some (v, h) => f v h
theorem xb_some {α β : Type} {o : Option (α × HP)} {f : α → HP → Option β} {y : β} (e : xb o f = some y) : ∃ v h1, o = some (v, h1) ∧ f v h1 = some y := by
  match o, e with
  | none, e => cases e
  | some (v, h1), e => exact ⟨v, h1, rfl, e⟩
def xth {α β : Type} (o : Option ((String ⊕ α) × HP)) (f : α → HP → Option ((String ⊕ β) × HP)) : Option ((String ⊕ β) × HP) := match o with
  | none => none
  | some (.inl e, h) => some (.inl e, h)
  | some (.inr v, h) => f v h
theorem xth_some {α β : Type} {o : Option ((String ⊕ α) × HP)} {f : α → HP → Option ((String ⊕ β) × HP)} {r : String ⊕ β} {hf : HP} (e : xth o f = some (r, hf)) : (∃ E, o = some (.inl E, hf) ∧ r = .inl E) ∨ (∃ v h1, o = some (.inr v, h1) ∧ f v h1 = some (r, hf)) := by
  match o, e with
  | none, e => cases e
  | some (.inl E, h1), e => cases e; exact Or.inl ⟨E, rfl, rfl⟩
  | some (.inr v, h1), e => exact Or.inr ⟨v, h1, rfl, e⟩
def xct {α β : Type} (o : Option ((String ⊕ α) × HP)) (g : String → HP → Option β) (f : α → HP → Option β) : Option β := match o with
  | none => none
  | some (.inl e, h) => g e h
  | some (.inr v, h) => f v h
theorem xct_some {α β : Type} {o : Option ((String ⊕ α) × HP)} {g : String → HP → Option β} {f : α → HP → Option β} {y : β} (e : xct o g f = some y) : (∃ E h1, o = some (.inl E, h1) ∧ g E h1 = some y) ∨ (∃ v h1, o = some (.inr v, h1) ∧ f v h1 = some y) := by
  match o, e with
  | none, e => cases e
  | some (.inl E, h1), e => exact Or.inl ⟨E, h1, rfl, e⟩
  | some (.inr v, h1), e => exact Or.inr ⟨v, h1, rfl, e⟩
/-- an answer of a boolean method -/
def xz (z : Int) (h : HP) : Option (Int × HP) := if z = 0 ∨ z = 1 then some (z, h) else none
def xzX (z : Int) (h : HP) : Option ((String ⊕ Int) × HP) := if z = 0 ∨ z = 1 then some (.inr z, h) else none
def xd (b : Int) : Option Unit := if b = 0 then none else some ()
theorem xd_some {b : Int} {u : Unit} (e : xd b = some u) : ¬ b = 0 := by
  unfold xd at e; split at e
  · cases e
  · assumption
/-- a place that is not null -/
def xnn (r : Option Nat) : Option Nat := r
def rI (r : String ⊕ Int) : String ⊕ Option AV := match r with
  | .inl e => .inl e
  | .inr z => .inr (some (vi z))
def rL (r : String ⊕ Int) : String ⊕ Option AV := match r with
  | .inl e => .inl e
  | .inr z => .inr (some (vl z))
def rU (r : String ⊕ Unit) : String ⊕ Option AV := match r with
  | .inl e => .inl e
  | .inr _ => .inr none
theorem xrc_some {h : HP} {r : Option Nat} {ci N a : Nat} (e : xrc h r ci N = some a) : r = some a ∧ gS h a = (ci, N) := by
  cases r with
  | none => cases e
  | some b =>
    unfold xrc at e; simp only at e
    split at e
    · cases e; exact ⟨rfl, by assumption⟩
    · cases e
theorem alive_new {h h' : HP} {ci N : Nat} (e : xnw h ci N = some h') : h' = alc h (ci, N) := by
  unfold xnw at e; split at e
  · cases e; rfl
  · cases e
section GOX
variable {K : Ctx} {M : MI} {Q : State → Prop} {hf : HP} {pc n : Nat} {lv : List (Nat × AV)} {st : List AV} {h : HP}
/-- fewer locals, by their places -/
theorem go_pick {lv' : List (Nat × AV)} (ks : List Nat) (hs : ks.filterMap (fun k => lv[k]?) = lv') (k : Go K M Q hf pc lv' st h) : Go K M Q hf pc lv st h := by
  refine go_sub (fun q hq => ?_) k
  rw [← hs] at hq
  obtain ⟨i, -, hi⟩ := List.mem_filterMap.mp hq
  exact List.mem_of_getElem? hi
theorem go_throwW {cls : String} {ik ic j : Nat} {q : String × Nat × String} (hT : XT M.1 ik ic cls) (hj : STR[j]? = some q) (ho : q.1 = M.1) (htb : M.2.2.2.2.2.1 = some []) (hd9 : 10 ≤ M.2.2.2.2.1)
    (d0 : decode M.2.1 pc = .ok (.new ik, 3)) (d3 : decode M.2.1 (pc + 3) = .ok (.dup, 1)) (d4 : decode M.2.1 (pc + 4) = .ok (.ldc_w q.2.1, 3)) (d7 : decode M.2.1 (pc + 7) = .ok (.invokespecial ic, 3)) (d10 : decode M.2.1 (pc + 10) = .ok (.athrow, 1)) (hst : (st.map catv).sum ≤ 20) :
    Go K M (QMX K (.inl cls) (exc h)) (exc h) pc lv st h := by
  obtain ⟨p, l, e, R, s, m, args, below, meth, c, D, tc, A, ad0, n0, c0, s0⟩ := K
  obtain ⟨own, cc, nL, ret, d, tb, nm⟩ := M
  obtain ⟨t1, t2, t3, t4, t5⟩ := hT
  refine ⟨(Mo.rf (exc h)).exc, fun hA wf wl ws g1 g2 g3 ad H locs ls he hR hD hS hl => ?_⟩
  obtain ⟨hx, hb, hml, hown, hts, hK, hlk, hret, hSF, hAA, ⟨r1, r2, r3, r4⟩, hlt9, htab, hmn⟩ := id hA
  have q1 : 10 ≤ d := hd9
  have q2 : d ≤ R.frames := r1
  have q3 : 100 * d ≤ R.locals := r2
  have q4 : gc h + 1 - c0 ≤ R.cells := r3
  have q5 : gs h + 6 - s0 ≤ R.slots := r4
  have q6 : c0 ≤ gc h := g2
  have q7 : s0 ≤ gs h := g3
  have hz := hSF.2.2.2.1 j q hj
  have ho9 : q.1 = own := ho
  rw [ho9] at hz
  refine vx_throwSW (c := c) (text := q.2.2) (names := XN) hx hb hlt9 hown t1 xn_fit (hts _ t2) (hts _ t3) hz (fun w hw => ?_) t5 hSF.1 hSF.2.1 hS (hl.1.trans hml.symm) d0 d3 d4 d7 d10 (fun x hx9 => ?_) (by show 2 + 3 < R.frames; omega) (by rw [cat_map]; show _ + (13 * (2 + 1) + 43) ≤ R.locals; omega) (by show gc h - c0 + 1 ≤ R.cells; omega) (by show gs h - s0 + 6 ≤ R.slots; omega) hlk (fun t hal hz1 hz2 => ?_) hS.2.2 (by show gc h - c0 + 1 ≤ gc h + 1 - c0; omega) (by show gs h - s0 + 6 ≤ gs h + 6 - s0; omega)
  · rcases t4 w hw with q9 | q9
    · exact hts w q9
    · exact va_Nw.use (by
        simp only [XWl, List.mem_cons, List.not_mem_nil, or_false] at q9
        rcases q9 with rfl | rfl | rfl | rfl | rfl | rfl | rfl | rfl <;> rfl) (hSF.2.2.2.2.2.2.2.2.1 w q9)
  · have e9 := htab [] htb
    rw [e9] at hx9; cases hx9
  · refine ⟨rfl, ⟨ad, he, ?_, hD, wf, g1⟩, ⟨Nat.le_trans hS.1 hz1, fun q9 h1 h2 => ?_⟩⟩
    · exact hR.kept (fun k9 x9 h9 => hz2 x9.1 ((hR k9 x9 h9).lt))
    · rw [hz2 q9 (Nat.lt_of_lt_of_le h1 hS.1)]; exact hS.2.1 q9 h1 h2
end GOX
