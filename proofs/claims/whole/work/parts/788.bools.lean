/-! what a boolean method of the reference answers -/
def B01 (o : Option (Int × HP)) : Prop := ∀ v h, o = some (v, h) → v = 0 ∨ v = 1
theorem B01.c0 (h : HP) : B01 (some (0, h)) := fun v h2 e => by cases e; exact Or.inl rfl
theorem B01.c1 (h : HP) : B01 (some (1, h)) := fun v h2 e => by cases e; exact Or.inr rfl
theorem B01.pz (z : Int) (h : HP) : B01 (xz z h) := fun v h2 e => by
  unfold xz at e; split at e
  · next c => cases e; exact c
  · cases e
theorem B01.pite {c : Prop} [Decidable c] {a b : Option (Int × HP)} (x : B01 a) (y : B01 b) : B01 (if c then a else b) := by
  split
  · exact x
  · exact y
theorem B01.pb {α : Type} {o : Option (α × HP)} {f : α → HP → Option (Int × HP)} (x : ∀ v h, B01 (f v h)) : B01 (xb o f) := fun v h2 e => by
  obtain ⟨a, h1, -, e2⟩ := xb_some e; exact x a h1 v h2 e2
theorem B01.pif {c : Prop} [Decidable c] (h : HP) : B01 (some (if c then 0 else 1, h)) := fun v h2 e => by
  cases e; split
  · exact Or.inl rfl
  · exact Or.inr rfl
theorem B01.pbind {α : Type} {o : Option α} {f : α → Option (Int × HP)} (x : ∀ v, B01 (f v)) : B01 (o.bind f) := fun v h2 e => by
  obtain ⟨a, -, e2⟩ := Option.bind_eq_some_iff.mp e; exact x a v h2 e2
theorem vb_way {F : Nat} {h h2 : HP} {a b v : Int} (e : X12_way F 113 a b h = some (v, h2)) : v = 0 ∨ v = 1 := by
  have q : B01 (X12_way F 113 a b h) := by
    unfold X12_way
    repeat' (first | with_reducible exact B01.c0 _ | with_reducible exact B01.c1 _ | with_reducible exact B01.pz _ _ | with_reducible exact B01.pif _ | with_reducible apply B01.pite | (with_reducible apply B01.pb; intro _ _) | (with_reducible apply B01.pbind; intro _) | unfold X12_way_L90 | unfold X12_way_L74 | unfold X12_way_L33)
  exact q _ _ e
theorem vb_drop {F : Nat} {h h2 : HP} {a v : Int} (e : X12_drop F 113 a h = some (v, h2)) : v = 0 ∨ v = 1 := by
  have q : B01 (X12_drop F 113 a h) := by
    unfold X12_drop
    repeat' (first | with_reducible exact B01.c0 _ | with_reducible exact B01.c1 _ | with_reducible exact B01.pz _ _ | with_reducible exact B01.pif _ | with_reducible apply B01.pite | (with_reducible apply B01.pb; intro _ _) | (with_reducible apply B01.pbind; intro _))
  exact q _ _ e
theorem vb_again {F : Nat} {h h2 : HP} {a v : Int} (e : X12_again F 113 a h = some (v, h2)) : v = 0 ∨ v = 1 := by
  have q : B01 (X12_again F 113 a h) := by
    unfold X12_again
    repeat' (first | with_reducible exact B01.c0 _ | with_reducible exact B01.c1 _ | with_reducible exact B01.pz _ _ | with_reducible exact B01.pif _ | with_reducible apply B01.pite | (with_reducible apply B01.pb; intro _ _) | (with_reducible apply B01.pbind; intro _))
  exact q _ _ e
theorem vb_lamp {F : Nat} {h h2 : HP} {a b c v : Int} (e : X12_lamp F 113 a b c h = some (v, h2)) : v = 0 ∨ v = 1 := by
  have q : B01 (X12_lamp F 113 a b c h) := by
    unfold X12_lamp
    repeat' (first | with_reducible exact B01.c0 _ | with_reducible exact B01.c1 _ | with_reducible exact B01.pz _ _ | with_reducible exact B01.pif _ | with_reducible apply B01.pite | (with_reducible apply B01.pb; intro _ _) | (with_reducible apply B01.pbind; intro _) | unfold X12_lamp_L41 | unfold X12_lamp_L36)
  exact q _ _ e
theorem vb_doubt {F : Nat} {h h2 : HP} {a b v : Int} (e : X12_doubt F 113 a b h = some (v, h2)) : v = 0 ∨ v = 1 := by
  have q : B01 (X12_doubt F 113 a b h) := by
    unfold X12_doubt
    repeat' (first | with_reducible exact B01.c0 _ | with_reducible exact B01.c1 _ | with_reducible exact B01.pz _ _ | with_reducible exact B01.pif _ | with_reducible apply B01.pite | (with_reducible apply B01.pb; intro _ _) | (with_reducible apply B01.pbind; intro _) | unfold X12_doubt_L33)
  exact q _ _ e
theorem vb_far {F : Nat} {h h2 : HP} {a b v : Int} (e : X12_far F 113 a b h = some (v, h2)) : v = 0 ∨ v = 1 := by
  have q : B01 (X12_far F 113 a b h) := by
    unfold X12_far
    repeat' (first | with_reducible exact B01.c0 _ | with_reducible exact B01.c1 _ | with_reducible exact B01.pz _ _ | with_reducible exact B01.pif _ | with_reducible apply B01.pite | (with_reducible apply B01.pb; intro _ _) | (with_reducible apply B01.pbind; intro _) | unfold X12_far_L81 | unfold X12_far_L25 | unfold X12_far_L20)
  exact q _ _ e
theorem vb_alter {F : Nat} {h h2 : HP} {a b c v : Int} (e : X12_alter F 113 a b c h = some (v, h2)) : v = 0 ∨ v = 1 := by
  have q : B01 (X12_alter F 113 a b c h) := by
    unfold X12_alter
    repeat' (first | with_reducible exact B01.c0 _ | with_reducible exact B01.c1 _ | with_reducible exact B01.pz _ _ | with_reducible exact B01.pif _ | with_reducible apply B01.pite | (with_reducible apply B01.pb; intro _ _) | (with_reducible apply B01.pbind; intro _) | unfold X12_alter_L68 | unfold X12_alter_L44 | unfold X12_alter_L39)
  exact q _ _ e
