/-! words: the class's long text of words, the reference's one by one -/
def mW (c : Nat → Int) : List Int → Nat → Nat → Prop
  | [], a, e => a = e
  | x :: w, a, e => a < e ∧ c a = x ∧ mW c w (a + 1) e
theorem mW_len (c : Nat → Int) : ∀ (w : List Int) (a e : Nat), mW c w a e → e = a + w.length := by
  intro w
  induction w with
  | nil => intro a e h; exact (show a = e from h).symm
  | cons x w ih => intro a e h; have := ih (a + 1) e h.2.2; rw [List.length_cons]; omega
theorem mW_one (c : Nat → Int) : ∀ (w v : List Int) (a e : Nat), mW c w a e → mW c v a e → w = v := by
  intro w
  induction w with
  | nil =>
    intro v a e h1 h2
    cases v with
    | nil => rfl
    | cons y v => have h1' : a = e := h1; have := h2.1; omega
  | cons x w ih =>
    intro v a e h1 h2
    cases v with
    | nil => have h2' : a = e := h2; have := h1.1; omega
    | cons y v => rw [ih v (a + 1) e h1.2.2 h2.2.2, ← h1.2.1, ← h2.2.1]
theorem kwA_no (c : Nat → Int) (a e : Nat) (s : List Int) (k : Int) : ∀ w : List Int, (∀ x ∈ w, x ≠ 32) → kwA c a e (w ++ 32 :: s) k none = kwA c a e s (k + 1) (some a) := by
  intro w
  induction w with
  | nil =>
    intro _
    show (if (32 : Int) = 32 then (if (none : Option Nat) = some e then k else kwA c a e s (k + 1) (some a)) else _) = _
    rw [if_pos rfl]
    exact if_neg (fun q => by cases q)
  | cons x w ih =>
    intro h
    show (if x = 32 then _ else kwA c a e (w ++ 32 :: s) k none) = _
    rw [if_neg (h x (List.mem_cons_self ..))]
    exact ih (fun y hy => h y (List.mem_cons_of_mem _ hy))
theorem kwA_w1 (c : Nat → Int) (a e : Nat) (s : List Int) (k : Int) : ∀ (w : List Int) (p : Nat), (∀ x ∈ w, x ≠ 32) → mW c w p e → kwA c a e (w ++ 32 :: s) k (some p) = k := by
  intro w
  induction w with
  | nil =>
    intro p _ h
    show (if (32 : Int) = 32 then (if some p = some e then k else _) else _) = _
    rw [if_pos rfl, if_pos (congrArg some h)]
  | cons x w ih =>
    intro p h m
    show (if x = 32 then _ else (if p < e ∧ c p = x then kwA c a e (w ++ 32 :: s) k (some (p + 1)) else _)) = _
    rw [if_neg (h x (List.mem_cons_self ..)), if_pos ⟨m.1, m.2.1⟩]
    exact ih (p + 1) (fun y hy => h y (List.mem_cons_of_mem _ hy)) m.2.2
theorem kwA_w0 (c : Nat → Int) (a e : Nat) (s : List Int) (k : Int) : ∀ (w : List Int) (p : Nat), (∀ x ∈ w, x ≠ 32) → ¬ mW c w p e → kwA c a e (w ++ 32 :: s) k (some p) = kwA c a e s (k + 1) (some a) := by
  intro w
  induction w with
  | nil =>
    intro p _ h
    show (if (32 : Int) = 32 then (if some p = some e then k else kwA c a e s (k + 1) (some a)) else _) = _
    rw [if_pos rfl, if_neg (fun q => h (Option.some.inj q))]
  | cons x w ih =>
    intro p h m
    have h' := fun y hy => h y (List.mem_cons_of_mem x hy)
    show (if x = 32 then _ else (if p < e ∧ c p = x then kwA c a e (w ++ 32 :: s) k (some (p + 1)) else kwA c a e (w ++ 32 :: s) k none)) = _
    rw [if_neg (h x (List.mem_cons_self ..))]
    by_cases q : p < e ∧ c p = x
    · rw [if_pos q]
      exact ih (p + 1) h' (fun w => m ⟨q.1, q.2, w⟩)
    · rw [if_neg q]
      exact kwA_no c a e s k w h'
theorem kw_at (c : Nat → Int) (a e : Nat) : ∀ (ws : List (List Int)) (k : Int), 0 ≤ k → (∀ w ∈ ws, ∀ x ∈ w, x ≠ 32) → ws.Nodup → ∀ (i : Nat) (w : List Int), ws[i]? = some w → (kwA c a e (ws.flatMap (fun w => w ++ [32])) k (some a) = k + i ↔ mW c w a e) := by
  intro ws
  induction ws with
  | nil => intro k _ _ _ i w h; cases h
  | cons v ws ih =>
    intro k hk hb hn i w h
    have hv := hb v (List.mem_cons_self ..)
    have hb' := fun w hw => hb w (List.mem_cons_of_mem v hw)
    obtain ⟨n1, n2⟩ := List.nodup_cons.mp hn
    have e1 : (v :: ws).flatMap (fun w => w ++ [32]) = v ++ 32 :: ws.flatMap (fun w => w ++ [32]) := by
      rw [List.flatMap_cons, List.append_assoc]
      rfl
    rw [e1]
    by_cases m : mW c v a e
    · rw [kwA_w1 c a e _ k v a hv m]
      cases i with
      | zero =>
        have h' : some v = some w := h
        cases h'
        exact ⟨fun _ => m, fun _ => by omega⟩
      | succ i =>
        have h' : ws[i]? = some w := h
        refine ⟨fun q => absurd q (by omega), fun q => ?_⟩
        have ev := mW_one c v w a e m q
        exact absurd (List.mem_of_getElem? h') (by rw [← ev]; exact n1)
    · rw [kwA_w0 c a e _ k v a hv m]
      cases i with
      | zero =>
        have h' : some v = some w := h
        cases h'
        refine ⟨fun q => ?_, fun q => absurd q m⟩
        rcases kwA_ge c a e (ws.flatMap (fun w => w ++ [32])) (k + 1) (some a) (by omega) with z | z
        · omega
        · omega
      | succ i =>
        have x := ih (k + 1) (by omega) hb' n2 i w h
        rw [← x]
        constructor
        · intro q; rw [q]; omega
        · intro q; rw [q]; omega
/-- the word of string j -/
def wdS (j : Nat) : List Int := (STB j).map Int32.toInt
def wdO : List Nat := [1, 2, 3, 15, 16, 4, 17, 5, 6, 7, 14, 13, 8, 12, 11, 9, 10]
theorem kwS_eq : kwS = (wdO.map wdS).flatMap (fun w => w ++ [32]) := by decide +kernel
theorem wdO_b : ∀ w ∈ wdO.map wdS, ∀ x ∈ w, x ≠ 32 := by decide +kernel
theorem wdO_n : (wdO.map wdS).Nodup := by decide +kernel
theorem kw_word (c : Nat → Int) (a e i j : Nat) (h : wdO[i]? = some j) : kwA c a e kwS 256 (some a) = 256 + i ↔ mW c (wdS j) a e := by
  rw [kwS_eq]
  exact kw_at c a e _ 256 (by decide) wdO_b wdO_n i (wdS j) (by rw [List.getElem?_map, h]; rfl)
