theorem pure_law (sl : Nat) (sc : Nat → Int) (hsc : ∀ j, in32 (sc j)) (hsl : sl ≤ 3072) : ∃ (F : Nat) (hf : HP), XL_law F sl sc hz = some (1, hf) ∧ gc hf ≤ 601024 ∧ gs hf ≤ 7293033 := sorry
