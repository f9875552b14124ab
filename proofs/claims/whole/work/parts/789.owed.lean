/-! owed: the calls whose lemma is still wanting -/
section OW
variable {F : Nat} {h : HP} {n : Int}
theorem J_job (hF : 60000 ≤ F) (r : RA n h) (hn : n < 512) (a b c d e : Int) : ∃ k h1 v h2, XL_job F (some 1) a b c d e (some 126) h = some (k, h1) ∧ X12_job F 113 a b c d e h1 = some (v, h2) ∧ OKJ n k v h2 := sorry
end OW
