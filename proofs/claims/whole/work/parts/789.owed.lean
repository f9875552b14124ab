/-! owed: the calls whose lemma is still wanting -/
section OW
variable {F : Nat} {h : HP} {n : Int}
theorem J_job (hF : 60000 ≤ F) (r : RA n h) (hn : n < 512) (a b c d e : Int) : ∃ k h1 v h2, XL_job F (some 1) a b c d e (some 126) h = some (k, h1) ∧ X12_job F 113 a b c d e h1 = some (v, h2) ∧ OKJ n k v h2 := sorry
theorem J_minutes (hF : 60000 ≤ F) (r : RA n h) (hn : n < 512) (a : Int) : ∃ k h1 v h2, XL_minutes F (some 1) a (some 126) h = some (k, h1) ∧ X12_minutes F 113 a h1 = some (v, h2) ∧ OKJ n k v h2 := sorry
theorem J_test (hF : 60000 ≤ F) (r : RA n h) (a b : Int) : ∃ k h1 v h2, XL_test F (some 1) a b (some 126) h = some (k, h1) ∧ X12_test F 113 a b h1 = some (v, h2) ∧ OKJ n k v h2 := sorry
theorem J_doubted (hF : 60000 ≤ F) (r : RA n h) : ∃ v h1 h2, X11_doubted F 1 h = some (v, h1) ∧ X12_doubted F 113 h1 = some (v, h2) ∧ RA (n + 1) h2 := sorry
theorem J_doubt (hF : 60000 ≤ F) (r : RA n h) (a b : Int) : ∃ k h1 v h2, XL_doubt F (some 1) a b (some 126) h = some (k, h1) ∧ X12_doubt F 113 a b h1 = some (v, h2) ∧ OKJ n k v h2 := sorry
theorem J_fill (hF : 60000 ≤ F) (r : RA n h) (a : Int) : ∃ v h1 h2, X11_fill F 1 a h = some (v, h1) ∧ X12_fill F 113 a h1 = some (v, h2) ∧ RA (n + 1) h2 := sorry
theorem J_cost (hF : 60000 ≤ F) (r : RA n h) (a : Int) : ∃ k h1 v h2, XL_cost F (some 1) a (some 126) h = some (k, h1) ∧ X12_cost F 113 a h1 = some (v, h2) ∧ OKJ n k v h2 := sorry
theorem J_wages (hF : 60000 ≤ F) (r : RA n h) : ∃ v h1 h2, X11_wages F 1 h = some (v, h1) ∧ X12_wages F 113 h1 = some (v, h2) ∧ RA (n + 1) h2 := sorry
theorem J_plan (hF : 60000 ≤ F) (r : RA n h) (a b : Int) : ∃ k h1 v h2, XL_plan F (some 1) a b (some 126) h = some (k, h1) ∧ X12_plan F 113 a b h1 = some (v, h2) ∧ OKJ n k v h2 := sorry
theorem J_which (hF : 60000 ≤ F) (r : RA n h) (a b c : Int) : ∃ k h1 v h2, XL_which F (some 1) a b c (some 126) h = some (k, h1) ∧ X12_which F 113 a b c h1 = some (v, h2) ∧ OKJ n k v h2 := sorry
theorem J_beside (hF : 60000 ≤ F) (r : RA n h) (a : Int) : ∃ v h1 h2, X11_beside F 1 a h = some (v, h1) ∧ X12_beside F 113 a h1 = some (v, h2) ∧ RA (n + 1) h2 := sorry
theorem J_image (hF : 60000 ≤ F) (r : RA n h) : ∃ h1 h2, X11_image F 1 h = some ((), h1) ∧ X12_image F 113 h1 = some ((), h2) ∧ RA (n + 1) h2 := sorry
theorem J_back (hF : 60000 ≤ F) (r : RA n h) : ∃ v h1 h2, X11_back F 1 h = some (v, h1) ∧ X12_back F 113 h1 = some (v, h2) ∧ RA (n + 1) h2 := sorry
end OW
