/-! the loop, and what it comes to -/
theorem law_loop (F : Nat) (hF : 60000 ≤ F) (sl : Nat) (sc : Nat → Int) (hsc : ∀ j, in32 (sc j)) (hsl : sl ≤ 3072) : ∀ (m n k : Nat) (h : HP), m < k → n + m = sl / 6 → RA n h → ∃ hf, XL_law_L23 F sl sc k (some 1) (some 113) (some 126) (6 * (n : Int)) h = some (1, hf) ∧ gc hf ≤ 600000 ∧ gs hf ≤ 7000000 := by
  intro m
  induction m with
  | zero =>
    intro n k h hk hn r
    obtain ⟨k, rfl⟩ : ∃ k', k = k' + 1 := ⟨k - 1, by omega⟩
    have c1 : (gc h : Int) ≤ 1000 + 4 * n := r.2.2.2.2.2.2.2.2.2.2.2.2.2.2.2.2.2.2.1
    have c2 : (gs h : Int) ≤ 300000 + 1300 * n := r.2.2.2.2.2.2.2.2.2.2.2.2.2.2.2.2.2.2.2.1
    refine ⟨h, ?_, by omega, by omega⟩
    rw [XL_law_L23_s, if_pos (by rw [w32i _ (by omega) (by omega)]; omega)]
  | succ m ih =>
    intro n k h hk hn r
    obtain ⟨k, rfl⟩ : ∃ k', k = k' + 1 := ⟨k - 1, by omega⟩
    have hi := fun h' (r' : RA ((n : Int) + 1) h') => ih (n + 1) k h' (by omega) (by omega) (by rw [show ((n + 1 : Nat) : Int) = (n : Int) + 1 by omega]; exact r')
    have e6 : w32 (6 * (n : Int) + 6) = 6 * ((n + 1 : Nat) : Int) := by rw [w32i _ (by omega) (by omega)]; omega
    have fin : ∀ X : Option (Int × HP), (∃ h2, X = XL_law_L23 F sl sc k (some 1) (some 113) (some 126) (w32 (6 * (n : Int) + 6)) h2 ∧ RA ((n : Int) + 1) h2) → ∃ hf, X = some (1, hf) ∧ gc hf ≤ 600000 ∧ gs hf ≤ 7000000 := by
      rintro X ⟨h2, e, r2⟩
      obtain ⟨hf, x1, x2⟩ := hi h2 r2
      exact ⟨hf, by rw [e, e6]; exact x1, x2⟩
    rw [XL_law_L23_s, if_neg (by rw [w32i _ (by omega) (by omega)]; omega), b_sc sl sc _ _ (by omega) (by omega)]
    by_cases c0 : xand (sc (6 * (n : Int)).toNat) 63 = 0
    · rw [if_pos c0]; exact fin _ (K_feed hF hsc r (by omega) (by omega) (by omega) hsl _)
    rw [if_neg c0]
    by_cases c1 : xand (sc (6 * (n : Int)).toNat) 63 = 1
    · rw [if_pos c1]; exact fin _ (K_end hF hsc r (by omega) (by omega) (by omega) hsl _)
    rw [if_neg c1]
    by_cases c2 : xand (sc (6 * (n : Int)).toNat) 63 = 2
    · rw [if_pos c2]; exact fin _ (K_day hF hsc r (by omega) (by omega) (by omega) hsl _)
    rw [if_neg c2]
    by_cases c3 : xand (sc (6 * (n : Int)).toNat) 63 = 3
    · rw [if_pos c3]; exact fin _ (K_old hF hsc r (by omega) (by omega) (by omega) hsl _)
    rw [if_neg c3]
    by_cases c4 : xand (sc (6 * (n : Int)).toNat) 63 = 4
    · rw [if_pos c4]; exact fin _ (K_ring hF hsc r (by omega) (by omega) (by omega) hsl _)
    rw [if_neg c4]
    by_cases c5 : xand (sc (6 * (n : Int)).toNat) 63 = 5
    · rw [if_pos c5]; exact fin _ (K_tell hF hsc r (by omega) (by omega) (by omega) hsl _)
    rw [if_neg c5]
    by_cases c6 : xand (sc (6 * (n : Int)).toNat) 63 = 6
    · rw [if_pos c6]; exact fin _ (K_word hF hsc r (by omega) (by omega) (by omega) hsl _)
    rw [if_neg c6]
    by_cases c7 : xand (sc (6 * (n : Int)).toNat) 63 = 7
    · rw [if_pos c7]; exact fin _ (K_as hF hsc r (by omega) (by omega) (by omega) hsl _)
    rw [if_neg c7]
    by_cases c8 : xand (sc (6 * (n : Int)).toNat) 63 = 8
    · rw [if_pos c8]; exact fin _ (K_led hF hsc r (by omega) (by omega) (by omega) hsl _)
    rw [if_neg c8]
    by_cases c9 : xand (sc (6 * (n : Int)).toNat) 63 = 9
    · rw [if_pos c9]; exact fin _ (K_job hF hsc r (by omega) (by omega) (by omega) hsl _)
    rw [if_neg c9]
    by_cases c10 : xand (sc (6 * (n : Int)).toNat) 63 = 10
    · rw [if_pos c10]; exact fin _ (K_fault hF hsc r (by omega) (by omega) (by omega) hsl _)
    rw [if_neg c10]
    by_cases c11 : xand (sc (6 * (n : Int)).toNat) 63 = 11
    · rw [if_pos c11]; exact fin _ (K_shorter hF hsc r (by omega) (by omega) (by omega) hsl _)
    rw [if_neg c11]
    by_cases c12 : xand (sc (6 * (n : Int)).toNat) 63 = 12
    · rw [if_pos c12]; exact fin _ (K_words hF hsc r (by omega) (by omega) (by omega) hsl _)
    rw [if_neg c12]
    by_cases c13 : xand (sc (6 * (n : Int)).toNat) 63 = 13
    · rw [if_pos c13]; exact fin _ (K_leans hF hsc r (by omega) (by omega) (by omega) hsl _)
    rw [if_neg c13]
    by_cases c14 : xand (sc (6 * (n : Int)).toNat) 63 = 14
    · rw [if_pos c14]; exact fin _ (K_quarrel hF hsc r (by omega) (by omega) (by omega) hsl _)
    rw [if_neg c14]
    by_cases c15 : xand (sc (6 * (n : Int)).toNat) 63 = 15
    · rw [if_pos c15]; exact fin _ (K_order hF hsc r (by omega) (by omega) (by omega) hsl _)
    rw [if_neg c15]
    by_cases c16 : xand (sc (6 * (n : Int)).toNat) 63 = 16
    · rw [if_pos c16]; exact fin _ (K_way hF hsc r (by omega) (by omega) (by omega) hsl _)
    rw [if_neg c16]
    by_cases c17 : xand (sc (6 * (n : Int)).toNat) 63 = 17
    · rw [if_pos c17]; exact fin _ (K_drop hF hsc r (by omega) (by omega) (by omega) hsl _)
    rw [if_neg c17]
    by_cases c18 : xand (sc (6 * (n : Int)).toNat) 63 = 18
    · rw [if_pos c18]; exact fin _ (K_again hF hsc r (by omega) (by omega) (by omega) hsl _)
    rw [if_neg c18]
    by_cases c19 : xand (sc (6 * (n : Int)).toNat) 63 = 19
    · rw [if_pos c19]; exact fin _ (K_out hF hsc r (by omega) (by omega) (by omega) hsl _)
    rw [if_neg c19]
    by_cases c20 : xand (sc (6 * (n : Int)).toNat) 63 = 20
    · rw [if_pos c20]; exact fin _ (K_minutes hF hsc r (by omega) (by omega) (by omega) hsl _)
    rw [if_neg c20]
    by_cases c21 : xand (sc (6 * (n : Int)).toNat) 63 = 21
    · rw [if_pos c21]; exact fin _ (K_look hF hsc r (by omega) (by omega) (by omega) hsl _)
    rw [if_neg c21]
    by_cases c22 : xand (sc (6 * (n : Int)).toNat) 63 = 22
    · rw [if_pos c22]; exact fin _ (K_lamp hF hsc r (by omega) (by omega) (by omega) hsl _)
    rw [if_neg c22]
    by_cases c23 : xand (sc (6 * (n : Int)).toNat) 63 = 23
    · rw [if_pos c23]; exact fin _ (K_test hF hsc r (by omega) (by omega) (by omega) hsl _)
    rw [if_neg c23]
    by_cases c24 : xand (sc (6 * (n : Int)).toNat) 63 = 24
    · rw [if_pos c24]; exact fin _ (K_doubted hF hsc r (by omega) (by omega) (by omega) hsl _)
    rw [if_neg c24]
    by_cases c25 : xand (sc (6 * (n : Int)).toNat) 63 = 25
    · rw [if_pos c25]; exact fin _ (K_doubt hF hsc r (by omega) (by omega) (by omega) hsl _)
    rw [if_neg c25]
    by_cases c26 : xand (sc (6 * (n : Int)).toNat) 63 = 26
    · rw [if_pos c26]; exact fin _ (K_wanted hF hsc r (by omega) (by omega) (by omega) hsl _)
    rw [if_neg c26]
    by_cases c27 : xand (sc (6 * (n : Int)).toNat) 63 = 27
    · rw [if_pos c27]; exact fin _ (K_foretell hF hsc r (by omega) (by omega) (by omega) hsl _)
    rw [if_neg c27]
    by_cases c28 : xand (sc (6 * (n : Int)).toNat) 63 = 28
    · rw [if_pos c28]; exact fin _ (K_far hF hsc r (by omega) (by omega) (by omega) hsl _)
    rw [if_neg c28]
    by_cases c29 : xand (sc (6 * (n : Int)).toNat) 63 = 29
    · rw [if_pos c29]; exact fin _ (K_good hF hsc r (by omega) (by omega) (by omega) hsl _)
    rw [if_neg c29]
    by_cases c30 : xand (sc (6 * (n : Int)).toNat) 63 = 30
    · rw [if_pos c30]; exact fin _ (K_fleet hF hsc r (by omega) (by omega) (by omega) hsl _)
    rw [if_neg c30]
    by_cases c31 : xand (sc (6 * (n : Int)).toNat) 63 = 31
    · rw [if_pos c31]; exact fin _ (K_fill hF hsc r (by omega) (by omega) (by omega) hsl _)
    rw [if_neg c31]
    by_cases c32 : xand (sc (6 * (n : Int)).toNat) 63 = 32
    · rw [if_pos c32]; exact fin _ (K_cost hF hsc r (by omega) (by omega) (by omega) hsl _)
    rw [if_neg c32]
    by_cases c33 : xand (sc (6 * (n : Int)).toNat) 63 = 33
    · rw [if_pos c33]; exact fin _ (K_worker hF hsc r (by omega) (by omega) (by omega) hsl _)
    rw [if_neg c33]
    by_cases c34 : xand (sc (6 * (n : Int)).toNat) 63 = 34
    · rw [if_pos c34]; exact fin _ (K_alter hF hsc r (by omega) (by omega) (by omega) hsl _)
    rw [if_neg c34]
    by_cases c35 : xand (sc (6 * (n : Int)).toNat) 63 = 35
    · rw [if_pos c35]; exact fin _ (K_pay hF hsc r (by omega) (by omega) (by omega) hsl _)
    rw [if_neg c35]
    by_cases c36 : xand (sc (6 * (n : Int)).toNat) 63 = 36
    · rw [if_pos c36]; exact fin _ (K_wages hF hsc r (by omega) (by omega) (by omega) hsl _)
    rw [if_neg c36]
    by_cases c37 : xand (sc (6 * (n : Int)).toNat) 63 = 37
    · rw [if_pos c37]; exact fin _ (K_plan hF hsc r (by omega) (by omega) (by omega) hsl _)
    rw [if_neg c37]
    by_cases c38 : xand (sc (6 * (n : Int)).toNat) 63 = 38
    · rw [if_pos c38]; exact fin _ (K_which hF hsc r (by omega) (by omega) (by omega) hsl _)
    rw [if_neg c38]
    by_cases c39 : xand (sc (6 * (n : Int)).toNat) 63 = 39
    · rw [if_pos c39]; exact fin _ (K_beside hF hsc r (by omega) (by omega) (by omega) hsl _)
    rw [if_neg c39]
    by_cases c40 : xand (sc (6 * (n : Int)).toNat) 63 = 40
    · rw [if_pos c40]; exact fin _ (K_tear hF hsc r (by omega) (by omega) (by omega) hsl _)
    rw [if_neg c40]
    by_cases c41 : xand (sc (6 * (n : Int)).toNat) 63 = 41
    · rw [if_pos c41]; exact fin _ (K_check hF hsc r (by omega) (by omega) (by omega) hsl _)
    rw [if_neg c41]
    by_cases c42 : xand (sc (6 * (n : Int)).toNat) 63 = 42
    · rw [if_pos c42]; exact fin _ (K_image hF hsc r (by omega) (by omega) (by omega) hsl _)
    rw [if_neg c42]
    by_cases c43 : xand (sc (6 * (n : Int)).toNat) 63 = 43
    · rw [if_pos c43]; exact fin _ (K_back hF hsc r (by omega) (by omega) (by omega) hsl _)
    rw [if_neg c43]
    by_cases c44 : xand (sc (6 * (n : Int)).toNat) 63 = 44
    · rw [if_pos c44]; exact fin _ (K_count hF hsc r (by omega) (by omega) (by omega) hsl _)
    rw [if_neg c44]
    refine fin _ ⟨h, rfl, r.Q (Or.inl (Qs.rf h))⟩
theorem pure_law (sl : Nat) (sc : Nat → Int) (hsc : ∀ j, in32 (sc j)) (hsl : sl ≤ 3072) : ∃ (F : Nat) (hf : HP), XL_law F sl sc hz = some (1, hf) ∧ gc hf ≤ 600000 ∧ gs hf ≤ 7000000 := by
  obtain ⟨hf, x1, x2, x3⟩ := law_loop 60000 (Nat.le_refl _) sl sc hsc hsl (sl / 6) 0 60000 hE (by omega) (by omega) st_RA
  exact ⟨60000, hf, by rw [st_law]; exact x1, x2, x3⟩
