section PN2
variable {F : Nat} {W : Int → Int} {J : List Nat} {M C : Int}
theorem E_node {t : List Nat} {h : HP} (g : JgW W) (hJ : ∀ j ∈ J, (j : Int) < W 8) (hl : J.length ≤ 7) (n : NdC W J M C t h) (j o : Nat) (ej : J[t.length]? = some j) (ho : o < 4) (may : mayB (haP W J) (blP W J) t o) (ca : Nat → Option Nat → Int → Int → HP → Option (Unit × HP)) (cs : Nat → Option Nat → Int → HP → Option (Unit × HP)) : ∃ h5, (X6_attempt F ca cs 103 (some 19) t.length o h = if M < smF (msP W J) 0 (t ++ [o]) then some ((), h5) else if C < smF (hsP W J) 0 (t ++ [o]) then some ((), h5) else xb (cs 103 (some 19) ((t.length + 1 : Nat) : Int) (sA h5 105 t.length o)) fun _ h13 => some ((), h13)) ∧ Fr t.length h h5 ∧ (∀ q B, BsC q B h → BsC q B h5) ∧ NdC W J M C (t ++ [o]) (sA h5 105 t.length o) := by
  have mh := (E_mayHave (F := F) g hJ hl n j o ej ho).1 may
  have n0 := n
  obtain ⟨⟨L, n1, n2, n3⟩, n4, n5, ⟨n6, n7, n8, n9, n10⟩, n11, n12, n13⟩ := n
  have hp : t.length < J.length := (List.getElem?_eq_some_iff.mp ej).1
  have hj := hJ j (List.mem_of_getElem? ej)
  have g8 := g.1
  have e4 := n4 _ _ ej
  have el := n13 j (by omega) hj
  obtain ⟨f0, f1, f2, -, -, f6, f7, -⟩ := n12 j hj
  have b1 := smF_b (wsP W J) 1000 (wsP_nn g hJ) t 0
  have b2 := smF_b (msP W J) 60 (msP_nn g hJ) t 0
  have b3 := smF_b (hsP W J) 480 (hsP_nn g hJ) t 0
  have c1 := wsP_nn g hJ t.length o
  have c2 := msP_nn g hJ t.length o
  have c3 := hsP_nn g hJ t.length o
  have s1 : smF (wsP W J) 0 (t ++ [o]) = smF (wsP W J) 0 t + wsP W J t.length o := by rw [smF_app, Nat.zero_add]
  have s2 : smF (msP W J) 0 (t ++ [o]) = smF (msP W J) 0 t + msP W J t.length o := by rw [smF_app, Nat.zero_add]
  have s3 : smF (hsP W J) 0 (t ++ [o]) = smF (hsP W J) 0 t + hsP W J t.length o := by rw [smF_app, Nat.zero_add]
  have jb : ∀ f, jbF W J f t.length = W (169 + 882 * j + f) := fun f => by unfold jbF; rw [ej]
  have v1 : (if (o : Int) = 3 then 0 else if (o : Int) = 1 then gI h (25 + j) 7 else gI h (25 + j) 1) = wsP W J t.length o := by
    rw [f7, f1]; unfold wsP; rw [jb, jb]
    have : o = 0 ∨ o = 1 ∨ o = 2 ∨ o = 3 := by omega
    rcases this with rfl | rfl | rfl | rfl <;> rfl
  have v2 : (if (o : Int) = 0 then gI h (25 + j) 0 else if (o : Int) = 1 then gI h (25 + j) 6 else 0) = msP W J t.length o := by
    rw [f0, f6]; unfold msP; rw [jb, jb]
    have : o = 0 ∨ o = 1 ∨ o = 2 ∨ o = 3 := by omega
    rcases this with rfl | rfl | rfl | rfl <;> rfl
  have v3 : (if (o : Int) = 2 then gI h (25 + j) 2 else 0) = hsP W J t.length o := by
    rw [f2]; unfold hsP; rw [jb]
    have : o = 0 ∨ o = 1 ∨ o = 2 ∨ o = 3 := by omega
    rcases this with rfl | rfl | rfl | rfl <;> rfl
  have w1 : w32 (smF (wsP W J) 0 t + (if (o : Int) = 3 then 0 else if (o : Int) = 1 then gI h (25 + j) 7 else gI h (25 + j) 1)) = smF (wsP W J) 0 (t ++ [o]) := by rw [v1, s1]; clear v1 v2 v3; exact w32i _ (by omega) (by omega)
  have w2 : w32 (smF (msP W J) 0 t + (if (o : Int) = 0 then gI h (25 + j) 0 else if (o : Int) = 1 then gI h (25 + j) 6 else 0)) = smF (msP W J) 0 (t ++ [o]) := by rw [v2, s2]; clear v1 v2 v3 w1; exact w32i _ (by omega) (by omega)
  have w3 : w32 (smF (hsP W J) 0 t + (if (o : Int) = 2 then gI h (25 + j) 2 else 0)) = smF (hsP W J) 0 (t ++ [o]) := by rw [v3, s3]; clear v1 v2 v3 w1 w2; exact w32i _ (by omega) (by omega)
  have w4 : xor_ (aI h 110 t.length) (if (o : Int) = 3 then xshl 1 j else 0) = xor_ (aI h 110 t.length) (if o = 3 then xshl 1 j else 0) := by
    have : o = 0 ∨ o = 1 ∨ o = 2 ∨ o = 3 := by omega
    rcases this with rfl | rfl | rfl | rfl <;> rfl
  have w5 : xor_ (aI h 111 t.length) (if (o : Int) = 3 then 0 else lns W j) = xor_ (aI h 111 t.length) (if o = 3 then 0 else lns W j) := by
    have : o = 0 ∨ o = 1 ∨ o = 2 ∨ o = 3 := by omega
    rcases this with rfl | rfl | rfl | rfl <;> rfl
  clear b1 b2 b3 c1 c2 c3 v1 v2 v3
  have d1 := drB.app n9 o j ej (by clear w1 w2 w3 w4 w5; omega)
  have d2 := ndB.app g8 n10 o j ej
  have x := E_atm (F := F) L t.length j (by clear w1 w2 w3 w4 w5; omega) (by clear w1 w2 w3 w4 w5; omega) o M C _ _ _ _ _ (lns W j) mh e4 el n2 n3 n6 n7 n8 rfl rfl _ _ _ _ _ w1 w2 w3 w4 w5 ca cs
  clear w1 w2 w3 w4 w5
  have fr := nxH.fr h t.length (smF (wsP W J) 0 (t ++ [o])) (smF (msP W J) 0 (t ++ [o])) (smF (hsP W J) 0 (t ++ [o])) (xor_ (aI h 110 t.length) (if o = 3 then xshl 1 j else 0)) (xor_ (aI h 111 t.length) (if o = 3 then 0 else lns W j))
  refine ⟨_, x, fr, fun q B b => nxH.bs b _ _ _ _ _ _, ?_⟩
  have r7 : aI (nxH h t.length (smF (wsP W J) 0 (t ++ [o])) (smF (msP W J) 0 (t ++ [o])) (smF (hsP W J) 0 (t ++ [o])) (xor_ (aI h 110 t.length) (if o = 3 then xshl 1 j else 0)) (xor_ (aI h 111 t.length) (if o = 3 then 0 else lns W j))) 107 ((t.length + 1 : Nat) : Int) = smF (wsP W J) 0 (t ++ [o]) := by
    unfold nxH; rw [aI_sAn _ _ _ _ _ (by decide), aI_sAn _ _ _ _ _ (by decide), aI_sAn _ _ _ _ _ (by decide), aI_sAn _ _ _ _ _ (by decide), aI_sAe]
  have r8 : aI (nxH h t.length (smF (wsP W J) 0 (t ++ [o])) (smF (msP W J) 0 (t ++ [o])) (smF (hsP W J) 0 (t ++ [o])) (xor_ (aI h 110 t.length) (if o = 3 then xshl 1 j else 0)) (xor_ (aI h 111 t.length) (if o = 3 then 0 else lns W j))) 108 ((t.length + 1 : Nat) : Int) = smF (msP W J) 0 (t ++ [o]) := by
    unfold nxH; rw [aI_sAn _ _ _ _ _ (by decide), aI_sAn _ _ _ _ _ (by decide), aI_sAn _ _ _ _ _ (by decide), aI_sAe]
  have r9 : aI (nxH h t.length (smF (wsP W J) 0 (t ++ [o])) (smF (msP W J) 0 (t ++ [o])) (smF (hsP W J) 0 (t ++ [o])) (xor_ (aI h 110 t.length) (if o = 3 then xshl 1 j else 0)) (xor_ (aI h 111 t.length) (if o = 3 then 0 else lns W j))) 109 ((t.length + 1 : Nat) : Int) = smF (hsP W J) 0 (t ++ [o]) := by
    unfold nxH; rw [aI_sAn _ _ _ _ _ (by decide), aI_sAn _ _ _ _ _ (by decide), aI_sAe]
  have r10 : aI (nxH h t.length (smF (wsP W J) 0 (t ++ [o])) (smF (msP W J) 0 (t ++ [o])) (smF (hsP W J) 0 (t ++ [o])) (xor_ (aI h 110 t.length) (if o = 3 then xshl 1 j else 0)) (xor_ (aI h 111 t.length) (if o = 3 then 0 else lns W j))) 110 ((t.length + 1 : Nat) : Int) = xor_ (aI h 110 t.length) (if o = 3 then xshl 1 j else 0) := by
    unfold nxH; rw [aI_sAn _ _ _ _ _ (by decide), aI_sAe]
  have r11 : aI (nxH h t.length (smF (wsP W J) 0 (t ++ [o])) (smF (msP W J) 0 (t ++ [o])) (smF (hsP W J) 0 (t ++ [o])) (xor_ (aI h 110 t.length) (if o = 3 then xshl 1 j else 0)) (xor_ (aI h 111 t.length) (if o = 3 then 0 else lns W j))) 111 ((t.length + 1 : Nat) : Int) = xor_ (aI h 111 t.length) (if o = 3 then 0 else lns W j) := by
    unfold nxH; rw [aI_sAe]
  generalize nxH h t.length (smF (wsP W J) 0 (t ++ [o])) (smF (msP W J) 0 (t ++ [o])) (smF (hsP W J) 0 (t ++ [o])) (xor_ (aI h 110 t.length) (if o = 3 then xshl 1 j else 0)) (xor_ (aI h 111 t.length) (if o = 3 then 0 else lns W j)) = h5 at fr r7 r8 r9 r10 r11 ⊢
  have len : (t ++ [o]).length = t.length + 1 := by rw [List.length_append, List.length_singleton]
  obtain ⟨x1, x2, x3, x4, x5, x6, x7, x8, x9, x10, x11, x12⟩ := fr
  have A : ∀ a, a ≠ 105 → aI (sA h5 105 t.length o) a = aI h5 a := fun a ha => aI_sAn _ _ _ _ _ ha
  have G : ∀ a, a ≠ 105 → gI (sA h5 105 t.length o) a = gI h5 a := fun a ha => gI_sAn _ _ _ _ _ ha
  refine ⟨⟨by rw [LayC_sA]; exact L.of x9 x8, ?_, ?_, ?_⟩, fun p j' e => ?_, fun p hp' => ?_, ⟨?_, ?_, ?_, ?_, ?_⟩, fun i a e => ?_, fun j' hj' => ?_, fun j' h1 h2 => ?_⟩
  · rw [G 103 (by decide)]; exact (x2 9 (by decide)).trans n1
  · rw [G 103 (by decide)]; exact (x2 10 (by decide)).trans n2
  · rw [G 103 (by decide)]; exact (x2 11 (by decide)).trans n3
  · rw [A 104 (by decide)]; show gI h5 104 _ = _; rw [x3]; exact n4 p j' e
  · rw [A 112 (by decide)]; show gI h5 112 _ = _; rw [x4]; exact n5 p hp'
  · rw [A 107 (by decide), len]; exact r7
  · rw [A 108 (by decide), len]; exact r8
  · rw [A 109 (by decide), len]; exact r9
  · rw [A 110 (by decide), len, r10]; exact d1
  · rw [A 111 (by decide), len, r11]; exact d2
  · rw [aI_sA _ _ _ _ _ (by omega) (by omega)]
    rcases (get_app t o i a).mp e with q | ⟨q1, q2⟩
    · have : i < t.length := (List.getElem?_eq_some_iff.mp q).1
      rw [if_neg (by omega)]
      show gI h5 105 _ = _
      rw [x5 _ (by simp; exact this)]; exact n11 i a q
    · rw [if_pos (by omega), q2]
  · have e : gI (sA h5 105 t.length o) (25 + j') = gI h (25 + j') := (G _ (by clear n12; omega)).trans (x1 (25 + j') (by clear n12; omega))
    have z := n12 j' hj'
    clear n12
    unfold JBf at z ⊢
    rw [e]; exact z
  · rw [A 21 (by decide)]; show gI h5 21 _ = _; rw [x1 21 (by decide)]; exact n13 j' h1 h2
end PN2
