section PQ
variable {F : Nat} {W : Int → Int} {J : List Nat} {M C : Int}
theorem cnP_iff {J : List Nat} (j k o : Nat) (ej : J[k]? = some j) (ho : o < 4) (cn : Int) (hc : cn = 0 ∨ cn = 1) : (cnP W j o cn = 0 ∨ cnP W j o cn = 1) ∧ (cnP W j o cn = 1 ↔ cn = 1 ∧ haP W J k o) := by
  have jb : ∀ f, jbF W J f k = W (169 + 882 * j + f) := fun f => by unfold jbF; rw [ej]
  unfold haP cnP
  rw [jb, jb]
  have : o = 0 ∨ o = 1 ∨ o = 2 ∨ o = 3 := by omega
  rcases hc with rfl | rfl
  · rw [if_pos rfl]; exact ⟨Or.inl rfl, ⟨fun q => absurd q (by decide), fun q => absurd q.1 (by decide)⟩⟩
  · rw [if_neg (by decide)]
    rcases this with rfl | rfl | rfl | rfl
    · rw [if_neg (by omega), if_neg (by omega)]
      exact ⟨Or.inr rfl, ⟨fun _ => ⟨rfl, Or.inl rfl⟩, fun _ => rfl⟩⟩
    · by_cases d : W (169 + 882 * j + 5) ≤ 0
      · rw [if_pos ⟨rfl, d⟩]
        exact ⟨Or.inl rfl, ⟨fun q => absurd q (by decide), fun q => by have := q.2; omega⟩⟩
      · rw [if_neg (fun q => d q.2), if_neg (by omega)]
        exact ⟨Or.inr rfl, ⟨fun _ => ⟨rfl, Or.inr (Or.inl ⟨rfl, by omega⟩)⟩, fun _ => rfl⟩⟩
    · rw [if_neg (by omega)]
      by_cases d : W (169 + 882 * j + 2) ≤ 0
      · rw [if_pos ⟨rfl, d⟩]
        exact ⟨Or.inl rfl, ⟨fun q => absurd q (by decide), fun q => by have := q.2; omega⟩⟩
      · rw [if_neg (fun q => d q.2)]
        exact ⟨Or.inr rfl, ⟨fun _ => ⟨rfl, Or.inr (Or.inr (Or.inl ⟨rfl, by omega⟩))⟩, fun _ => rfl⟩⟩
    · rw [if_neg (by omega), if_neg (by omega)]
      exact ⟨Or.inr rfl, ⟨fun _ => ⟨rfl, Or.inr (Or.inr (Or.inr rfl))⟩, fun _ => rfl⟩⟩
/-- the loop over the places: all that it sums -/
theorem E_pl {h : HP} (g : JgW W) (hJ : ∀ j ∈ J, (j : Int) < W 8) (hl : J.length ≤ 7) (n : NdM W J h) (c : Nat) (hc : c < 16384) (rc79 : Nat → Int → Int → Int → Int → Int → HP → Option (Unit × HP)) (m3 m4 : Int) (t : List Nat) (et : t = dgs J.length c) : ∀ (s pre : List Nat) (f : Nat) (z cn : Int), pre ++ s = t → drB J pre z → (cn = 0 ∨ cn = 1) → (cn = 1 ↔ hsA (haP W J) pre) → ∃ z' cn', drB J t z' ∧ (cn' = 0 ∨ cn' = 1) ∧ (cn' = 1 ↔ hsA (haP W J) t) ∧ X12_plans_L110 F rc79 (f + s.length) 113 M C m3 m4 c (smF (wsP W J) 0 pre) (smF (msP W J) 0 pre) (smF (hsP W J) 0 pre) z cn pre.length h = X12_plans_L110 F rc79 f 113 M C m3 m4 c (smF (wsP W J) 0 t) (smF (msP W J) 0 t) (smF (hsP W J) 0 t) z' cn' J.length h := by
  have lt : t.length = J.length := by rw [et]; unfold dgs; simp
  intro s
  induction s with
  | nil =>
    intro pre f z cn e d h1 h2
    rw [List.append_nil] at e
    subst e
    refine ⟨z, cn, d, h1, h2, ?_⟩
    rw [lt]; rfl
  | cons o s ih =>
    intro pre f z cn e d h1 h2
    have e' : (pre ++ [o]) ++ s = t := by rw [List.append_assoc]; exact e
    have hk : pre.length < J.length := by rw [← lt, ← e, List.length_append, List.length_cons]; omega
    have ho : t[pre.length]? = some o := by rw [← e, List.getElem?_append_right (Nat.le_refl _), Nat.sub_self]; rfl
    have hd : o = dgt J.length c pre.length := by
      rw [et] at ho
      unfold dgs at ho
      rw [List.getElem?_map, List.getElem?_range hk] at ho
      cases ho; rfl
    have o4 : o < 4 := by rw [hd]; unfold dgt; omega
    obtain ⟨j, ej⟩ : ∃ j, J[pre.length]? = some j := ⟨_, List.getElem?_eq_getElem hk⟩
    have hj := hJ j (List.mem_of_getElem? ej)
    have j12 : (j : Int) < 12 := by have := g.1.2; omega
    obtain ⟨L, rW, c26, c123⟩ := n
    have eop := E_opt (F := F) (h := h) J.length pre.length c hk hl hc
    rw [← hd] at eop
    have st := P110 (F := F) (M := M) (C := C) L rW J.length pre.length j j12 hk hl c26 (c123 _ _ ej) (o : Int) rc79 m3 m4 c (smF (wsP W J) 0 pre) (smF (msP W J) 0 pre) (smF (hsP W J) 0 pre) z cn eop (f + s.length)
    have jb : ∀ f, jbF W J f pre.length = W (169 + 882 * j + f) := fun f => by unfold jbF; rw [ej]
    have o5 : o = 0 ∨ o = 1 ∨ o = 2 ∨ o = 3 := by omega
    have v1 : (if (o : Int) = 3 then 0 else if (o : Int) = 1 then W (169 + 882 * j + 6) else W (169 + 882 * j + 1)) = wsP W J pre.length o := by
      unfold wsP; rw [jb, jb]
      rcases o5 with rfl | rfl | rfl | rfl <;> rfl
    have v2 : (if (o : Int) = 0 then W (169 + 882 * j + 0) else if (o : Int) = 1 then W (169 + 882 * j + 5) else 0) = msP W J pre.length o := by
      unfold msP; rw [jb, jb]
      rcases o5 with rfl | rfl | rfl | rfl <;> rfl
    have v3 : (if (o : Int) = 2 then W (169 + 882 * j + 2) else 0) = hsP W J pre.length o := by
      unfold hsP; rw [jb]
      rcases o5 with rfl | rfl | rfl | rfl <;> rfl
    have v4 : (if (o : Int) = 3 then xshl 1 j else 0) = if o = 3 then xshl 1 j else 0 := by
      rcases o5 with rfl | rfl | rfl | rfl <;> rfl
    have b1 := smF_b (wsP W J) 1000 (wsP_nn g hJ) pre 0
    have b2 := smF_b (msP W J) 60 (msP_nn g hJ) pre 0
    have b3 := smF_b (hsP W J) 480 (hsP_nn g hJ) pre 0
    have c1 := wsP_nn g hJ pre.length o
    have c2 := msP_nn g hJ pre.length o
    have c3 := hsP_nn g hJ pre.length o
    have s1 : smF (wsP W J) 0 (pre ++ [o]) = smF (wsP W J) 0 pre + wsP W J pre.length o := by rw [smF_app, Nat.zero_add]
    have s2 : smF (msP W J) 0 (pre ++ [o]) = smF (msP W J) 0 pre + msP W J pre.length o := by rw [smF_app, Nat.zero_add]
    have s3 : smF (hsP W J) 0 (pre ++ [o]) = smF (hsP W J) 0 pre + hsP W J pre.length o := by rw [smF_app, Nat.zero_add]
    rw [v1, v2, v3, v4] at st
    clear v1 v2 v3 v4
    rw [w32i (smF (wsP W J) 0 pre + wsP W J pre.length o) (by omega) (by omega), w32i (smF (msP W J) 0 pre + msP W J pre.length o) (by omega) (by omega), w32i (smF (hsP W J) 0 pre + hsP W J pre.length o) (by omega) (by omega), ← s1, ← s2, ← s3] at st
    clear b1 b2 b3 c1 c2 c3 s1 s2 s3
    have ci := cnP_iff (W := W) (J := J) j pre.length o ej o4 cn h1
    obtain ⟨z', cn', q1, q2, q3, q4⟩ := ih (pre ++ [o]) f _ (cnP W j o cn) e' (d.app o j ej (by omega)) ci.1 (by rw [ci.2, h2, hsA_app])
    refine ⟨z', cn', q1, q2, q3, ?_⟩
    rw [List.length_append, List.length_singleton] at q4
    rw [← q4, ← st]; rfl
/-- no job that is kept leans on one that is left out, asked place by place -/
def lnQ (W : Int → Int) (J t : List Nat) (z : Int) (k : Nat) : Prop := ∀ a j : Nat, t[k]? = some a → J[k]? = some j → a = 3 ∨ xand (lns W j) z = 0
theorem cns_iff (g : JgW W) (hJ : ∀ j ∈ J, (j : Int) < W 8) (t : List Nat) (lt : t.length = J.length) (z : Int) (d : drB J t z) : cns (blP W J) t ↔ ∀ k, lnQ W J t z k := by
  constructor
  · intro h k a j e1 e2
    by_cases c : a = 3
    · exact Or.inl c
    · refine Or.inr ((bjx0 (lns_b W j g.1) d.1).mpr (fun x _ hb => ?_))
      cases e : bj z x with
      | false => rfl
      | true =>
        obtain ⟨i, f1, f2⟩ := (d.2 x).mp e
        exact absurd ⟨j, x, e2, f2, hb⟩ (h k i a 3 e1 f1 c rfl)
  · intro h k i a b e1 e2 n3 e3 ⟨x, y, f1, f2, f3⟩
    subst e3
    have := (h k a x e1 f1).resolve_left n3
    have hy := hJ y (List.mem_of_getElem? f2)
    have := (bjx0 (lns_b W x g.1) d.1).mp this y (by have := g.1.2; omega) f3
    rw [(d.2 y).mpr ⟨i, e2, f2⟩] at this; cases this
theorem E_ln {h : HP} (g : JgW W) (hJ : ∀ j ∈ J, (j : Int) < W 8) (hl : J.length ≤ 7) (hF : 13 ≤ F) (n : NdM W J h) (c : Nat) (hc : c < 16384) (rc79 : Nat → Int → Int → Int → Int → Int → HP → Option (Unit × HP)) (m3 m4 ww mm cc z : Int) (t : List Nat) (et : t = dgs J.length c) : ∀ (m k f : Nat) (s : Int), k + m = J.length → m < f → (s = 0 ∨ s = 1) → ∃ s', (s' = 0 ∨ s' = 1) ∧ (s' = 1 ↔ s = 1 ∧ ∀ i, k ≤ i → lnQ W J t z i) ∧ X12_plans_L375 F rc79 f 113 M C m3 m4 c ww mm cc z s k h = X12_plans_L434 F rc79 113 M C m3 m4 c ww mm cc s' h := by
  have lt : t.length = J.length := by rw [et]; unfold dgs; simp
  obtain ⟨L, rW, c26, c123⟩ := n
  intro m
  induction m with
  | zero =>
    intro k f s hk hf hs
    obtain ⟨f, rfl⟩ : ∃ f', f = f' + 1 := ⟨f - 1, by omega⟩
    refine ⟨s, hs, ⟨fun q => ⟨q, fun i hi a j e _ => by rw [List.getElem?_eq_none (by omega)] at e; cases e⟩, fun q => q.1⟩, ?_⟩
    rw [X12_plans_L375_s]
    simp (disch := (first | assumption | with_reducible rfl | (simp only [LayC_sI, LayC_sJ, LayC_sA, LayC_sB, LayC_sIr, LayC_exc, LayM_sI, LayM_sJ, LayM_sA, LayM_sB, LayM_sIr, LayM_exc, LayK_sI, LayK_sJ, LayK_sA, LayK_sB, LayK_sIr, LayK_exc]; assumption) | omega | decide | (simp (disch := (first | decide | omega)) only [gI_sJ, gI_sB, gI_sP, gI_exc, gI_sIe, aI_sJ, aI_sB, aI_sP, aI_exc, aI_sAe, aJ_sI, aJ_sA, aJ_sP, aJ_sIr, aJ_exc, aJ_sBe, gJ_sI, gJ_sA, gJ_sP, gJ_sIr, gJ_exc, gP_sI, gP_sJ, gP_sA, gP_sB, gP_sIr, gP_exc, gI_sIn, gI_sIk, gI_sAn, gI_sIrn, aI_sIn, aI_sAn, aI_sIrn, aI_sAk, aJ_sJn, aJ_sBn, gJ_sJn, gJ_sBn, gJ_sJe, gS_sI, gS_sJ, gS_sP, gS_sA, gS_sB, gS_sIr, gS_exc, w32i, w64i]; first | done | assumption | omega))) only [↓b_xbs, ↓b_xthr, ↓b_xthl, ↓b_xctr, ↓b_xctl, ↓b_xz, ↓b_xzX, ↓b_xd, ↓if_pos, ↓if_neg, ↓mI113, ↓mW113, ↓mZ113, ↓mJ113, ↓mV113, ↓mR113, ↓mA114, ↓mS114, ↓mL114, ↓mA115, ↓mS115, ↓mL115, ↓mA116, ↓mS116, ↓mL116, ↓mA117, ↓mS117, ↓mL117, ↓mA118, ↓mS118, ↓mL118, ↓mA119, ↓mS119, ↓mL119, ↓mA120, ↓mS120, ↓mL120, ↓mA121, ↓mS121, ↓mL121, ↓mA122, ↓mS122, ↓mL122, ↓mA123, ↓mS123, ↓mL123, ↓mA124, ↓mS124, ↓mL124, ↓mA125, ↓mS125, ↓mL125, ↓mA126, ↓mS126, ↓mL126, ↓mP113_1, ↓mP113_2, ↓mP113_4, ↓mP113_11, ↓mP113_12, ↓mP113_16, ↓mP113_17, ↓mP113_18, ↓mP113_24, ↓mP113_25, ↓mP113_29, ↓mP113_30, c26]
  | succ m ih =>
    intro k f s hk hf hs
    obtain ⟨f, rfl⟩ : ∃ f', f = f' + 1 := ⟨f - 1, by omega⟩
    have e1 : w32 ((k : Int) + 1) = ((k + 1 : Nat) : Int) := by rw [w32i _ (by omega) (by omega)]; omega
    have hk' : k < J.length := by omega
    obtain ⟨j, ej⟩ : ∃ j, J[k]? = some j := ⟨_, List.getElem?_eq_getElem hk'⟩
    have hj := hJ j (List.mem_of_getElem? ej)
    have j12 : (j : Int) < 12 := by have := g.1.2; omega
    obtain ⟨o, eo⟩ : ∃ o, t[k]? = some o := ⟨_, List.getElem?_eq_getElem (by omega)⟩
    have hd : o = dgt J.length c k := by
      rw [et] at eo
      unfold dgs at eo
      rw [List.getElem?_map, List.getElem?_range hk'] at eo
      cases eo; rfl
    have eop := E_opt (F := F) (h := h) J.length k c hk' hl hc
    rw [← hd] at eop
    have es := c123 k j ej
    have el := E_lnsM (F := F) (h := h) (j : Int) L (by omega) (by rw [rW]; exact g.1) (by omega)
    rw [rW] at el
    have k7 : (k : Int) < 7 := by omega
    rcases hs with rfl | rfl
    · refine ⟨0, Or.inl rfl, ⟨fun q => absurd q (by decide), fun q => absurd q.1 (by decide)⟩, ?_⟩
      clear ih el eop es
      rw [X12_plans_L375_s]
      simp (disch := (first | assumption | with_reducible rfl | (simp only [LayC_sI, LayC_sJ, LayC_sA, LayC_sB, LayC_sIr, LayC_exc, LayM_sI, LayM_sJ, LayM_sA, LayM_sB, LayM_sIr, LayM_exc, LayK_sI, LayK_sJ, LayK_sA, LayK_sB, LayK_sIr, LayK_exc]; assumption) | omega | decide | (simp (disch := (first | decide | omega)) only [gI_sJ, gI_sB, gI_sP, gI_exc, gI_sIe, aI_sJ, aI_sB, aI_sP, aI_exc, aI_sAe, aJ_sI, aJ_sA, aJ_sP, aJ_sIr, aJ_exc, aJ_sBe, gJ_sI, gJ_sA, gJ_sP, gJ_sIr, gJ_exc, gP_sI, gP_sJ, gP_sA, gP_sB, gP_sIr, gP_exc, gI_sIn, gI_sIk, gI_sAn, gI_sIrn, aI_sIn, aI_sAn, aI_sIrn, aI_sAk, aJ_sJn, aJ_sBn, gJ_sJn, gJ_sBn, gJ_sJe, gS_sI, gS_sJ, gS_sP, gS_sA, gS_sB, gS_sIr, gS_exc, w32i, w64i]; first | done | assumption | omega))) only [↓b_xbs, ↓b_xthr, ↓b_xthl, ↓b_xctr, ↓b_xctl, ↓b_xz, ↓b_xzX, ↓b_xd, ↓if_pos, ↓if_neg, ↓mI113, ↓mW113, ↓mZ113, ↓mJ113, ↓mV113, ↓mR113, ↓mA114, ↓mS114, ↓mL114, ↓mA115, ↓mS115, ↓mL115, ↓mA116, ↓mS116, ↓mL116, ↓mA117, ↓mS117, ↓mL117, ↓mA118, ↓mS118, ↓mL118, ↓mA119, ↓mS119, ↓mL119, ↓mA120, ↓mS120, ↓mL120, ↓mA121, ↓mS121, ↓mL121, ↓mA122, ↓mS122, ↓mL122, ↓mA123, ↓mS123, ↓mL123, ↓mA124, ↓mS124, ↓mL124, ↓mA125, ↓mS125, ↓mL125, ↓mA126, ↓mS126, ↓mL126, ↓mP113_1, ↓mP113_2, ↓mP113_4, ↓mP113_11, ↓mP113_12, ↓mP113_16, ↓mP113_17, ↓mP113_18, ↓mP113_24, ↓mP113_25, ↓mP113_29, ↓mP113_30, c26]
    · have sp : (∀ i, k ≤ i → lnQ W J t z i) ↔ lnQ W J t z k ∧ ∀ i, k + 1 ≤ i → lnQ W J t z i := ⟨fun q => ⟨q k (Nat.le_refl k), fun i hi => q i (by omega)⟩, fun q i hi => by
        by_cases x : i = k
        · subst x; exact q.1
        · exact q.2 i (by omega)⟩
      have lq : lnQ W J t z k ↔ o = 3 ∨ xand (lns W j) z = 0 := ⟨fun q => q o j eo ej, fun q a j' e2 e3 => by rw [eo] at e2; rw [ej] at e3; cases e2; cases e3; exact q⟩
      by_cases ok : o = 3 ∨ xand (lns W j) z = 0
      · obtain ⟨s', a1, a2, a3⟩ := ih (k + 1) f 1 (by omega) (by omega) (Or.inr rfl)
        refine ⟨s', a1, by rw [a2, sp, lq]; exact ⟨fun q => ⟨q.1, ok, q.2⟩, fun q => ⟨q.1, q.2.2⟩⟩, ?_⟩
        rw [← a3, X12_plans_L375_s]
        unfold X12_plans_L421 X12_plans_L426
        clear ih a1 a2 a3 sp lq
        by_cases o3 : o = 3
        · have o3' : (o : Int) = 3 := by omega
          simp (disch := (first | assumption | with_reducible rfl | (simp only [LayC_sI, LayC_sJ, LayC_sA, LayC_sB, LayC_sIr, LayC_exc, LayM_sI, LayM_sJ, LayM_sA, LayM_sB, LayM_sIr, LayM_exc, LayK_sI, LayK_sJ, LayK_sA, LayK_sB, LayK_sIr, LayK_exc]; assumption) | omega | decide | (simp (disch := (first | decide | omega)) only [gI_sJ, gI_sB, gI_sP, gI_exc, gI_sIe, aI_sJ, aI_sB, aI_sP, aI_exc, aI_sAe, aJ_sI, aJ_sA, aJ_sP, aJ_sIr, aJ_exc, aJ_sBe, gJ_sI, gJ_sA, gJ_sP, gJ_sIr, gJ_exc, gP_sI, gP_sJ, gP_sA, gP_sB, gP_sIr, gP_exc, gI_sIn, gI_sIk, gI_sAn, gI_sIrn, aI_sIn, aI_sAn, aI_sIrn, aI_sAk, aJ_sJn, aJ_sBn, gJ_sJn, gJ_sBn, gJ_sJe, gS_sI, gS_sJ, gS_sP, gS_sA, gS_sB, gS_sIr, gS_exc, w32i, w64i]; first | done | assumption | omega))) only [↓b_xbs, ↓b_xthr, ↓b_xthl, ↓b_xctr, ↓b_xctl, ↓b_xz, ↓b_xzX, ↓b_xd, ↓if_pos, ↓if_neg, ↓mI113, ↓mW113, ↓mZ113, ↓mJ113, ↓mV113, ↓mR113, ↓mA114, ↓mS114, ↓mL114, ↓mA115, ↓mS115, ↓mL115, ↓mA116, ↓mS116, ↓mL116, ↓mA117, ↓mS117, ↓mL117, ↓mA118, ↓mS118, ↓mL118, ↓mA119, ↓mS119, ↓mL119, ↓mA120, ↓mS120, ↓mL120, ↓mA121, ↓mS121, ↓mL121, ↓mA122, ↓mS122, ↓mL122, ↓mA123, ↓mS123, ↓mL123, ↓mA124, ↓mS124, ↓mL124, ↓mA125, ↓mS125, ↓mL125, ↓mA126, ↓mS126, ↓mL126, ↓mP113_1, ↓mP113_2, ↓mP113_4, ↓mP113_11, ↓mP113_12, ↓mP113_16, ↓mP113_17, ↓mP113_18, ↓mP113_24, ↓mP113_25, ↓mP113_29, ↓mP113_30, c26, ↓b_xb _ _ _ _ eop, e1]
        · have o3' : ¬ (o : Int) = 3 := by omega
          have x0 := ok.resolve_left o3
          simp (disch := (first | assumption | with_reducible rfl | (simp only [LayC_sI, LayC_sJ, LayC_sA, LayC_sB, LayC_sIr, LayC_exc, LayM_sI, LayM_sJ, LayM_sA, LayM_sB, LayM_sIr, LayM_exc, LayK_sI, LayK_sJ, LayK_sA, LayK_sB, LayK_sIr, LayK_exc]; assumption) | omega | decide | (simp (disch := (first | decide | omega)) only [gI_sJ, gI_sB, gI_sP, gI_exc, gI_sIe, aI_sJ, aI_sB, aI_sP, aI_exc, aI_sAe, aJ_sI, aJ_sA, aJ_sP, aJ_sIr, aJ_exc, aJ_sBe, gJ_sI, gJ_sA, gJ_sP, gJ_sIr, gJ_exc, gP_sI, gP_sJ, gP_sA, gP_sB, gP_sIr, gP_exc, gI_sIn, gI_sIk, gI_sAn, gI_sIrn, aI_sIn, aI_sAn, aI_sIrn, aI_sAk, aJ_sJn, aJ_sBn, gJ_sJn, gJ_sBn, gJ_sJe, gS_sI, gS_sJ, gS_sP, gS_sA, gS_sB, gS_sIr, gS_exc, w32i, w64i]; first | done | assumption | omega))) only [↓b_xbs, ↓b_xthr, ↓b_xthl, ↓b_xctr, ↓b_xctl, ↓b_xz, ↓b_xzX, ↓b_xd, ↓if_pos, ↓if_neg, ↓mI113, ↓mW113, ↓mZ113, ↓mJ113, ↓mV113, ↓mR113, ↓mA114, ↓mS114, ↓mL114, ↓mA115, ↓mS115, ↓mL115, ↓mA116, ↓mS116, ↓mL116, ↓mA117, ↓mS117, ↓mL117, ↓mA118, ↓mS118, ↓mL118, ↓mA119, ↓mS119, ↓mL119, ↓mA120, ↓mS120, ↓mL120, ↓mA121, ↓mS121, ↓mL121, ↓mA122, ↓mS122, ↓mL122, ↓mA123, ↓mS123, ↓mL123, ↓mA124, ↓mS124, ↓mL124, ↓mA125, ↓mS125, ↓mL125, ↓mA126, ↓mS126, ↓mL126, ↓mP113_1, ↓mP113_2, ↓mP113_4, ↓mP113_11, ↓mP113_12, ↓mP113_16, ↓mP113_17, ↓mP113_18, ↓mP113_24, ↓mP113_25, ↓mP113_29, ↓mP113_30, c26, ↓b_xb _ _ _ _ eop, es, ↓b_xb _ _ _ _ el, e1]
      · obtain ⟨s', a1, a2, a3⟩ := ih (k + 1) f 0 (by omega) (by omega) (Or.inl rfl)
        have s0 : s' = 0 := a1.resolve_right (fun q => by have := (a2.mp q).1; cases this)
        refine ⟨s', a1, by rw [a2, sp, lq]; exact ⟨fun q => absurd q.1 (by decide), fun q => absurd q.2.1 ok⟩, ?_⟩
        rw [← a3, X12_plans_L375_s]
        unfold X12_plans_L421 X12_plans_L426
        clear ih a1 a2 a3 sp lq
        have o3' : ¬ (o : Int) = 3 := by omega
        have x0 : ¬ xand (lns W j) z = 0 := fun q => ok (Or.inr q)
        simp (disch := (first | assumption | with_reducible rfl | (simp only [LayC_sI, LayC_sJ, LayC_sA, LayC_sB, LayC_sIr, LayC_exc, LayM_sI, LayM_sJ, LayM_sA, LayM_sB, LayM_sIr, LayM_exc, LayK_sI, LayK_sJ, LayK_sA, LayK_sB, LayK_sIr, LayK_exc]; assumption) | omega | decide | (simp (disch := (first | decide | omega)) only [gI_sJ, gI_sB, gI_sP, gI_exc, gI_sIe, aI_sJ, aI_sB, aI_sP, aI_exc, aI_sAe, aJ_sI, aJ_sA, aJ_sP, aJ_sIr, aJ_exc, aJ_sBe, gJ_sI, gJ_sA, gJ_sP, gJ_sIr, gJ_exc, gP_sI, gP_sJ, gP_sA, gP_sB, gP_sIr, gP_exc, gI_sIn, gI_sIk, gI_sAn, gI_sIrn, aI_sIn, aI_sAn, aI_sIrn, aI_sAk, aJ_sJn, aJ_sBn, gJ_sJn, gJ_sBn, gJ_sJe, gS_sI, gS_sJ, gS_sP, gS_sA, gS_sB, gS_sIr, gS_exc, w32i, w64i]; first | done | assumption | omega))) only [↓b_xbs, ↓b_xthr, ↓b_xthl, ↓b_xctr, ↓b_xctl, ↓b_xz, ↓b_xzX, ↓b_xd, ↓if_pos, ↓if_neg, ↓mI113, ↓mW113, ↓mZ113, ↓mJ113, ↓mV113, ↓mR113, ↓mA114, ↓mS114, ↓mL114, ↓mA115, ↓mS115, ↓mL115, ↓mA116, ↓mS116, ↓mL116, ↓mA117, ↓mS117, ↓mL117, ↓mA118, ↓mS118, ↓mL118, ↓mA119, ↓mS119, ↓mL119, ↓mA120, ↓mS120, ↓mL120, ↓mA121, ↓mS121, ↓mL121, ↓mA122, ↓mS122, ↓mL122, ↓mA123, ↓mS123, ↓mL123, ↓mA124, ↓mS124, ↓mL124, ↓mA125, ↓mS125, ↓mL125, ↓mA126, ↓mS126, ↓mL126, ↓mP113_1, ↓mP113_2, ↓mP113_4, ↓mP113_11, ↓mP113_12, ↓mP113_16, ↓mP113_17, ↓mP113_18, ↓mP113_24, ↓mP113_25, ↓mP113_29, ↓mP113_30, c26, ↓b_xb _ _ _ _ eop, es, ↓b_xb _ _ _ _ el, e1]
end PQ
