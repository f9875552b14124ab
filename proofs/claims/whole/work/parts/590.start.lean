/-! the start: what the Statement gives of it, as my own layer wants it -/


abbrev tmS (j : Nat) : Term := .string (STR.getD j ("", 0, "")).1 (STR.getD j ("", 0, "")).2.1
theorem gn_ex : ∀ j, j < 28 → Cond.exactly (tmS j) "java/lang/String" ∈ flatC (Jvm.Cond.and given_1 narrow_1) := by decide +kernel
theorem gn_co : ∀ j, j < 18 → Cond.eq (.field (tmS j) "java/lang/String" "coder" "B") (.int 0) ∈ flatC (Jvm.Cond.and given_1 narrow_1) := by decide +kernel
theorem gn_ar : ∀ j, j < 18 → Cond.arrayOf (.field (tmS j) "java/lang/String" "value" "[B") .byte ∈ flatC (Jvm.Cond.and given_1 narrow_1) := by decide +kernel
theorem gn_le : ∀ j, j < 18 → Cond.eq (.length (.field (tmS j) "java/lang/String" "value" "[B")) (.int (Int32.ofNat (STB j).length)) ∈ flatC (Jvm.Cond.and given_1 narrow_1) := by decide +kernel
theorem gn_el0 : ∀ i, i < (STB 0).length → (flatC (Jvm.Cond.and given_1 narrow_1))[144 + i]? = some (Cond.eq (.elem (.field (tmS 0) "java/lang/String" "value" "[B") (.int (Int32.ofNat i))) (.int ((STB 0).getD i 0))) := by decide +kernel
theorem gn_el1 : ∀ i, i < (STB 1).length → (flatC (Jvm.Cond.and given_1 narrow_1))[408 + i]? = some (Cond.eq (.elem (.field (tmS 1) "java/lang/String" "value" "[B") (.int (Int32.ofNat i))) (.int ((STB 1).getD i 0))) := by decide +kernel
theorem gn_el2 : ∀ i, i < (STB 2).length → (flatC (Jvm.Cond.and given_1 narrow_1))[418 + i]? = some (Cond.eq (.elem (.field (tmS 2) "java/lang/String" "value" "[B") (.int (Int32.ofNat i))) (.int ((STB 2).getD i 0))) := by decide +kernel
theorem gn_el3 : ∀ i, i < (STB 3).length → (flatC (Jvm.Cond.and given_1 narrow_1))[425 + i]? = some (Cond.eq (.elem (.field (tmS 3) "java/lang/String" "value" "[B") (.int (Int32.ofNat i))) (.int ((STB 3).getD i 0))) := by decide +kernel
theorem gn_el4 : ∀ i, i < (STB 4).length → (flatC (Jvm.Cond.and given_1 narrow_1))[432 + i]? = some (Cond.eq (.elem (.field (tmS 4) "java/lang/String" "value" "[B") (.int (Int32.ofNat i))) (.int ((STB 4).getD i 0))) := by decide +kernel
theorem gn_el5 : ∀ i, i < (STB 5).length → (flatC (Jvm.Cond.and given_1 narrow_1))[441 + i]? = some (Cond.eq (.elem (.field (tmS 5) "java/lang/String" "value" "[B") (.int (Int32.ofNat i))) (.int ((STB 5).getD i 0))) := by decide +kernel
theorem gn_el6 : ∀ i, i < (STB 6).length → (flatC (Jvm.Cond.and given_1 narrow_1))[448 + i]? = some (Cond.eq (.elem (.field (tmS 6) "java/lang/String" "value" "[B") (.int (Int32.ofNat i))) (.int ((STB 6).getD i 0))) := by decide +kernel
theorem gn_el7 : ∀ i, i < (STB 7).length → (flatC (Jvm.Cond.and given_1 narrow_1))[456 + i]? = some (Cond.eq (.elem (.field (tmS 7) "java/lang/String" "value" "[B") (.int (Int32.ofNat i))) (.int ((STB 7).getD i 0))) := by decide +kernel
theorem gn_el8 : ∀ i, i < (STB 8).length → (flatC (Jvm.Cond.and given_1 narrow_1))[462 + i]? = some (Cond.eq (.elem (.field (tmS 8) "java/lang/String" "value" "[B") (.int (Int32.ofNat i))) (.int ((STB 8).getD i 0))) := by decide +kernel
theorem gn_el9 : ∀ i, i < (STB 9).length → (flatC (Jvm.Cond.and given_1 narrow_1))[469 + i]? = some (Cond.eq (.elem (.field (tmS 9) "java/lang/String" "value" "[B") (.int (Int32.ofNat i))) (.int ((STB 9).getD i 0))) := by decide +kernel
theorem gn_el10 : ∀ i, i < (STB 10).length → (flatC (Jvm.Cond.and given_1 narrow_1))[476 + i]? = some (Cond.eq (.elem (.field (tmS 10) "java/lang/String" "value" "[B") (.int (Int32.ofNat i))) (.int ((STB 10).getD i 0))) := by decide +kernel
theorem gn_el11 : ∀ i, i < (STB 11).length → (flatC (Jvm.Cond.and given_1 narrow_1))[487 + i]? = some (Cond.eq (.elem (.field (tmS 11) "java/lang/String" "value" "[B") (.int (Int32.ofNat i))) (.int ((STB 11).getD i 0))) := by decide +kernel
theorem gn_el12 : ∀ i, i < (STB 12).length → (flatC (Jvm.Cond.and given_1 narrow_1))[494 + i]? = some (Cond.eq (.elem (.field (tmS 12) "java/lang/String" "value" "[B") (.int (Int32.ofNat i))) (.int ((STB 12).getD i 0))) := by decide +kernel
theorem gn_el13 : ∀ i, i < (STB 13).length → (flatC (Jvm.Cond.and given_1 narrow_1))[502 + i]? = some (Cond.eq (.elem (.field (tmS 13) "java/lang/String" "value" "[B") (.int (Int32.ofNat i))) (.int ((STB 13).getD i 0))) := by decide +kernel
theorem gn_el14 : ∀ i, i < (STB 14).length → (flatC (Jvm.Cond.and given_1 narrow_1))[509 + i]? = some (Cond.eq (.elem (.field (tmS 14) "java/lang/String" "value" "[B") (.int (Int32.ofNat i))) (.int ((STB 14).getD i 0))) := by decide +kernel
theorem gn_el15 : ∀ i, i < (STB 15).length → (flatC (Jvm.Cond.and given_1 narrow_1))[515 + i]? = some (Cond.eq (.elem (.field (tmS 15) "java/lang/String" "value" "[B") (.int (Int32.ofNat i))) (.int ((STB 15).getD i 0))) := by decide +kernel
theorem gn_el16 : ∀ i, i < (STB 16).length → (flatC (Jvm.Cond.and given_1 narrow_1))[523 + i]? = some (Cond.eq (.elem (.field (tmS 16) "java/lang/String" "value" "[B") (.int (Int32.ofNat i))) (.int ((STB 16).getD i 0))) := by decide +kernel
theorem gn_el17 : ∀ i, i < (STB 17).length → (flatC (Jvm.Cond.and given_1 narrow_1))[529 + i]? = some (Cond.eq (.elem (.field (tmS 17) "java/lang/String" "value" "[B") (.int (Int32.ofNat i))) (.int ((STB 17).getD i 0))) := by decide +kernel
theorem gn_el : ∀ j, j < 18 → ∀ i, i < (STB j).length → Cond.eq (.elem (.field (tmS j) "java/lang/String" "value" "[B") (.int (Int32.ofNat i))) (.int ((STB j).getD i 0)) ∈ flatC (Jvm.Cond.and given_1 narrow_1) := by
  intro j hj i hi
  match j, hj with
  | 0, _ => exact List.mem_of_getElem? (gn_el0 i hi)
  | 1, _ => exact List.mem_of_getElem? (gn_el1 i hi)
  | 2, _ => exact List.mem_of_getElem? (gn_el2 i hi)
  | 3, _ => exact List.mem_of_getElem? (gn_el3 i hi)
  | 4, _ => exact List.mem_of_getElem? (gn_el4 i hi)
  | 5, _ => exact List.mem_of_getElem? (gn_el5 i hi)
  | 6, _ => exact List.mem_of_getElem? (gn_el6 i hi)
  | 7, _ => exact List.mem_of_getElem? (gn_el7 i hi)
  | 8, _ => exact List.mem_of_getElem? (gn_el8 i hi)
  | 9, _ => exact List.mem_of_getElem? (gn_el9 i hi)
  | 10, _ => exact List.mem_of_getElem? (gn_el10 i hi)
  | 11, _ => exact List.mem_of_getElem? (gn_el11 i hi)
  | 12, _ => exact List.mem_of_getElem? (gn_el12 i hi)
  | 13, _ => exact List.mem_of_getElem? (gn_el13 i hi)
  | 14, _ => exact List.mem_of_getElem? (gn_el14 i hi)
  | 15, _ => exact List.mem_of_getElem? (gn_el15 i hi)
  | 16, _ => exact List.mem_of_getElem? (gn_el16 i hi)
  | 17, _ => exact List.mem_of_getElem? (gn_el17 i hi)
  | n + 18, h => omega
theorem gn_nc : ∀ q ∈ NCl, Cond.not (.castable q.1 q.2) ∈ flatC (Jvm.Cond.and given_1 narrow_1) := by decide +kernel
theorem gn_us : Cond.isRef (.static Bundle.tN "UNASSIGNED_STACK" Bundle.steD) ∈ flatC (Jvm.Cond.and given_1 narrow_1) := by decide +kernel
theorem gn_ss : Cond.isRef (.static Bundle.tN "SUPPRESSED_SENTINEL" Bundle.listD) ∈ flatC (Jvm.Cond.and given_1 narrow_1) := by decide +kernel
theorem gn_cs : Cond.eq (.static "java/lang/String" "COMPACT_STRINGS" "Z") (.int 1) ∈ flatC (Jvm.Cond.and given_1 narrow_1) := by decide +kernel
theorem gn_sf : Cond.isRef (.static "jdk/internal/util/Preconditions" "SIOOBE_FORMATTER" "Ljava/util/function/BiFunction;") ∈ flatC (Jvm.Cond.and given_1 narrow_1) := by decide +kernel
theorem tb_sr : ∀ j, j < 28 → Cond.stringRef (STR.getD j ("", 0, "")).1 (STR.getD j ("", 0, "")).2.1 (STR.getD j ("", 0, "")).2.2 ∈ lw_tbl := by decide +kernel
theorem tb_nw : ∀ w ∈ NWl, w ∈ lw_tbl ∧ w.onTables = true := by decide +kernel
theorem tb_xw : ∀ w ∈ XWl, w ∈ lw_tbl ∧ w.onTables = true := by decide +kernel
theorem stb_small : ∀ j, j < 18 → (STB j).length < 2 ^ 31 := by decide +kernel
section START
variable {s : State} {b : Nat} {A : Nat → Prop}
theorem st_tx (hn : (Jvm.Cond.and given_1 narrow_1).before #[Value.ref b] s = true) (hA : ∀ a : Nat, a < s.heap.size → ¬ A a) : ∃ ad : Nat → Nat × Nat, ∀ j : Nat, j < 28 → (tmS j).eval #[Value.ref b] s none [] s = some (.ref (ad j).1) ∧ (j < 18 → va_O "java/lang/String" (ad j).1 A s s.heap ∧ va_OF "java/lang/String" "coder" "B" (.int 0) (ad j).1 A s s.heap ∧ va_OF "java/lang/String" "value" "[B" (.ref (ad j).2) (ad j).1 A s s.heap ∧ va_T .byte (ad j).2 (STB j).length (fun k => .int ((STB j).getD k 0)) A s s.heap) := by
  have hq := flat_of_before _ hn
  have h0 : ∀ j : Nat, ∃ q : Nat × Nat, j < 28 → (tmS j).eval #[Value.ref b] s none [] s = some (.ref q.1) ∧ (j < 18 → va_O "java/lang/String" q.1 A s s.heap ∧ va_OF "java/lang/String" "coder" "B" (.int 0) q.1 A s s.heap ∧ va_OF "java/lang/String" "value" "[B" (.ref q.2) q.1 A s s.heap ∧ va_T .byte q.2 (STB j).length (fun k => .int ((STB j).getD k 0)) A s s.heap) := by
    intro j
    by_cases hj : j < 28
    · obtain ⟨a, c, cA, kA, q1, -⟩ := Cond.exactly_spec (args := #[Value.ref b]) (first := s) (o := none) (s := s) (idx := []) (t := tmS j) (cls := "java/lang/String") (hq _ (gn_ex j hj))
      by_cases hk : j < 18
      · obtain ⟨t, ht, hT⟩ := va_Tof (f := fun i => .int ((STB j).getD i 0)) (A := A) (stb_small j hk) (hq _ (gn_ar j hk)) (va_eqt (hq _ (gn_le j hk))) (fun i hi => va_eqt (hq _ (gn_el j hk i hi))) hA
        exact ⟨(a, t), fun _ => ⟨q1, fun _ => ⟨va_Oof (hq _ (gn_ex j hj)) q1 hA, vk_OFof q1 (va_eqt (hq _ (gn_co j hk))) hA, vk_OFof q1 ht hA, hT⟩⟩⟩
      · exact ⟨(a, 0), fun _ => ⟨q1, fun h => absurd h hk⟩⟩
    · exact ⟨(0, 0), fun h => absurd h hj⟩
  obtain ⟨ad, had⟩ := Classical.axiomOfChoice h0
  exact ⟨ad, had⟩
theorem st_sio (hn : (Jvm.Cond.and given_1 narrow_1).before #[Value.ref b] s = true) (hts : ∀ w ∈ lw_tbl, w.before #[Value.ref b] s = true) (hA : ∀ a : Nat, a < s.heap.size → ¬ A a) : ∃ a : Nat, va_Z "jdk/internal/util/Preconditions" "SIOOBE_FORMATTER" "Ljava/util/function/BiFunction;" .null A s s.heap ∨ va_Z "jdk/internal/util/Preconditions" "SIOOBE_FORMATTER" "Ljava/util/function/BiFunction;" (.ref a) A s s.heap := by
  have h := va_Zqof (A := A) (hts (.laysStatic "jdk/internal/util/Preconditions" "SIOOBE_FORMATTER" "Ljava/util/function/BiFunction;") (List.mem_of_getElem? (i := 1124) (by decide +kernel))) (hts (.initialized "jdk/internal/util/Preconditions") (List.mem_of_getElem? (i := 138) (by decide +kernel))) (flat_of_before _ hn _ gn_sf) hA
  rcases h with h | ⟨t, h⟩
  · exact ⟨0, Or.inl h⟩
  · exact ⟨t, Or.inr h⟩
theorem st_prim (ty : FieldType) (h : (Cond.arrayClass ty).before #[Value.ref b] s = true) (hty : ∀ n, ty ≠ .object n) : ∃ c : ClassId, ArrOfT s c ty ∧ va_RA s c ty := by
  obtain ⟨c, k, comp, h1, h2, h3⟩ := Cond.arrayClass_spec (args := #[Value.ref b]) (first := s) (o := none) (s := s) (idx := []) h
  refine ⟨c, fun n z => ⟨(fun k h => by cases h), k, h2, comp, h3⟩, ?_⟩
  cases ty <;> first | exact h1 | exact absurd rfl (hty _)
theorem st_job (h : (Cond.arrayOver (.object "TeaNight$Job")).before #[Value.ref b] s = true) : ∃ c : ClassId, ArrOfT s c (.object "TeaNight$Job") ∧ va_RA s c (.object "TeaNight$Job") := by
  obtain ⟨comp, c, k, h1, -, h2, h3, h4⟩ := Cond.arrayOver_spec (args := #[Value.ref b]) (first := s) (o := none) (s := s) (idx := []) h
  exact ⟨c, fun n z => ⟨(fun k h => by cases h), k, h2, comp, h3⟩, k, comp, h2, h3, h1, h4⟩
theorem st_K (hts : ∀ w ∈ lw_tbl, w.before #[Value.ref b] s = true) : ∃ (D : va_G) (tc : Nat → ClassId), va_K D vwCl (tyl tc) s := by
  have h0 : ∀ c : Nat, ∃ x : ClassId × (Nat → Nat), ∀ q : vw_C, vwCl[c]? = some q → u_Kn s q.1 q.2.1 q.2.2 x.1 x.2 := by
    intro c
    match c with
    | 0 =>
      obtain ⟨cC, iS, h⟩ := u_known (n := 10) hts inX0 (hts _ (show Cond.instantiable RX0 10 ∈ lw_tbl from List.mem_of_getElem? (i := 449) (by decide +kernel)))
      exact ⟨(cC, iS), fun q hq => by cases hq; exact h⟩
    | 1 =>
      obtain ⟨cC, iS, h⟩ := u_known (n := 8) hts inX1 (hts _ (show Cond.instantiable RX1 8 ∈ lw_tbl from List.mem_of_getElem? (i := 221) (by decide +kernel)))
      exact ⟨(cC, iS), fun q hq => by cases hq; exact h⟩
    | 2 =>
      obtain ⟨cC, iS, h⟩ := u_known (n := 18) hts inX2 (hts _ (show Cond.instantiable RX2 18 ∈ lw_tbl from List.mem_of_getElem? (i := 300) (by decide +kernel)))
      exact ⟨(cC, iS), fun q hq => by cases hq; exact h⟩
    | 3 =>
      obtain ⟨cC, iS, h⟩ := u_known (n := 7) hts inX3 (hts _ (show Cond.instantiable RX3 7 ∈ lw_tbl from List.mem_of_getElem? (i := 293) (by decide +kernel)))
      exact ⟨(cC, iS), fun q hq => by cases hq; exact h⟩
    | 4 =>
      obtain ⟨cC, iS, h⟩ := u_known (n := 12) hts inX4 (hts _ (show Cond.instantiable RX4 12 ∈ lw_tbl from List.mem_of_getElem? (i := 215) (by decide +kernel)))
      exact ⟨(cC, iS), fun q hq => by cases hq; exact h⟩
    | 5 =>
      obtain ⟨cC, iS, h⟩ := u_known (n := 6) hts inX5 (hts _ (show Cond.instantiable RX5 6 ∈ lw_tbl from List.mem_of_getElem? (i := 490) (by decide +kernel)))
      exact ⟨(cC, iS), fun q hq => by cases hq; exact h⟩
    | 6 =>
      obtain ⟨cC, iS, h⟩ := u_known (n := 15) hts inX6 (hts _ (show Cond.instantiable RX6 15 ∈ lw_tbl from List.mem_of_getElem? (i := 565) (by decide +kernel)))
      exact ⟨(cC, iS), fun q hq => by cases hq; exact h⟩
    | 7 =>
      obtain ⟨cC, iS, h⟩ := u_known (n := 10) hts inX7 (hts _ (show Cond.instantiable RX7 10 ∈ lw_tbl from List.mem_of_getElem? (i := 227) (by decide +kernel)))
      exact ⟨(cC, iS), fun q hq => by cases hq; exact h⟩
    | 8 =>
      obtain ⟨cC, iS, h⟩ := u_known (n := 17) hts inX8 (hts _ (show Cond.instantiable RX8 17 ∈ lw_tbl from List.mem_of_getElem? (i := 154) (by decide +kernel)))
      exact ⟨(cC, iS), fun q hq => by cases hq; exact h⟩
    | 9 =>
      obtain ⟨cC, iS, h⟩ := u_known (n := 4) hts inX9 (hts _ (show Cond.instantiable RX9 4 ∈ lw_tbl from List.mem_of_getElem? (i := 1234) (by decide +kernel)))
      exact ⟨(cC, iS), fun q hq => by cases hq; exact h⟩
    | 10 =>
      obtain ⟨cC, iS, h⟩ := u_known (n := 10) hts inX10 (hts _ (show Cond.instantiable RX10 10 ∈ lw_tbl from List.mem_of_getElem? (i := 411) (by decide +kernel)))
      exact ⟨(cC, iS), fun q hq => by cases hq; exact h⟩
    | 11 =>
      obtain ⟨cC, iS, h⟩ := u_known (n := 6) hts inX11 (hts _ (show Cond.instantiable RX11 6 ∈ lw_tbl from List.mem_of_getElem? (i := 146) (by decide +kernel)))
      exact ⟨(cC, iS), fun q hq => by cases hq; exact h⟩
    | 12 =>
      obtain ⟨cC, iS, h⟩ := u_known (n := 31) hts inX12 (hts _ (show Cond.instantiable RX12 31 ∈ lw_tbl from List.mem_of_getElem? (i := 1747) (by decide +kernel)))
      exact ⟨(cC, iS), fun q hq => by cases hq; exact h⟩
    | n + 13 => exact ⟨(0, fun _ => 0), fun q hq => by cases hq⟩
  obtain ⟨D, hD⟩ := Classical.axiomOfChoice h0
  obtain ⟨c0, p0⟩ := st_prim .int (hts _ (show Cond.arrayClass .int ∈ lw_tbl from List.mem_of_getElem? (i := 213) (by decide +kernel))) (fun _ h => by cases h)
  obtain ⟨c1, p1⟩ := st_prim .long (hts _ (show Cond.arrayClass .long ∈ lw_tbl from List.mem_of_getElem? (i := 488) (by decide +kernel))) (fun _ h => by cases h)
  obtain ⟨c2, p2⟩ := st_prim .byte (hts _ (show Cond.arrayClass .byte ∈ lw_tbl from List.mem_of_getElem? (i := 954) (by decide +kernel))) (fun _ h => by cases h)
  obtain ⟨c3, p3⟩ := st_prim .boolean (hts _ (show Cond.arrayClass .boolean ∈ lw_tbl from List.mem_of_getElem? (i := 1847) (by decide +kernel))) (fun _ h => by cases h)
  obtain ⟨c4, p4⟩ := st_job (hts _ (show Cond.arrayOver (.object "TeaNight$Job") ∈ lw_tbl from List.mem_of_getElem? (i := 299) (by decide +kernel)))
  refine ⟨(fun c => (D c).1, fun c => (D c).2), (fun k => match k with | 0 => c0 | 1 => c1 | 2 => c2 | 3 => c3 | _ => c4), fun c q hq => hD c q hq, fun k q hk => ?_⟩
  match k, hk with
  | 0, hk => cases hk; exact p0
  | 1, hk => cases hk; exact p1
  | 2, hk => cases hk; exact p2
  | 3, hk => cases hk; exact p3
  | 4, hk => cases hk; exact p4
  | n + 5, hk => cases hk
end START
def adS (ad : Nat → Nat × Nat) (a b : Nat) (x : Nat) : Nat := if x = 4000000 then b else if x = 3000000 then a else if 2000000 ≤ x then (ad (x - 2000000)).2 else (ad (x - 1000000)).1
theorem st_SF {s : State} {b : Nat} {A : Nat → Prop} (hn : (Jvm.Cond.and given_1 narrow_1).before #[Value.ref b] s = true) (hts : ∀ w ∈ lw_tbl, w.before #[Value.ref b] s = true) (hA : ∀ a : Nat, a < s.heap.size → ¬ A a) : ∃ ad0 : Nat → Nat, SF A ad0 s s.heap ∧ ad0 4000000 = b := by
  have hq := flat_of_before _ hn
  obtain ⟨ad, had⟩ := st_tx (A := A) hn hA
  obtain ⟨a, ha⟩ := st_sio (A := A) hn hts hA
  have e1 : ∀ j, j < 28 → adS ad a b (1000000 + j) = (ad j).1 := fun j hj => by
    unfold adS
    rw [if_neg (by omega), if_neg (by omega), if_neg (by omega), show 1000000 + j - 1000000 = j by omega]
  have e2 : ∀ j, j < 28 → adS ad a b (2000000 + j) = (ad j).2 := fun j hj => by
    unfold adS
    rw [if_neg (by omega), if_neg (by omega), if_pos (by omega), show 2000000 + j - 2000000 = j by omega]
  have e3 : adS ad a b 3000000 = a := rfl
  refine ⟨adS ad a b, ⟨?_, ?_, ?_, ?_, ?_, ?_, ?_, ?_, ?_, ?_⟩, rfl⟩
  · exact vx_Zqof (hts _ (show Cond.laysStatic Bundle.tN "UNASSIGNED_STACK" Bundle.steD ∈ lw_tbl from List.mem_of_getElem? (i := 912) (by decide +kernel))) (hts _ (show Cond.initialized Bundle.tN ∈ lw_tbl from List.mem_of_getElem? (i := 130) (by decide +kernel))) (hq _ gn_us) hA
  · exact vx_Zqof (hts _ (show Cond.laysStatic Bundle.tN "SUPPRESSED_SENTINEL" Bundle.listD ∈ lw_tbl from List.mem_of_getElem? (i := 914) (by decide +kernel))) (hts _ (show Cond.initialized Bundle.tN ∈ lw_tbl from List.mem_of_getElem? (i := 130) (by decide +kernel))) (hq _ gn_ss) hA
  · intro j hj
    rw [e1 j (by omega), e2 j (by omega)]
    exact (had j (by omega)).2 hj
  · intro j q hj
    have hj28 : j < 28 := by
      have := (List.getElem?_eq_some_iff.mp hj).1
      exact this
    rw [e1 j hj28]
    have hqe : STR.getD j ("", 0, "") = q := by rw [List.getD_eq_getElem?_getD, hj]; rfl
    have h1 := hts _ (tb_sr j hj28)
    have h2 := (had j hj28).1
    unfold tmS at h2
    rw [hqe] at h1 h2
    exact vk_R.of h1 h2
  · exact fun w hw => va_Nw.of (tb_nw w hw).2 (hts w (tb_nw w hw).1)
  · exact fun q hq9 => va_Nc.of (hq _ (gn_nc q hq9))
  · exact va_Zof (hts _ (show Cond.laysStatic "java/lang/String" "COMPACT_STRINGS" "Z" ∈ lw_tbl from List.mem_of_getElem? (i := 1108) (by decide +kernel))) (hts _ (show Cond.initialized "java/lang/String" ∈ lw_tbl from List.mem_of_getElem? (i := 136) (by decide +kernel))) (va_eqt (hq _ gn_cs)) hA
  · exact va_AO.of (hts _ (show Cond.arrayOver (.object "TeaNight$Job") ∈ lw_tbl from List.mem_of_getElem? (i := 299) (by decide +kernel)))
  · exact fun w hw => va_Nw.of (tb_xw w hw).2 (hts w (tb_xw w hw).1)
  · rw [e3]; exact ha
