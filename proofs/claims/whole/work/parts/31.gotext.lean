/-! texts: the constants' length and signs -/
section GOT
variable {K : Ctx} {M : MI} {Q : State → Prop} {hf : HP} {pc n : Nat} {lv : List (Nat × AV)} {st : List AV} {h : HP}
theorem go_txV {j i : Nat} (hj9 : j < 18) (hw : Cond.fieldLink M.1 i "java/lang/String" "value" "[B" ∈ BW) (hd : decode M.2.1 pc = .ok (.getfield i, 3)) (hn : pc + 3 = n) (k : Go K M Q hf n lv (vr (some (2000000 + j)) :: st) h) : Go K M Q hf pc lv (vr (some (1000000 + j)) :: st) h := by
  obtain ⟨p, l, e, R, s, m, args, below, meth, c, D, tc, A, ad0, n0, c0, s0⟩ := K
  obtain ⟨own, cc, nL, ret, d, tb, nm⟩ := M
  subst hn
  refine ⟨k.1, fun hA wf wl ws g1 g2 g3 ad H locs ls he hR hD hS hl => ?_⟩
  obtain ⟨hx, hb, hml, hown, hts, hK, hlk, hret, hSF, -⟩ := id hA
  have wr : wv (gn h) (vr (some (2000000 + j))) := fun a q => by cases q; exact Or.inr (by omega)
  have kk := k.2 hA wf wl (wvs_k wr (wvs_c ws).2) g1 g2 g3 ad H locs ls he hR hD hS hl
  have hz := (hSF.2.2.1 j hj9).2.2.1
  rw [← he (1000000 + j) (Or.inr (by omega)), ← he (2000000 + j) (Or.inr (by omega))] at hz
  exact vk_getf hx hb hz hS hown (hts _ hw) (fun _ z => z) hd kk
theorem go_txC {j i : Nat} (hj9 : j < 18) (hw : Cond.fieldLink M.1 i "java/lang/String" "coder" "B" ∈ BW) (hd : decode M.2.1 pc = .ok (.getfield i, 3)) (hn : pc + 3 = n) (k : Go K M Q hf n lv (vi 0 :: st) h) : Go K M Q hf pc lv (vr (some (1000000 + j)) :: st) h := by
  obtain ⟨p, l, e, R, s, m, args, below, meth, c, D, tc, A, ad0, n0, c0, s0⟩ := K
  obtain ⟨own, cc, nL, ret, d, tb, nm⟩ := M
  subst hn
  refine ⟨k.1, fun hA wf wl ws g1 g2 g3 ad H locs ls he hR hD hS hl => ?_⟩
  obtain ⟨hx, hb, hml, hown, hts, hK, hlk, hret, hSF, -⟩ := id hA
  have kk := k.2 hA wf wl (wvs_k in32_0 (wvs_c ws).2) g1 g2 g3 ad H locs ls he hR hD hS hl
  have hz := (hSF.2.2.1 j hj9).2.1
  rw [← he (1000000 + j) (Or.inr (by omega))] at hz
  exact vk_getf hx hb hz hS hown (hts _ hw) (fun _ z => z) hd kk
theorem go_cmp {i : Nat} (hw : Cond.fieldLink M.1 i "java/lang/String" "COMPACT_STRINGS" "Z" ∈ BW) (hd : decode M.2.1 pc = .ok (.getstatic i, 3)) (hn : pc + 3 = n) (k : Go K M Q hf n lv (vi 1 :: st) h) : Go K M Q hf pc lv st h := by
  obtain ⟨p, l, e, R, s, m, args, below, meth, c, D, tc, A, ad0, n0, c0, s0⟩ := K
  obtain ⟨own, cc, nL, ret, d, tb, nm⟩ := M
  subst hn
  refine ⟨k.1, fun hA wf wl ws g1 g2 g3 ad H locs ls he hR hD hS hl => ?_⟩
  obtain ⟨hx, hb, hml, hown, hts, hK, hlk, hret, hSF, -⟩ := id hA
  have kk := k.2 hA wf wl (wvs_k (v := vi 1) (by unfold wv in32; omega) ws) g1 g2 g3 ad H locs ls he hR hD hS hl
  exact va_gets hx hb hSF.2.2.2.2.2.2.1 hS hown (hts _ hw) (fun _ z => z) hd kk
theorem go_sio {i : Nat} (hw : Cond.fieldLink M.1 i "jdk/internal/util/Preconditions" "SIOOBE_FORMATTER" "Ljava/util/function/BiFunction;" ∈ BW) (hd : decode M.2.1 pc = .ok (.getstatic i, 3)) (hn : pc + 3 = n) (hm : Mo h hf) (k : ∀ r : Option Nat, Go K M Q hf n lv (vr r :: st) h) : Go K M Q hf pc lv st h := by
  obtain ⟨p, l, e, R, s, m, args, below, meth, c, D, tc, A, ad0, n0, c0, s0⟩ := K
  obtain ⟨own, cc, nL, ret, d, tb, nm⟩ := M
  subst hn
  refine ⟨hm, fun hA wf wl ws g1 g2 g3 ad H locs ls he hR hD hS hl => ?_⟩
  obtain ⟨hx, hb, hml, hown, hts, hK, hlk, hret, hSF, -⟩ := id hA
  rcases hSF.2.2.2.2.2.2.2.2.2 with q | q
  · have kk := (k none).2 hA wf wl (wvs_k (v := vr none) (fun a q => by cases q) ws) g1 g2 g3 ad H locs ls he hR hD hS hl
    exact va_gets hx hb q hS hown (hts _ hw) (fun _ z => z) hd kk
  · have kk := (k (some 3000000)).2 hA wf wl (wvs_k (v := vr (some 3000000)) (fun a q => by cases q; exact Or.inr (by omega)) ws) g1 g2 g3 ad H locs ls he hR hD hS hl
    rw [← he 3000000 (Or.inr (by omega))] at q
    exact va_gets hx hb q hS hown (hts _ hw) (fun _ z => z) hd kk
theorem stb_len : ∀ j, j < 18 → (STB j).length ≤ 100 := by decide +kernel
theorem stb_byte : ∀ j, j < 18 → ∀ b ∈ STB j, 0 ≤ b.toInt ∧ b.toInt < 128 := by decide +kernel
theorem go_txL {j : Nat} (hj9 : j < 18) (hd : decode M.2.1 pc = .ok (.arraylength, 1)) (hn : pc + 1 = n) (k : Go K M Q hf n lv (vi ((STB j).length : Int) :: st) h) : Go K M Q hf pc lv (vr (some (2000000 + j)) :: st) h := by
  obtain ⟨p, l, e, R, s, m, args, below, meth, c, D, tc, A, ad0, n0, c0, s0⟩ := K
  obtain ⟨own, cc, nL, ret, d, tb, nm⟩ := M
  subst hn
  refine ⟨k.1, fun hA wf wl ws g1 g2 g3 ad H locs ls he hR hD hS hl => ?_⟩
  obtain ⟨hx, hb, hml, hown, hts, hK, hlk, hret, hSF, -⟩ := id hA
  have hle := stb_len j hj9
  have kk := k.2 hA wf wl (wvs_k (v := vi _) (by unfold wv in32; omega) (wvs_c ws).2) g1 g2 g3 ad H locs ls he hR hD hS hl
  have hz := (hSF.2.2.1 j hj9).2.2.2
  rw [← he (2000000 + j) (Or.inr (by omega))] at hz
  exact va_tlen hx hb hz hS Int32.ofInt_eq_ofNat.symm hd kk
/-- the sign at a place of a text -/
def sch (j : Nat) (i : Int) : Int := ((STB j).getD i.toNat 0).toInt
theorem go_txB {j : Nat} {i : Int} (hj9 : j < 18) (h0 : 0 ≤ i) (h1 : i < (STB j).length) (hd : decode M.2.1 pc = .ok (.baload, 1)) (hn : pc + 1 = n) (k : Go K M Q hf n lv (vi (sch j i) :: st) h) : Go K M Q hf pc lv (vi i :: vr (some (2000000 + j)) :: st) h := by
  obtain ⟨p, l, e, R, s, m, args, below, meth, c, D, tc, A, ad0, n0, c0, s0⟩ := K
  obtain ⟨own, cc, nL, ret, d, tb, nm⟩ := M
  subst hn
  refine ⟨k.1, fun hA wf wl ws g1 g2 g3 ad H locs ls he hR hD hS hl => ?_⟩
  obtain ⟨hx, hb, hml, hown, hts, hK, hlk, hret, hSF, -⟩ := id hA
  obtain ⟨wi, ws1⟩ := wvs_c ws
  have kk := k.2 hA wf wl (wvs_k (v := vi _) (in32_toInt _) (wvs_c ws1).2) g1 g2 g3 ad H locs ls he hR hD hS hl
  have hz := (hSF.2.2.1 j hj9).2.2.2
  rw [← he (2000000 + j) (Or.inr (by omega))] at hz
  refine va_tb hx hb hz hS (vp_in_i wi h0 h1) (v := .int (Int32.ofInt (sch j i))) ?_ hd kk
  show Value.int ((STB j).getD (Int32.ofInt i).toNatClampNeg 0) = _
  rw [clamp_i wi]
  unfold sch
  rw [o32]
theorem go_i2c {a : Int} (h0 : 0 ≤ a ∧ a < 65536) (hd : decode M.2.1 pc = .ok (.i2c, 1)) (hn : pc + 1 = n) (k : Go K M Q hf n lv (vi a :: st) h) : Go K M Q hf pc lv (vi a :: st) h := by
  obtain ⟨p, l, e, R, s, m, args, below, meth, c, D, tc, A, ad0, n0, c0, s0⟩ := K
  obtain ⟨own, cc, nL, ret, d, tb, nm⟩ := M
  subst hn
  refine ⟨k.1, fun hA wf wl ws g1 g2 g3 ad H locs ls he hR hD hS hl => ?_⟩
  obtain ⟨hx, hb, -⟩ := id hA
  have kk := k.2 hA wf wl ws g1 g2 g3 ad H locs ls he hR hD hS hl
  refine lv_i2c hx hb hd ?_ kk
  have e1 : Int32.ofInt a = nI a.toNat := by
    show Int32.ofInt a = Int32.ofNat a.toNat
    rw [← Int32.ofInt_eq_ofNat]; congr 1; omega
  rw [e1, pk_char, pk_tn (by omega), Nat.mod_eq_of_lt (by omega)]
theorem go_nreturn {z : Int} {ty : FieldType} (hr : M.2.2.2.1 = some ty) (hz : narrow ty (.int (Int32.ofInt z)) = .int (Int32.ofInt z)) (hd : decode M.2.1 pc = .ok (.ireturn, 1)) : Go K M (QM K (some (vi z)) h) h pc lv [vi z] h := by
  obtain ⟨p, l, e, R, s, m, args, below, meth, c, D, tc, A, ad0, n0, c0, s0⟩ := K
  obtain ⟨own, cc, nL, ret, d, tb, nm⟩ := M
  refine ⟨Mo.rf h, fun hA wf wl ws g1 g2 g3 ad H locs ls he hR hD hS hl => ?_⟩
  obtain ⟨hx, hb, hml, hown, hts, hK, hlk, hret, -⟩ := id hA
  exact W.zret (v := Int32.ofInt z) (ty := ty) hx hb (hret.trans hr) hz (fun t ht hW => qr_of (r := some (vi z)) he hR hD wf (fun v q => by cases q; exact (wvs_c ws).1) g1 hS ht) hS.2.2 hd hlk
theorem nar_char {z : Int} (h0 : 0 ≤ z ∧ z < 65536) : narrow .char (.int (Int32.ofInt z)) = .int (Int32.ofInt z) := by
  have e1 : Int32.ofInt z = nI z.toNat := by
    show Int32.ofInt z = Int32.ofNat z.toNat
    rw [← Int32.ofInt_eq_ofNat]; congr 1; omega
  rw [e1]
  exact (pk_charN (by omega)).1
end GOT
