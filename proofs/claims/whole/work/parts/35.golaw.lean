/-! the script, at the place 4000000 -/
def ScK (K : Ctx) (sl : Nat) (sc : Nat → Int) : Prop := va_X (kAd K 4000000) sl (fun j => Int32.ofInt (sc j)) (kS K) (kS K).heap ∧ kAd K 4000000 < (kS K).heap.size ∧ ¬ kA K (kAd K 4000000) ∧ (∀ j, in32 (sc j)) ∧ sl ≤ 3072
def xsc (sl : Nat) (sc : Nat → Int) (i : Int) : Option Int := if 0 ≤ i ∧ i < sl then some (sc i.toNat) else none
section GOSC
variable {K : Ctx} {M : MI} {Q : State → Prop} {hf : HP} {pc n : Nat} {lv : List (Nat × AV)} {st : List AV} {h : HP}
theorem go_slen {sl : Nat} {sc : Nat → Int} (hK9 : ScK K sl sc) (hd : decode M.2.1 pc = .ok (.arraylength, 1)) (hn : pc + 1 = n) (k : Go K M Q hf n lv (vi (sl : Int) :: st) h) : Go K M Q hf pc lv (vr (some 4000000) :: st) h := by
  obtain ⟨p, l, e, R, s, m, args, below, meth, c, D, tc, A, ad0, n0, c0, s0⟩ := K
  obtain ⟨own, cc, nL, ret, d, tb, nm⟩ := M
  subst hn
  obtain ⟨k1, k2, k3, k4, k5⟩ := hK9
  refine ⟨k.1, fun hA wf wl ws g1 g2 g3 ad H locs ls he hR hD hS hl => ?_⟩
  obtain ⟨hx, hb, -⟩ := id hA
  have kk := k.2 hA wf wl (wvs_k (v := vi _) (by unfold wv in32; omega) (wvs_c ws).2) g1 g2 g3 ad H locs ls he hR hD hS hl
  have e1 : ad 4000000 = ad0 4000000 := he _ (Or.inr (by omega))
  have e2 : tv ad (vr (some 4000000)) = .ref (ad0 4000000) := by show va_rf (some (ad 4000000)) = _; rw [e1]; rfl
  rw [List.map_cons, e2]
  refine va_slen hx hb k1 k2 k3 hS hd ?_
  rw [show Int32.ofNat sl = Int32.ofInt (sl : Int) from Int32.ofInt_eq_ofNat.symm]
  exact kk
theorem go_sld {sl : Nat} {sc : Nat → Int} {i v : Int} (hK9 : ScK K sl sc) (hx9 : xsc sl sc i = some v) (hd : decode M.2.1 pc = .ok (.iaload, 1)) (hn : pc + 1 = n) (k : Go K M Q hf n lv (vi v :: st) h) : Go K M Q hf pc lv (vi i :: vr (some 4000000) :: st) h := by
  obtain ⟨p, l, e, R, s, m, args, below, meth, c, D, tc, A, ad0, n0, c0, s0⟩ := K
  obtain ⟨own, cc, nL, ret, d, tb, nm⟩ := M
  subst hn
  obtain ⟨k1, k2, k3, k4, k5⟩ := hK9
  unfold xsc at hx9
  split at hx9
  · next hi =>
    obtain rfl := Option.some.inj hx9
    refine ⟨k.1, fun hA wf wl ws g1 g2 g3 ad H locs ls he hR hD hS hl => ?_⟩
    obtain ⟨hx, hb, -⟩ := id hA
    obtain ⟨wi, ws1⟩ := wvs_c ws
    have kk := k.2 hA wf wl (wvs_k (v := vi _) (k4 _) (wvs_c ws1).2) g1 g2 g3 ad H locs ls he hR hD hS hl
    have e1 : ad 4000000 = ad0 4000000 := he _ (Or.inr (by omega))
    have e2 : tv ad (vr (some 4000000)) = .ref (ad0 4000000) := by show va_rf (some (ad 4000000)) = _; rw [e1]; rfl
    rw [List.map_cons, List.map_cons, e2]
    refine va_sld hx hb k1 k2 k3 hS (vp_in_i wi hi.1 hi.2) hd ?_
    rw [clamp_i wi]
    exact kk
  · cases hx9
end GOSC
