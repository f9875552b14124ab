/-! the ends, calls -/
section GOR
variable {K : Ctx} {M : MI} {Q : State → Prop} {hf : HP} {pc n : Nat} {lv : List (Nat × AV)} {st : List AV} {h : HP}
theorem qr_of {D : va_G} {tc : Nat → ClassId} {A : Nat → Prop} {ad0 ad : Nat → Nat} {n0 : Nat} {r : Option AV} {hf : HP} {s t : State} {H : Heap} {locs : List Loc} {args : Array Value} (he : ∀ x, okr n0 x → ad x = ad0 x) (hR : va_P D vwCl (hpool tc ad hf) H) (hD : va_D A (hpool tc ad hf)) (wf : WFh hf) (wr : ∀ v, r = some v → wv (gn hf) v) (g1 : n0 ≤ gn hf) (hS : va_S A s.heap H locs) (ht : t.heap = H) : QR D tc A ad0 n0 r hf args s (.returned (r.map (tv ad))) t :=
  ⟨⟨ad, he, rfl, by rw [ht]; exact hR, hD, wf, wr, g1⟩, hS.F ht⟩
theorem go_ireturn {z : Int} (hr : M.2.2.2.1 = some .int) (hd : decode M.2.1 pc = .ok (.ireturn, 1)) : Go K M (QM K (some (vi z)) h) h pc lv [vi z] h := by
  obtain ⟨p, l, e, R, s, m, args, below, meth, c, D, tc, A, ad0, n0, c0, s0⟩ := K
  obtain ⟨own, cc, nL, ret, d, tb, nm⟩ := M
  refine ⟨Mo.rf h, fun hA wf wl ws g1 g2 g3 ad H locs ls he hR hD hS hl => ?_⟩
  obtain ⟨hx, hb, hml, hown, hts, hK, hlk, hret, -⟩ := id hA
  exact W.iret (v := Int32.ofInt z) hx hb (hret.trans hr) (fun t ht hW => qr_of (r := some (vi z)) he hR hD wf (fun v q => by cases q; exact (wvs_c ws).1) g1 hS ht) hS.2.2 hd hlk
theorem go_zreturn {z : Int} (hr : M.2.2.2.1 = some .boolean) (hz : z = 0 ∨ z = 1) (hd : decode M.2.1 pc = .ok (.ireturn, 1)) : Go K M (QM K (some (vi z)) h) h pc lv [vi z] h := by
  obtain ⟨p, l, e, R, s, m, args, below, meth, c, D, tc, A, ad0, n0, c0, s0⟩ := K
  obtain ⟨own, cc, nL, ret, d, tb, nm⟩ := M
  refine ⟨Mo.rf h, fun hA wf wl ws g1 g2 g3 ad H locs ls he hR hD hS hl => ?_⟩
  obtain ⟨hx, hb, hml, hown, hts, hK, hlk, hret, -⟩ := id hA
  exact W.zret (v := Int32.ofInt z) (ty := .boolean) hx hb (hret.trans hr) (by rcases hz with q | q <;> rw [q] <;> rfl) (fun t ht hW => qr_of (r := some (vi z)) he hR hD wf (fun v q => by cases q; exact (wvs_c ws).1) g1 hS ht) hS.2.2 hd hlk
theorem go_lreturn {z : Int} (hr : M.2.2.2.1 = some .long) (hd : decode M.2.1 pc = .ok (.lreturn, 1)) : Go K M (QM K (some (vl z)) h) h pc lv [vl z] h := by
  obtain ⟨p, l, e, R, s, m, args, below, meth, c, D, tc, A, ad0, n0, c0, s0⟩ := K
  obtain ⟨own, cc, nL, ret, d, tb, nm⟩ := M
  refine ⟨Mo.rf h, fun hA wf wl ws g1 g2 g3 ad H locs ls he hR hD hS hl => ?_⟩
  obtain ⟨hx, hb, hml, hown, hts, hK, hlk, hret, -⟩ := id hA
  exact W.lret (v := Int64.ofInt z) hx hb (hret.trans hr) (fun t ht hW => qr_of (r := some (vl z)) he hR hD wf (fun v q => by cases q; exact (wvs_c ws).1) g1 hS ht) hS.2.2 hd hlk
theorem go_areturn {z : Option Nat} {rt : FieldType} (hr : M.2.2.2.1 = some rt) (hrt : (∃ n, rt = .object n) ∨ ∃ t, rt = .array t) (hd : decode M.2.1 pc = .ok (.areturn, 1)) : Go K M (QM K (some (vr z)) h) h pc lv [vr z] h := by
  obtain ⟨p, l, e, R, s, m, args, below, meth, c, D, tc, A, ad0, n0, c0, s0⟩ := K
  obtain ⟨own, cc, nL, ret, d, tb, nm⟩ := M
  refine ⟨Mo.rf h, fun hA wf wl ws g1 g2 g3 ad H locs ls he hR hD hS hl => ?_⟩
  obtain ⟨hx, hb, hml, hown, hts, hK, hlk, hret, -⟩ := id hA
  exact W.aret (v := tv ad (vr z)) (rt := rt) hx hb (hret.trans hr) hrt (by cases z with | none => exact Or.inl rfl | some a => exact Or.inr ⟨_, rfl⟩) (fun t ht hW => qr_of (r := some (vr z)) he hR hD wf (fun v q => by cases q; exact (wvs_c ws).1) g1 hS ht) hS.2.2 hd hlk
theorem go_return (hr : M.2.2.2.1 = none) (hd : decode M.2.1 pc = .ok (.return_, 1)) : Go K M (QM K none h) h pc lv [] h := by
  obtain ⟨p, l, e, R, s, m, args, below, meth, c, D, tc, A, ad0, n0, c0, s0⟩ := K
  obtain ⟨own, cc, nL, ret, d, tb, nm⟩ := M
  refine ⟨Mo.rf h, fun hA wf wl ws g1 g2 g3 ad H locs ls he hR hD hS hl => ?_⟩
  obtain ⟨hx, hb, hml, hown, hts, hK, hlk, hret, -⟩ := id hA
  exact W.vret hx hb (hret.trans hr) (fun t ht hW => qr_of (r := none) he hR hD wf (fun v q => by cases q) g1 hS ht) hS.2.2 hd hlk
/-- what returns, of a method that may throw -/
theorem go_ret {r : Option AV} (k : Go K M (QM K r hf) hf pc lv st h) : Go K M (QMX K (.inr r) hf) hf pc lv st h := by
  obtain ⟨p, l, e, R, s, m, args, below, meth, c, D, tc, A, ad0, n0, c0, s0⟩ := K
  obtain ⟨own, cc, nL, ret, d, tb, nm⟩ := M
  refine ⟨k.1, fun hA wf wl ws g1 g2 g3 ad H locs ls he hR hD hS hl => ?_⟩
  exact vx_ret (k.2 hA wf wl ws g1 g2 g3 ad H locs ls he hR hD hS hl)
end GOR
section CALL
variable {p : Program} {l : Launch} {e : Env} {R : Room} {s : State} {m : MethodId} {args : Array Value} {below : List Frame} {meth : Method} {c : Code} {H : Heap} {locs : List Loc} {cells slots : Nat} {Q : State → Prop}
theorem call_core {D : va_G} {tc : Nat → ClassId} {A A1 : Nat → Prop} {ad : Nat → Nat} {nh mc ms pc : Nat} {r : Option AV} {h1 : HP} {ls : Array Slot} {st0 rest : List Value} {a : Array Value} (hr : va_Run p l e R s m args below meth c H locs cells slots mc ms (F0 m pc ls st0) rest (QR D tc A1 ad nh r h1 a) A1) (hS : va_S A s.heap H locs) (hA1 : ∀ q, A1 q → A q)
    (kk : ∀ (ad' : Nat → Nat) (H1 : Heap) (locs1 : List Loc), (∀ x, okr nh x → ad' x = ad x) → va_P D vwCl (hpool tc ad' h1) H1 → va_D A (hpool tc ad' h1) → WFh h1 → (∀ v, r = some v → wv (gn h1) v) → nh ≤ gn h1 → va_S A s.heap H1 locs1 → W p l e R s m args below meth c H1 locs1 (cells + mc) (slots + ms) Q (F0 m (pc + 3) ls ((r.map (tv ad')).toList ++ rest))) :
    W p l e R s m args below meth c H locs cells slots Q (F0 m pc ls st0) := by
  intro T hT X
  obtain ⟨v, st₀, t, T', L, h0, X', hL, e1, e2, ⟨⟨ad', he, hv, hP, hD, w1, w2, w3⟩, hF⟩, st⟩ := hr T hT X
  obtain ⟨k1, k2, k3⟩ := vx_keep h0 e1 hS (fun q _ q2 => hA1 q q2) hA1 hL hF
  cases hv
  obtain ⟨t2, a1, b1⟩ := kk ad' T'.heap (locs ++ L) he (by rw [e1]; exact hP) (hD.weaken (fun _ q9 _ h9 => hA1 q9.1 h9)) w1 w2 w3 k3 T' rfl X'
  exact ⟨t2, st t2 a1, b1⟩
end CALL
