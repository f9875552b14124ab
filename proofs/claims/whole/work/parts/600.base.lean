/-! the pure layer -/
def hz : HP := (fun _ _ => 0, fun _ _ => 0, fun _ _ => none, fun _ => (999, 0), 0, 0, 0)
theorem hz_wf : WFh hz := by
  refine ⟨fun a k => ?_, fun a k => ?_, fun a k r h => ?_, fun _ _ => rfl, ?_⟩
  · show in32 0
    exact in32_0
  · show in64 0
    unfold in64; omega
  · exact nomatch (show (none : Option Nat) = some r from h)
  · show 0 ≤ 900000
    omega
