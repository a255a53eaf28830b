theorem SInv.mir {M : Mem} {a v : Int} (h : SInv M) (hv : 1 ≤ v ∧ v ≤ 2) : SInv (upM M 10 a v) := by
  refine ⟨h.1, fun i i0 i1 => ?_, h.2.2⟩
  have h2 := h.2.1 i i0 i1
  refine ⟨h2.1, h2.2.1, ?_⟩
  show 1 ≤ upM M 10 a v 10 i ∧ upM M 10 a v 10 i ≤ 2
  simp only [upM]
  split
  · exact hv
  · exact h2.2.2
