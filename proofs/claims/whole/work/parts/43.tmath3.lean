theorem prun_I (f : Int → Int) : ∀ (n : Nat) (i : Int) (s : PS), PSI i s → (prun f n i s).2.1 = 4 ∨ PSI (i + n) (prun f n i s).2 := by
  intro n
  induction n with
  | zero =>
    intro i s h
    refine Or.inr ?_
    rw [show i + ((0 : Nat) : Int) = i from by omega]
    exact h
  | succ n ih =>
    intro i s h
    unfold prun
    split
    · next q => exact Or.inl q
    · next q =>
      have h2 := ih (i + 1) _ (h.step q)
      rw [show i + ((n + 1 : Nat) : Int) = i + 1 + (n : Int) from by omega]
      exact h2
noncomputable def rdT (M : Mem) : Int × PS := prun (M 4) (M 3 3).toNat 0 (0, 0, M 5, M 6)
theorem rdT_I (M : Mem) (h : 0 ≤ M 3 3 ∧ M 3 3 ≤ 40) : (rdT M).2.1 = 4 ∨ PSI (M 3 3) (rdT M).2 := by
  have h2 := prun_I (M 4) (M 3 3).toNat 0 (0, 0, M 5, M 6) ⟨by dsimp only; omega, by dsimp only; omega, by dsimp only; omega, by dsimp only; omega, fun i q0 q1 => absurd q1 (by show ¬ i < 0; omega)⟩
  rw [show (0 : Int) + ((M 3 3).toNat : Int) = M 3 3 from by omega] at h2
  exact h2
