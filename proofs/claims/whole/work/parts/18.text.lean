theorem c_X1_length {ev : Ev} {Q : Out → Mem → Prop} {M : Mem}    (zQ : ∀ (r : Int), r = M 3 3 → Q (.inl (some (vI r))) M) : AM ev false 0 t_X1_length [vR 3] M Q := by
  refine AM.of mt_X1_length (Nat.le_of_ble_eq_true rfl) ?_
  change AW ev false 0 t_X1_length Q 0 [some (vR 3)] [] M
  refine AW.go pk_X1_length 0 3 rfl rfl ?_
  refine And.intro rfl ?_
  exact zQ (M 3 3) (by first | rfl | omega)
theorem c_X1_codeAt {ev : Ev} {Q : Out → Mem → Prop} {M : Mem}  (i : Int) (zp0 : 0 ≤ i ∧ i < 40) (zQ : ∀ (r : Int), r = M 4 i → Q (.inl (some (vI r))) M) : AM ev false 0 t_X1_codeAt [vR 3, vI i] M Q := by
  refine AM.of mt_X1_codeAt (Nat.le_of_ble_eq_true rfl) ?_
  change AW ev false 0 t_X1_codeAt Q 0 [some (vR 3), some (vI i)] [] M
  refine AW.go pk_X1_codeAt 0 10 rfl rfl ?_
  refine And.intro (show Inr i from ⟨by omega, by omega⟩) (And.intro (fun zh1 => ?_) (fun zh1 => ?_))
  · replace zh1 : i < (0 : Int) := zh1
    exfalso; omega
  · replace zh1 : ¬ (i < (0 : Int)) := zh1
    refine And.intro (show Inr i ∧ Inr 40 from ⟨⟨by omega, by omega⟩, ⟨by omega, by omega⟩⟩) (And.intro (fun zh2 => ?_) (fun zh2 => ?_))
    · replace zh2 : (40 : Int) ≤ i := zh2
      exfalso; omega
    · replace zh2 : ¬ ((40 : Int) ≤ i) := zh2
      refine And.intro (show (0 ≤ i ∧ i < 40) from (by omega)) ?_
      change AW ev false 0 t_X1_codeAt Q 20 [some (vR 3), some (vI i)] [vI (M 4 i)] M
      refine AW.go pk_X1_codeAt 11 1 rfl rfl ?_
      refine And.intro rfl ?_
      exact zQ (M 4 i) (by first | rfl | omega)
theorem c_X1_add {ev : Ev} {Q : Out → Mem → Prop} {M : Mem}  (c : Int) (zp0 : 0 ≤ M 3 3 ∧ M 3 3 < 40) (zQ : Q (.inl none) (upM (upM M 4 (M 3 3) c) 3 3 (M 3 3 + 1))) : AM ev false 0 t_X1_add [vR 3, vI c] M Q := by
  refine AM.of mt_X1_add (Nat.le_of_ble_eq_true rfl) ?_
  change AW ev false 0 t_X1_add Q 0 [some (vR 3), some (vI c)] [] M
  refine AW.go pk_X1_add 0 20 rfl rfl ?_
  refine And.intro (show Inr (M 3 3) from ⟨by omega, by omega⟩) (And.intro (fun zh1 => ?_) (fun zh1 => ?_))
  · replace zh1 : M 3 3 < (0 : Int) := zh1
    exfalso; omega
  · replace zh1 : ¬ (M 3 3 < (0 : Int)) := zh1
    refine And.intro (show Inr (M 3 3) ∧ Inr 40 from ⟨⟨by omega, by omega⟩, ⟨by omega, by omega⟩⟩) (And.intro (fun zh2 => ?_) (fun zh2 => ?_))
    · replace zh2 : (40 : Int) ≤ M 3 3 := zh2
      exfalso; omega
    · replace zh2 : ¬ ((40 : Int) ≤ M 3 3) := zh2
      refine And.intro (show ((0 ≤ M 3 3 ∧ M 3 3 < 40) ∧ ((0 : Nat) = 0 ∨ c = 0 ∨ c = 1)) from ⟨by omega, Or.inl rfl⟩) ?_
      refine And.intro rfl ?_
      exact Eq.mpr (congrArg (Q _) (show (upM (upM M 4 (M 3 3) c) 3 3 ((M 3 3) + 1)) = (upM (upM M 4 (M 3 3) c) 3 3 (M 3 3 + 1)) from by rfl)) (zQ)
theorem c_X1_clear {ev : Ev} {Q : Out → Mem → Prop} {M : Mem}    (zQ : Q (.inl none) (upM M 3 3 0)) : AM ev false 0 t_X1_clear [vR 3] M Q := by
  refine AM.of mt_X1_clear (Nat.le_of_ble_eq_true rfl) ?_
  change AW ev false 0 t_X1_clear Q 0 [some (vR 3)] [] M
  refine AW.go pk_X1_clear 0 4 rfl rfl ?_
  refine And.intro rfl ?_
  exact zQ
theorem c_X1_isComplete {ev : Ev} {Q : Out → Mem → Prop} {M : Mem}   (zp0 : -10 ≤ M 3 5 ∧ M 3 5 ≤ 10) (zQ : ∀ (r : Int), (r = 0 ∨ r = 1) ∧ (r = 1 ↔ M 3 5 = 1 ∨ M 3 5 = 3) → Q (.inl (some (vI r))) M) : AM ev false 0 t_X1_isComplete [vR 3] M Q := by
  refine AM.of mt_X1_isComplete (Nat.le_of_ble_eq_true rfl) ?_
  change AW ev false 0 t_X1_isComplete Q 0 [some (vR 3)] [] M
  refine AW.go pk_X1_isComplete 0 10 rfl rfl ?_
  refine And.intro (show Inr (M 3 5) ∧ Inr 1 from ⟨⟨by omega, by omega⟩, ⟨by omega, by omega⟩⟩) (And.intro (fun zh1 => ?_) (fun zh1 => ?_))
  · replace zh1 : M 3 5 = (1 : Int) := zh1
    change AW ev false 0 t_X1_isComplete Q 16 [some (vR 3)] [] M
    refine AW.go pk_X1_isComplete 8 2 rfl rfl ?_
    change AW ev false 0 t_X1_isComplete Q 21 [some (vR 3)] [vI 1] M
    refine AW.go pk_X1_isComplete 11 1 rfl rfl ?_
    refine And.intro rfl ?_
    refine And.intro (show ((1 : Int) = 0 ∨ (1 : Int) = 1) from (by omega)) ?_
    exact zQ 1 (by first | rfl | omega)
  · replace zh1 : ¬ (M 3 5 = (1 : Int)) := zh1
    refine And.intro (show Inr (M 3 5) ∧ Inr 3 from ⟨⟨by omega, by omega⟩, ⟨by omega, by omega⟩⟩) (And.intro (fun zh2 => ?_) (fun zh2 => ?_))
    · replace zh2 : M 3 5 ≠ (3 : Int) := zh2
      change AW ev false 0 t_X1_isComplete Q 20 [some (vR 3)] [] M
      refine AW.go pk_X1_isComplete 10 2 rfl rfl ?_
      refine And.intro rfl ?_
      refine And.intro (show ((0 : Int) = 0 ∨ (0 : Int) = 1) from (by omega)) ?_
      exact zQ 0 (by first | rfl | omega)
    · replace zh2 : ¬ (M 3 5 ≠ (3 : Int)) := zh2
      change AW ev false 0 t_X1_isComplete Q 21 [some (vR 3)] [vI 1] M
      refine AW.go pk_X1_isComplete 11 1 rfl rfl ?_
      refine And.intro rfl ?_
      refine And.intro (show ((1 : Int) = 0 ∨ (1 : Int) = 1) from (by omega)) ?_
      exact zQ 1 (by first | rfl | omega)
theorem c_X1_beginItem {ev : Ev} {Q : Out → Mem → Prop} {M : Mem}  (s : PS) (d : Int) (zp0 : 0 ≤ s.2.1 ∧ s.2.1 < 20) (zQ0 : True → Q (.inl (some (vI 1))) (psM M (s.1, s.2.1 + 1, upF s.2.2.1 s.2.1 d, upF s.2.2.2 s.2.1 0))) : AM ev false 0 t_X1_beginItem [vR 3, vI d] (psM M s) Q := by
  refine AM.of mt_X1_beginItem (Nat.le_of_ble_eq_true rfl) ?_
  change AW ev false 0 t_X1_beginItem Q 0 [some (vR 3), some (vI d)] [] (psM M s)
  refine AW.go pk_X1_beginItem 0 9 rfl rfl ?_
  refine And.intro (show Inr s.2.1 from ⟨by omega, by omega⟩) (And.intro (fun zh1 => ?_) (fun zh1 => ?_))
  · replace zh1 : s.2.1 < (0 : Int) := zh1
    exfalso; omega
  · replace zh1 : ¬ (s.2.1 < (0 : Int)) := zh1
    refine And.intro (show Inr s.2.1 ∧ Inr 20 from ⟨⟨by omega, by omega⟩, ⟨by omega, by omega⟩⟩) (And.intro (fun zh2 => ?_) (fun zh2 => ?_))
    · replace zh2 : s.2.1 < (20 : Int) := zh2
      change AW ev false 0 t_X1_beginItem Q 18 [some (vR 3), some (vI d)] [] (psM M s)
      refine AW.go pk_X1_beginItem 9 20 rfl rfl ?_
      refine And.intro (show ((0 ≤ s.2.1 ∧ s.2.1 < 20) ∧ ((0 : Nat) = 0 ∨ d = 0 ∨ d = 1)) from ⟨by omega, Or.inl rfl⟩) ?_
      refine And.intro (show ((0 ≤ s.2.1 ∧ s.2.1 < 20) ∧ ((0 : Nat) = 0 ∨ (0 : Int) = 0 ∨ (0 : Int) = 1)) from ⟨by omega, Or.inl rfl⟩) ?_
      refine And.intro rfl ?_
      exact QcI (Q := Q) (show (1 : Int) = (1 : Int) from by first | rfl | omega) (show (upM (upM (upM (psM M s) 5 s.2.1 d) 6 s.2.1 0) 3 4 (s.2.1 + 1)) = (psM M (s.1, s.2.1 + 1, upF s.2.2.1 s.2.1 d, upF s.2.2.2 s.2.1 0)) from by funext k j; simp only [upM, psM, upF]; grind) (zQ0 (by trivial))
    · replace zh2 : ¬ (s.2.1 < (20 : Int)) := zh2
      exfalso; omega
theorem c_X1_growHeight {ev : Ev} {Q : Out → Mem → Prop} {M : Mem}  (s : PS) (i : Int) (d : Int) (zp0 : 0 ≤ i ∧ i < 20) (zp1 : 0 ≤ s.2.2.1 i ∧ s.2.2.1 i ≤ 500) (zp2 : 0 ≤ d ∧ d ≤ 9) (zQ0 : (s.2.2.1 i = 0 ∨ 500 < 10 * s.2.2.1 i + d) → Q (.inl (some (vI 4))) (psM M s)) (zQ1 : ¬ (s.2.2.1 i = 0 ∨ 500 < 10 * s.2.2.1 i + d) → Q (.inl (some (vI 1))) (psM M (s.1, s.2.1, upF s.2.2.1 i (10 * s.2.2.1 i + d), s.2.2.2))) : AM ev false 0 t_X1_growHeight [vR 3, vI i, vI d] (psM M s) Q := by
  refine AM.of mt_X1_growHeight (Nat.le_of_ble_eq_true rfl) ?_
  change AW ev false 0 t_X1_growHeight Q 0 [some (vR 3), some (vI i), some (vI d), none] [] (psM M s)
  refine AW.go pk_X1_growHeight 0 19 rfl rfl ?_
  refine And.intro (show (0 ≤ i ∧ i < 20) from (by omega)) ?_
  refine And.intro (show 3 < mL t_X1_growHeight from (by decide)) ?_
  refine And.intro (show (0 ≤ i ∧ i < 20) from (by omega)) ?_
  refine And.intro (show Inr (s.2.2.1 i) from ⟨by omega, by omega⟩) (And.intro (fun zh1 => ?_) (fun zh1 => ?_))
  · replace zh1 : s.2.2.1 i = (0 : Int) := zh1
    change AW ev false 0 t_X1_growHeight Q 28 [some (vR 3), some (vI i), some (vI d), some (vI ((10 * (s.2.2.1 i)) + d))] [] (psM M s)
    refine AW.go pk_X1_growHeight 17 2 rfl rfl ?_
    refine And.intro rfl ?_
    first
      | exact QcI (Q := Q) (show (4 : Int) = (4 : Int) from by first | rfl | omega) (show (psM M s) = (psM M s) from by rfl) (zQ0 (by omega))
      | exact QcI (Q := Q) (show (4 : Int) = (1 : Int) from by first | rfl | omega) (show (psM M s) = (psM M (s.1, s.2.1, upF s.2.2.1 i (10 * s.2.2.1 i + d), s.2.2.2)) from by funext k j; simp only [upM, psM, upF]; grind) (zQ1 (by omega))
  · replace zh1 : ¬ (s.2.2.1 i = (0 : Int)) := zh1
    refine And.intro (show Inr ((10 * (s.2.2.1 i)) + d) ∧ Inr 500 from ⟨⟨by omega, by omega⟩, ⟨by omega, by omega⟩⟩) (And.intro (fun zh2 => ?_) (fun zh2 => ?_))
    · replace zh2 : (10 * (s.2.2.1 i)) + d ≤ (500 : Int) := zh2
      change AW ev false 0 t_X1_growHeight Q 30 [some (vR 3), some (vI i), some (vI d), some (vI ((10 * (s.2.2.1 i)) + d))] [] (psM M s)
      refine AW.go pk_X1_growHeight 19 7 rfl rfl ?_
      refine And.intro (show ((0 ≤ i ∧ i < 20) ∧ ((0 : Nat) = 0 ∨ (10 * (s.2.2.1 i)) + d = 0 ∨ (10 * (s.2.2.1 i)) + d = 1)) from ⟨by omega, Or.inl rfl⟩) ?_
      refine And.intro rfl ?_
      first
        | exact QcI (Q := Q) (show (1 : Int) = (4 : Int) from by first | rfl | omega) (show (upM (psM M s) 5 i ((10 * (s.2.2.1 i)) + d)) = (psM M s) from by funext k j; simp only [upM, psM, upF]; grind) (zQ0 (by omega))
        | exact QcI (Q := Q) (show (1 : Int) = (1 : Int) from by first | rfl | omega) (show (upM (psM M s) 5 i ((10 * (s.2.2.1 i)) + d)) = (psM M (s.1, s.2.1, upF s.2.2.1 i (10 * s.2.2.1 i + d), s.2.2.2)) from by funext k j; simp only [upM, psM, upF]; grind) (zQ1 (by omega))
    · replace zh2 : ¬ ((10 * (s.2.2.1 i)) + d ≤ (500 : Int)) := zh2
      refine And.intro rfl ?_
      first
        | exact QcI (Q := Q) (show (4 : Int) = (4 : Int) from by first | rfl | omega) (show (psM M s) = (psM M s) from by rfl) (zQ0 (by omega))
        | exact QcI (Q := Q) (show (4 : Int) = (1 : Int) from by first | rfl | omega) (show (psM M s) = (psM M (s.1, s.2.1, upF s.2.2.1 i (10 * s.2.2.1 i + d), s.2.2.2)) from by funext k j; simp only [upM, psM, upF]; grind) (zQ1 (by omega))
theorem c_X1_growRepeat {ev : Ev} {Q : Out → Mem → Prop} {M : Mem}  (s : PS) (i : Int) (d : Int) (zp0 : 0 ≤ i ∧ i < 20) (zp1 : 0 ≤ s.2.2.2 i ∧ s.2.2.2 i ≤ 144) (zp2 : 0 ≤ d ∧ d ≤ 9) (zQ0 : (10 * s.2.2.2 i + d = 0 ∨ 144 < 10 * s.2.2.2 i + d) → Q (.inl (some (vI 4))) (psM M s)) (zQ1 : ¬ (10 * s.2.2.2 i + d = 0 ∨ 144 < 10 * s.2.2.2 i + d) → Q (.inl (some (vI 3))) (psM M (s.1, s.2.1, s.2.2.1, upF s.2.2.2 i (10 * s.2.2.2 i + d)))) : AM ev false 0 t_X1_growRepeat [vR 3, vI i, vI d] (psM M s) Q := by
  refine AM.of mt_X1_growRepeat (Nat.le_of_ble_eq_true rfl) ?_
  change AW ev false 0 t_X1_growRepeat Q 0 [some (vR 3), some (vI i), some (vI d), none] [] (psM M s)
  refine AW.go pk_X1_growRepeat 0 16 rfl rfl ?_
  refine And.intro (show (0 ≤ i ∧ i < 20) from (by omega)) ?_
  refine And.intro (show 3 < mL t_X1_growRepeat from (by decide)) ?_
  refine And.intro (show Inr ((10 * (s.2.2.2 i)) + d) from ⟨by omega, by omega⟩) (And.intro (fun zh1 => ?_) (fun zh1 => ?_))
  · replace zh1 : (10 * (s.2.2.2 i)) + d = (0 : Int) := zh1
    change AW ev false 0 t_X1_growRepeat Q 23 [some (vR 3), some (vI i), some (vI d), some (vI ((10 * (s.2.2.2 i)) + d))] [] (psM M s)
    refine AW.go pk_X1_growRepeat 14 2 rfl rfl ?_
    refine And.intro rfl ?_
    first
      | exact QcI (Q := Q) (show (4 : Int) = (4 : Int) from by first | rfl | omega) (show (psM M s) = (psM M s) from by rfl) (zQ0 (by omega))
      | exact QcI (Q := Q) (show (4 : Int) = (3 : Int) from by first | rfl | omega) (show (psM M s) = (psM M (s.1, s.2.1, s.2.2.1, upF s.2.2.2 i (10 * s.2.2.2 i + d))) from by funext k j; simp only [upM, psM, upF]; grind) (zQ1 (by omega))
  · replace zh1 : ¬ ((10 * (s.2.2.2 i)) + d = (0 : Int)) := zh1
    refine And.intro (show Inr ((10 * (s.2.2.2 i)) + d) ∧ Inr 144 from ⟨⟨by omega, by omega⟩, ⟨by omega, by omega⟩⟩) (And.intro (fun zh2 => ?_) (fun zh2 => ?_))
    · replace zh2 : (10 * (s.2.2.2 i)) + d ≤ (144 : Int) := zh2
      change AW ev false 0 t_X1_growRepeat Q 25 [some (vR 3), some (vI i), some (vI d), some (vI ((10 * (s.2.2.2 i)) + d))] [] (psM M s)
      refine AW.go pk_X1_growRepeat 16 7 rfl rfl ?_
      refine And.intro (show ((0 ≤ i ∧ i < 20) ∧ ((0 : Nat) = 0 ∨ (10 * (s.2.2.2 i)) + d = 0 ∨ (10 * (s.2.2.2 i)) + d = 1)) from ⟨by omega, Or.inl rfl⟩) ?_
      refine And.intro rfl ?_
      first
        | exact QcI (Q := Q) (show (3 : Int) = (4 : Int) from by first | rfl | omega) (show (upM (psM M s) 6 i ((10 * (s.2.2.2 i)) + d)) = (psM M s) from by funext k j; simp only [upM, psM, upF]; grind) (zQ0 (by omega))
        | exact QcI (Q := Q) (show (3 : Int) = (3 : Int) from by first | rfl | omega) (show (upM (psM M s) 6 i ((10 * (s.2.2.2 i)) + d)) = (psM M (s.1, s.2.1, s.2.2.1, upF s.2.2.2 i (10 * s.2.2.2 i + d))) from by funext k j; simp only [upM, psM, upF]; grind) (zQ1 (by omega))
    · replace zh2 : ¬ ((10 * (s.2.2.2 i)) + d ≤ (144 : Int)) := zh2
      refine And.intro rfl ?_
      first
        | exact QcI (Q := Q) (show (4 : Int) = (4 : Int) from by first | rfl | omega) (show (psM M s) = (psM M s) from by rfl) (zQ0 (by omega))
        | exact QcI (Q := Q) (show (4 : Int) = (3 : Int) from by first | rfl | omega) (show (psM M s) = (psM M (s.1, s.2.1, s.2.2.1, upF s.2.2.2 i (10 * s.2.2.2 i + d))) from by funext k j; simp only [upM, psM, upF]; grind) (zQ1 (by omega))
theorem c_X1_stateAfterDigit {ev : Ev} {Q : Out → Mem → Prop} {M : Mem}  (s : PS) (d : Int) (k : Int) (zp0 : PSI k s) (zp1 : 0 ≤ k ∧ k ≤ 39) (zp2 : 0 ≤ d ∧ d ≤ 9) (zQ0 : True → Q (.inl (some (vI ((pdig d s).1)))) (psM M (s.1, (pdig d s).2))) : AM ev false 1 t_X1_stateAfterDigit [vR 3, vI d] (psM M s) Q := by
  obtain ⟨zs1, zs2, zs3, zs4, zs5⟩ := zp0
  refine AM.of mt_X1_stateAfterDigit (Nat.le_of_ble_eq_true rfl) ?_
  change AW ev false 1 t_X1_stateAfterDigit Q 0 [some (vR 3), some (vI d), none] [] (psM M s)
  refine AW.go pk_X1_stateAfterDigit 0 6 rfl rfl ?_
  refine And.intro (show Inr s.1 from ⟨by omega, by omega⟩) (And.intro (fun zh1 => ?_) (fun zh1 => ?_))
  · replace zh1 : s.1 ≠ (0 : Int) := zh1
    change AW ev false 1 t_X1_stateAfterDigit Q 13 [some (vR 3), some (vI d), none] [] (psM M s)
    refine AW.go pk_X1_stateAfterDigit 7 12 rfl rfl ?_
    refine And.intro (show 2 < mL t_X1_stateAfterDigit from (by decide)) ?_
    refine And.intro (show Inr (s.2.1 - 1) from ⟨by omega, by omega⟩) (And.intro (fun zh2 => ?_) (fun zh2 => ?_))
    · replace zh2 : s.2.1 - 1 < (0 : Int) := zh2
      exfalso; omega
    · replace zh2 : ¬ (s.2.1 - 1 < (0 : Int)) := zh2
      refine And.intro (show Inr (s.2.1 - 1) ∧ Inr 20 from ⟨⟨by omega, by omega⟩, ⟨by omega, by omega⟩⟩) (And.intro (fun zh3 => ?_) (fun zh3 => ?_))
      · replace zh3 : s.2.1 - 1 < (20 : Int) := zh3
        change AW ev false 1 t_X1_stateAfterDigit Q 32 [some (vR 3), some (vI d), some (vI (s.2.1 - 1))] [] (psM M s)
        refine AW.go pk_X1_stateAfterDigit 19 8 rfl rfl ?_
        refine And.intro (show Inr s.1 ∧ Inr 1 from ⟨⟨by omega, by omega⟩, ⟨by omega, by omega⟩⟩) (And.intro (fun zh4 => ?_) (fun zh4 => ?_))
        · replace zh4 : s.1 ≠ (1 : Int) := zh4
          change AW ev false 1 t_X1_stateAfterDigit Q 49 [some (vR 3), some (vI d), some (vI (s.2.1 - 1))] [] (psM M s)
          refine AW.go pk_X1_stateAfterDigit 28 4 rfl rfl ?_
          change AW ev false 1 t_X1_stateAfterDigit Q 52 [some (vR 3), some (vI d), some (vI (s.2.1 - 1))] [vI d, vI (s.2.1 - 1), vR 3] (psM M s)
          refine AW.callV (d' := 0) [vI (s.2.1 - 1), vI d] [] vm_X1_growRepeat rfl hX1_52 (okP_d pk_X1_stateAfterDigit 31 52 (.invokevirtual 52) 3 rfl) (by decide) rfl (Nat.le_of_ble_eq_true rfl) ?_
          refine c_X1_growRepeat s (s.2.1 - 1) d (by omega) ((zs5 _ (by omega) (by omega)).2) (by omega) (fun zc6 => ?_) (fun zc6 => ?_)
          · replace zc6 : (10 * s.2.2.2 (s.2.1 - 1) + d = 0 ∨ 144 < 10 * s.2.2.2 (s.2.1 - 1) + d) := zc6
            change AW ev false 1 t_X1_stateAfterDigit Q 55 [some (vR 3), some (vI d), some (vI (s.2.1 - 1))] [vI 4] (psM M s)
            refine AW.go pk_X1_stateAfterDigit 32 1 rfl rfl ?_
            refine And.intro rfl ?_
            have zpd : pdig d s = (4, s.2.1, s.2.2.1, s.2.2.2) := by
              unfold pdig; first | rw [if_neg (by omega), if_pos (by omega), if_pos (by omega)] | rw [if_neg (by omega), if_neg (by omega), if_pos (by omega)]
            exact QcI (Q := Q) (show (4 : Int) = (pdig d s).1 from by rw [zpd]) (show (psM M s) = psM M (s.1, (pdig d s).2) from by rw [zpd]) (zQ0 trivial)
          · replace zc6 : ¬ (10 * s.2.2.2 (s.2.1 - 1) + d = 0 ∨ 144 < 10 * s.2.2.2 (s.2.1 - 1) + d) := zc6
            change AW ev false 1 t_X1_stateAfterDigit Q 55 [some (vR 3), some (vI d), some (vI (s.2.1 - 1))] [vI 3] (psM M (s.1, s.2.1, s.2.2.1, upF s.2.2.2 (s.2.1 - 1) (10 * s.2.2.2 (s.2.1 - 1) + d)))
            refine AW.go pk_X1_stateAfterDigit 32 1 rfl rfl ?_
            refine And.intro rfl ?_
            have zpd : pdig d s = (3, s.2.1, s.2.2.1, upF s.2.2.2 (s.2.1 - 1) (10 * s.2.2.2 (s.2.1 - 1) + d)) := by
              unfold pdig; rw [if_neg (by omega), if_neg (by omega), if_neg (by omega)]
            exact QcI (Q := Q) (show (3 : Int) = (pdig d s).1 from by rw [zpd]) (show (psM M (s.1, s.2.1, s.2.2.1, upF s.2.2.2 (s.2.1 - 1) (10 * s.2.2.2 (s.2.1 - 1) + d))) = psM M (s.1, (pdig d s).2) from by rw [zpd]) (zQ0 trivial)
        · replace zh4 : ¬ (s.1 ≠ (1 : Int)) := zh4
          change AW ev false 1 t_X1_stateAfterDigit Q 43 [some (vR 3), some (vI d), some (vI (s.2.1 - 1))] [vI d, vI (s.2.1 - 1), vR 3] (psM M s)
          refine AW.callV (d' := 0) [vI (s.2.1 - 1), vI d] [] vm_X1_growHeight rfl hX1_48 (okP_d pk_X1_stateAfterDigit 26 43 (.invokevirtual 48) 3 rfl) (by decide) rfl (Nat.le_of_ble_eq_true rfl) ?_
          refine c_X1_growHeight s (s.2.1 - 1) d (by omega) ((zs5 _ (by omega) (by omega)).1) (by omega) (fun zc8 => ?_) (fun zc8 => ?_)
          · replace zc8 : (s.2.2.1 (s.2.1 - 1) = 0 ∨ 500 < 10 * s.2.2.1 (s.2.1 - 1) + d) := zc8
            change AW ev false 1 t_X1_stateAfterDigit Q 46 [some (vR 3), some (vI d), some (vI (s.2.1 - 1))] [vI 4] (psM M s)
            refine AW.go pk_X1_stateAfterDigit 27 1 rfl rfl ?_
            change AW ev false 1 t_X1_stateAfterDigit Q 55 [some (vR 3), some (vI d), some (vI (s.2.1 - 1))] [vI 4] (psM M s)
            refine AW.go pk_X1_stateAfterDigit 32 1 rfl rfl ?_
            refine And.intro rfl ?_
            have zpd : pdig d s = (4, s.2.1, s.2.2.1, s.2.2.2) := by
              unfold pdig; first | rw [if_neg (by omega), if_pos (by omega), if_pos (by omega)] | rw [if_neg (by omega), if_neg (by omega), if_pos (by omega)]
            exact QcI (Q := Q) (show (4 : Int) = (pdig d s).1 from by rw [zpd]) (show (psM M s) = psM M (s.1, (pdig d s).2) from by rw [zpd]) (zQ0 trivial)
          · replace zc8 : ¬ (s.2.2.1 (s.2.1 - 1) = 0 ∨ 500 < 10 * s.2.2.1 (s.2.1 - 1) + d) := zc8
            change AW ev false 1 t_X1_stateAfterDigit Q 46 [some (vR 3), some (vI d), some (vI (s.2.1 - 1))] [vI 1] (psM M (s.1, s.2.1, upF s.2.2.1 (s.2.1 - 1) (10 * s.2.2.1 (s.2.1 - 1) + d), s.2.2.2))
            refine AW.go pk_X1_stateAfterDigit 27 1 rfl rfl ?_
            change AW ev false 1 t_X1_stateAfterDigit Q 55 [some (vR 3), some (vI d), some (vI (s.2.1 - 1))] [vI 1] (psM M (s.1, s.2.1, upF s.2.2.1 (s.2.1 - 1) (10 * s.2.2.1 (s.2.1 - 1) + d), s.2.2.2))
            refine AW.go pk_X1_stateAfterDigit 32 1 rfl rfl ?_
            refine And.intro rfl ?_
            have zpd : pdig d s = (1, s.2.1, upF s.2.2.1 (s.2.1 - 1) (10 * s.2.2.1 (s.2.1 - 1) + d), s.2.2.2) := by
              unfold pdig; rw [if_neg (by omega), if_pos (by omega), if_neg (by omega)]
            exact QcI (Q := Q) (show (1 : Int) = (pdig d s).1 from by rw [zpd]) (show (psM M (s.1, s.2.1, upF s.2.2.1 (s.2.1 - 1) (10 * s.2.2.1 (s.2.1 - 1) + d), s.2.2.2)) = psM M (s.1, (pdig d s).2) from by rw [zpd]) (zQ0 trivial)
      · replace zh3 : ¬ (s.2.1 - 1 < (20 : Int)) := zh3
        exfalso; omega
  · replace zh1 : ¬ (s.1 ≠ (0 : Int)) := zh1
    change AW ev false 1 t_X1_stateAfterDigit Q 9 [some (vR 3), some (vI d), none] [vI d, vR 3] (psM M s)
    refine AW.callV (d' := 0) [vI d] [] vm_X1_beginItem rfl hX1_45 (okP_d pk_X1_stateAfterDigit 5 9 (.invokevirtual 45) 3 rfl) (by decide) rfl (Nat.le_of_ble_eq_true rfl) ?_
    refine c_X1_beginItem s d (by omega) (fun zc10 => ?_)
    · replace zc10 : True := zc10
      change AW ev false 1 t_X1_stateAfterDigit Q 12 [some (vR 3), some (vI d), none] [vI 1] (psM M (s.1, s.2.1 + 1, upF s.2.2.1 s.2.1 d, upF s.2.2.2 s.2.1 0))
      refine AW.go pk_X1_stateAfterDigit 6 1 rfl rfl ?_
      refine And.intro rfl ?_
      have zpd : pdig d s = (1, s.2.1 + 1, upF s.2.2.1 s.2.1 d, upF s.2.2.2 s.2.1 0) := by
        unfold pdig; rw [if_pos (by omega)]
      exact QcI (Q := Q) (show (1 : Int) = (pdig d s).1 from by rw [zpd]) (show (psM M (s.1, s.2.1 + 1, upF s.2.2.1 s.2.1 d, upF s.2.2.2 s.2.1 0)) = psM M (s.1, (pdig d s).2) from by rw [zpd]) (zQ0 trivial)
theorem c_X1_stateAfter {ev : Ev} {Q : Out → Mem → Prop} {M : Mem}  (s : PS) (c : Int) (k : Int) (zp0 : PSI k s) (zp1 : 0 ≤ k ∧ k ≤ 39) (zp2 : 0 ≤ c ∧ c ≤ 200) (zQ0 : True → Q (.inl (some (vI ((pstep c s).1)))) (psM M (s.1, (pstep c s).2))) : AM ev false 2 t_X1_stateAfter [vR 3, vI c] (psM M s) Q := by
  have zpz := zp0
  obtain ⟨zs1, zs2, zs3, zs4, zs5⟩ := zp0
  refine AM.of mt_X1_stateAfter (Nat.le_of_ble_eq_true rfl) ?_
  change AW ev false 2 t_X1_stateAfter Q 0 [some (vR 3), some (vI c)] [] (psM M s)
  refine AW.go pk_X1_stateAfter 0 11 rfl rfl ?_
  refine And.intro (show Inr c ∧ Inr 48 from ⟨⟨by omega, by omega⟩, ⟨by omega, by omega⟩⟩) (And.intro (fun zh1 => ?_) (fun zh1 => ?_))
  · replace zh1 : c < (48 : Int) := zh1
    change AW ev false 2 t_X1_stateAfter Q 21 [some (vR 3), some (vI c)] [] (psM M s)
    refine AW.go pk_X1_stateAfter 12 9 rfl rfl ?_
    refine And.intro (show Inr c ∧ Inr 42 from ⟨⟨by omega, by omega⟩, ⟨by omega, by omega⟩⟩) (And.intro (fun zh2 => ?_) (fun zh2 => ?_))
    · replace zh2 : c ≠ (42 : Int) := zh2
      change AW ev false 2 t_X1_stateAfter Q 37 [some (vR 3), some (vI c)] [] (psM M s)
      refine AW.go pk_X1_stateAfter 21 5 rfl rfl ?_
      refine And.intro (show Inr c ∧ Inr 44 from ⟨⟨by omega, by omega⟩, ⟨by omega, by omega⟩⟩) (And.intro (fun zh3 => ?_) (fun zh3 => ?_))
      · replace zh3 : c ≠ (44 : Int) := zh3
        change AW ev false 2 t_X1_stateAfter Q 52 [some (vR 3), some (vI c)] [] (psM M s)
        refine AW.go pk_X1_stateAfter 29 2 rfl rfl ?_
        refine And.intro rfl ?_
        have zps : pstep c s = (4, s.2.1, s.2.2.1, s.2.2.2) := by
          unfold pstep; first | rw [if_neg (by omega), if_neg (by omega), if_neg (by omega)]
        exact QcI (Q := Q) (show (4 : Int) = (pstep c s).1 from by rw [zps]) (show (psM M s) = psM M (s.1, (pstep c s).2) from by rw [zps]) (zQ0 trivial)
      · replace zh3 : ¬ (c ≠ (44 : Int)) := zh3
        change AW ev false 2 t_X1_stateAfter Q 44 [some (vR 3), some (vI c)] [vR 3] (psM M s)
        refine AW.callV (d' := 0) [] [] vm_X1_isComplete rfl hX1_41 (okP_d pk_X1_stateAfter 25 44 (.invokevirtual 41) 3 rfl) (by decide) rfl (Nat.le_of_ble_eq_true rfl) ?_
        refine c_X1_isComplete  (show -10 ≤ s.1 ∧ s.1 ≤ 10 from by omega) (fun w1 zw1 => ?_)
        replace zw1 : (w1 = 0 ∨ w1 = 1) ∧ (w1 = 1 ↔ s.1 = 1 ∨ s.1 = 3) := zw1
        replace zw1 : (w1 = 0 ∨ w1 = 1) ∧ (w1 = 1 ↔ s.1 = 1 ∨ s.1 = 3) := zw1
        change AW ev false 2 t_X1_stateAfter Q 47 [some (vR 3), some (vI c)] [vI w1] (psM M s)
        refine AW.go pk_X1_stateAfter 26 3 rfl rfl ?_
        refine And.intro (show Inr w1 from ⟨by omega, by omega⟩) (And.intro (fun zh4 => ?_) (fun zh4 => ?_))
        · replace zh4 : w1 = (0 : Int) := zh4
          change AW ev false 2 t_X1_stateAfter Q 52 [some (vR 3), some (vI c)] [] (psM M s)
          refine AW.go pk_X1_stateAfter 29 2 rfl rfl ?_
          refine And.intro rfl ?_
          have zps : pstep c s = (4, s.2.1, s.2.2.1, s.2.2.2) := by
            unfold pstep; first | rw [if_neg (by omega), if_neg (by omega), if_neg (by omega)]
          exact QcI (Q := Q) (show (4 : Int) = (pstep c s).1 from by rw [zps]) (show (psM M s) = psM M (s.1, (pstep c s).2) from by rw [zps]) (zQ0 trivial)
        · replace zh4 : ¬ (w1 = (0 : Int)) := zh4
          refine And.intro rfl ?_
          have zps : pstep c s = (0, s.2.1, s.2.2.1, s.2.2.2) := by
            unfold pstep; first | rw [if_neg (by omega), if_neg (by omega), if_pos (by omega)]
          exact QcI (Q := Q) (show (0 : Int) = (pstep c s).1 from by rw [zps]) (show (psM M s) = psM M (s.1, (pstep c s).2) from by rw [zps]) (zQ0 trivial)
    · replace zh2 : ¬ (c ≠ (42 : Int)) := zh2
      refine And.intro (show Inr s.1 ∧ Inr 1 from ⟨⟨by omega, by omega⟩, ⟨by omega, by omega⟩⟩) (And.intro (fun zh5 => ?_) (fun zh5 => ?_))
      · replace zh5 : s.1 ≠ (1 : Int) := zh5
        change AW ev false 2 t_X1_stateAfter Q 37 [some (vR 3), some (vI c)] [] (psM M s)
        refine AW.go pk_X1_stateAfter 21 5 rfl rfl ?_
        refine And.intro (show Inr c ∧ Inr 44 from ⟨⟨by omega, by omega⟩, ⟨by omega, by omega⟩⟩) (And.intro (fun zh6 => ?_) (fun zh6 => ?_))
        · replace zh6 : c ≠ (44 : Int) := zh6
          change AW ev false 2 t_X1_stateAfter Q 52 [some (vR 3), some (vI c)] [] (psM M s)
          refine AW.go pk_X1_stateAfter 29 2 rfl rfl ?_
          refine And.intro rfl ?_
          have zps : pstep c s = (4, s.2.1, s.2.2.1, s.2.2.2) := by
            unfold pstep; first | rw [if_neg (by omega), if_neg (by omega), if_neg (by omega)]
          exact QcI (Q := Q) (show (4 : Int) = (pstep c s).1 from by rw [zps]) (show (psM M s) = psM M (s.1, (pstep c s).2) from by rw [zps]) (zQ0 trivial)
        · replace zh6 : ¬ (c ≠ (44 : Int)) := zh6
          change AW ev false 2 t_X1_stateAfter Q 44 [some (vR 3), some (vI c)] [vR 3] (psM M s)
          refine AW.callV (d' := 0) [] [] vm_X1_isComplete rfl hX1_41 (okP_d pk_X1_stateAfter 25 44 (.invokevirtual 41) 3 rfl) (by decide) rfl (Nat.le_of_ble_eq_true rfl) ?_
          refine c_X1_isComplete  (show -10 ≤ s.1 ∧ s.1 ≤ 10 from by omega) (fun w1 zw1 => ?_)
          replace zw1 : (w1 = 0 ∨ w1 = 1) ∧ (w1 = 1 ↔ s.1 = 1 ∨ s.1 = 3) := zw1
          replace zw1 : (w1 = 0 ∨ w1 = 1) ∧ (w1 = 1 ↔ s.1 = 1 ∨ s.1 = 3) := zw1
          change AW ev false 2 t_X1_stateAfter Q 47 [some (vR 3), some (vI c)] [vI w1] (psM M s)
          refine AW.go pk_X1_stateAfter 26 3 rfl rfl ?_
          refine And.intro (show Inr w1 from ⟨by omega, by omega⟩) (And.intro (fun zh7 => ?_) (fun zh7 => ?_))
          · replace zh7 : w1 = (0 : Int) := zh7
            change AW ev false 2 t_X1_stateAfter Q 52 [some (vR 3), some (vI c)] [] (psM M s)
            refine AW.go pk_X1_stateAfter 29 2 rfl rfl ?_
            refine And.intro rfl ?_
            have zps : pstep c s = (4, s.2.1, s.2.2.1, s.2.2.2) := by
              unfold pstep; first | rw [if_neg (by omega), if_neg (by omega), if_neg (by omega)]
            exact QcI (Q := Q) (show (4 : Int) = (pstep c s).1 from by rw [zps]) (show (psM M s) = psM M (s.1, (pstep c s).2) from by rw [zps]) (zQ0 trivial)
          · replace zh7 : ¬ (w1 = (0 : Int)) := zh7
            refine And.intro rfl ?_
            have zps : pstep c s = (0, s.2.1, s.2.2.1, s.2.2.2) := by
              unfold pstep; first | rw [if_neg (by omega), if_neg (by omega), if_pos (by omega)]
            exact QcI (Q := Q) (show (0 : Int) = (pstep c s).1 from by rw [zps]) (show (psM M s) = psM M (s.1, (pstep c s).2) from by rw [zps]) (zQ0 trivial)
      · replace zh5 : ¬ (s.1 ≠ (1 : Int)) := zh5
        refine And.intro rfl ?_
        have zps : pstep c s = (2, s.2.1, s.2.2.1, s.2.2.2) := by
          unfold pstep; first | rw [if_neg (by omega), if_pos (by omega)]
        exact QcI (Q := Q) (show (2 : Int) = (pstep c s).1 from by rw [zps]) (show (psM M s) = psM M (s.1, (pstep c s).2) from by rw [zps]) (zQ0 trivial)
  · replace zh1 : ¬ (c < (48 : Int)) := zh1
    refine And.intro (show Inr c ∧ Inr 57 from ⟨⟨by omega, by omega⟩, ⟨by omega, by omega⟩⟩) (And.intro (fun zh8 => ?_) (fun zh8 => ?_))
    · replace zh8 : (57 : Int) < c := zh8
      change AW ev false 2 t_X1_stateAfter Q 21 [some (vR 3), some (vI c)] [] (psM M s)
      refine AW.go pk_X1_stateAfter 12 9 rfl rfl ?_
      refine And.intro (show Inr c ∧ Inr 42 from ⟨⟨by omega, by omega⟩, ⟨by omega, by omega⟩⟩) (And.intro (fun zh9 => ?_) (fun zh9 => ?_))
      · replace zh9 : c ≠ (42 : Int) := zh9
        change AW ev false 2 t_X1_stateAfter Q 37 [some (vR 3), some (vI c)] [] (psM M s)
        refine AW.go pk_X1_stateAfter 21 5 rfl rfl ?_
        refine And.intro (show Inr c ∧ Inr 44 from ⟨⟨by omega, by omega⟩, ⟨by omega, by omega⟩⟩) (And.intro (fun zh10 => ?_) (fun zh10 => ?_))
        · replace zh10 : c ≠ (44 : Int) := zh10
          change AW ev false 2 t_X1_stateAfter Q 52 [some (vR 3), some (vI c)] [] (psM M s)
          refine AW.go pk_X1_stateAfter 29 2 rfl rfl ?_
          refine And.intro rfl ?_
          have zps : pstep c s = (4, s.2.1, s.2.2.1, s.2.2.2) := by
            unfold pstep; first | rw [if_neg (by omega), if_neg (by omega), if_neg (by omega)]
          exact QcI (Q := Q) (show (4 : Int) = (pstep c s).1 from by rw [zps]) (show (psM M s) = psM M (s.1, (pstep c s).2) from by rw [zps]) (zQ0 trivial)
        · replace zh10 : ¬ (c ≠ (44 : Int)) := zh10
          change AW ev false 2 t_X1_stateAfter Q 44 [some (vR 3), some (vI c)] [vR 3] (psM M s)
          refine AW.callV (d' := 0) [] [] vm_X1_isComplete rfl hX1_41 (okP_d pk_X1_stateAfter 25 44 (.invokevirtual 41) 3 rfl) (by decide) rfl (Nat.le_of_ble_eq_true rfl) ?_
          refine c_X1_isComplete  (show -10 ≤ s.1 ∧ s.1 ≤ 10 from by omega) (fun w1 zw1 => ?_)
          replace zw1 : (w1 = 0 ∨ w1 = 1) ∧ (w1 = 1 ↔ s.1 = 1 ∨ s.1 = 3) := zw1
          replace zw1 : (w1 = 0 ∨ w1 = 1) ∧ (w1 = 1 ↔ s.1 = 1 ∨ s.1 = 3) := zw1
          change AW ev false 2 t_X1_stateAfter Q 47 [some (vR 3), some (vI c)] [vI w1] (psM M s)
          refine AW.go pk_X1_stateAfter 26 3 rfl rfl ?_
          refine And.intro (show Inr w1 from ⟨by omega, by omega⟩) (And.intro (fun zh11 => ?_) (fun zh11 => ?_))
          · replace zh11 : w1 = (0 : Int) := zh11
            change AW ev false 2 t_X1_stateAfter Q 52 [some (vR 3), some (vI c)] [] (psM M s)
            refine AW.go pk_X1_stateAfter 29 2 rfl rfl ?_
            refine And.intro rfl ?_
            have zps : pstep c s = (4, s.2.1, s.2.2.1, s.2.2.2) := by
              unfold pstep; first | rw [if_neg (by omega), if_neg (by omega), if_neg (by omega)]
            exact QcI (Q := Q) (show (4 : Int) = (pstep c s).1 from by rw [zps]) (show (psM M s) = psM M (s.1, (pstep c s).2) from by rw [zps]) (zQ0 trivial)
          · replace zh11 : ¬ (w1 = (0 : Int)) := zh11
            refine And.intro rfl ?_
            have zps : pstep c s = (0, s.2.1, s.2.2.1, s.2.2.2) := by
              unfold pstep; first | rw [if_neg (by omega), if_neg (by omega), if_pos (by omega)]
            exact QcI (Q := Q) (show (0 : Int) = (pstep c s).1 from by rw [zps]) (show (psM M s) = psM M (s.1, (pstep c s).2) from by rw [zps]) (zQ0 trivial)
      · replace zh9 : ¬ (c ≠ (42 : Int)) := zh9
        refine And.intro (show Inr s.1 ∧ Inr 1 from ⟨⟨by omega, by omega⟩, ⟨by omega, by omega⟩⟩) (And.intro (fun zh12 => ?_) (fun zh12 => ?_))
        · replace zh12 : s.1 ≠ (1 : Int) := zh12
          change AW ev false 2 t_X1_stateAfter Q 37 [some (vR 3), some (vI c)] [] (psM M s)
          refine AW.go pk_X1_stateAfter 21 5 rfl rfl ?_
          refine And.intro (show Inr c ∧ Inr 44 from ⟨⟨by omega, by omega⟩, ⟨by omega, by omega⟩⟩) (And.intro (fun zh13 => ?_) (fun zh13 => ?_))
          · replace zh13 : c ≠ (44 : Int) := zh13
            change AW ev false 2 t_X1_stateAfter Q 52 [some (vR 3), some (vI c)] [] (psM M s)
            refine AW.go pk_X1_stateAfter 29 2 rfl rfl ?_
            refine And.intro rfl ?_
            have zps : pstep c s = (4, s.2.1, s.2.2.1, s.2.2.2) := by
              unfold pstep; first | rw [if_neg (by omega), if_neg (by omega), if_neg (by omega)]
            exact QcI (Q := Q) (show (4 : Int) = (pstep c s).1 from by rw [zps]) (show (psM M s) = psM M (s.1, (pstep c s).2) from by rw [zps]) (zQ0 trivial)
          · replace zh13 : ¬ (c ≠ (44 : Int)) := zh13
            change AW ev false 2 t_X1_stateAfter Q 44 [some (vR 3), some (vI c)] [vR 3] (psM M s)
            refine AW.callV (d' := 0) [] [] vm_X1_isComplete rfl hX1_41 (okP_d pk_X1_stateAfter 25 44 (.invokevirtual 41) 3 rfl) (by decide) rfl (Nat.le_of_ble_eq_true rfl) ?_
            refine c_X1_isComplete  (show -10 ≤ s.1 ∧ s.1 ≤ 10 from by omega) (fun w1 zw1 => ?_)
            replace zw1 : (w1 = 0 ∨ w1 = 1) ∧ (w1 = 1 ↔ s.1 = 1 ∨ s.1 = 3) := zw1
            replace zw1 : (w1 = 0 ∨ w1 = 1) ∧ (w1 = 1 ↔ s.1 = 1 ∨ s.1 = 3) := zw1
            change AW ev false 2 t_X1_stateAfter Q 47 [some (vR 3), some (vI c)] [vI w1] (psM M s)
            refine AW.go pk_X1_stateAfter 26 3 rfl rfl ?_
            refine And.intro (show Inr w1 from ⟨by omega, by omega⟩) (And.intro (fun zh14 => ?_) (fun zh14 => ?_))
            · replace zh14 : w1 = (0 : Int) := zh14
              change AW ev false 2 t_X1_stateAfter Q 52 [some (vR 3), some (vI c)] [] (psM M s)
              refine AW.go pk_X1_stateAfter 29 2 rfl rfl ?_
              refine And.intro rfl ?_
              have zps : pstep c s = (4, s.2.1, s.2.2.1, s.2.2.2) := by
                unfold pstep; first | rw [if_neg (by omega), if_neg (by omega), if_neg (by omega)]
              exact QcI (Q := Q) (show (4 : Int) = (pstep c s).1 from by rw [zps]) (show (psM M s) = psM M (s.1, (pstep c s).2) from by rw [zps]) (zQ0 trivial)
            · replace zh14 : ¬ (w1 = (0 : Int)) := zh14
              refine And.intro rfl ?_
              have zps : pstep c s = (0, s.2.1, s.2.2.1, s.2.2.2) := by
                unfold pstep; first | rw [if_neg (by omega), if_neg (by omega), if_pos (by omega)]
              exact QcI (Q := Q) (show (0 : Int) = (pstep c s).1 from by rw [zps]) (show (psM M s) = psM M (s.1, (pstep c s).2) from by rw [zps]) (zQ0 trivial)
        · replace zh12 : ¬ (s.1 ≠ (1 : Int)) := zh12
          refine And.intro rfl ?_
          have zps : pstep c s = (2, s.2.1, s.2.2.1, s.2.2.2) := by
            unfold pstep; first | rw [if_neg (by omega), if_pos (by omega)]
          exact QcI (Q := Q) (show (2 : Int) = (pstep c s).1 from by rw [zps]) (show (psM M s) = psM M (s.1, (pstep c s).2) from by rw [zps]) (zQ0 trivial)
    · replace zh8 : ¬ ((57 : Int) < c) := zh8
      change AW ev false 2 t_X1_stateAfter Q 17 [some (vR 3), some (vI c)] [vI (c - 48), vR 3] (psM M s)
      refine AW.callV (d' := 1) [vI (c - 48)] [] vm_X1_stateAfterDigit rfl hX1_38 (okP_d pk_X1_stateAfter 10 17 (.invokevirtual 38) 3 rfl) (by decide) rfl (Nat.le_of_ble_eq_true rfl) ?_
      refine c_X1_stateAfterDigit s (c - 48) k zpz (by omega) (by omega) (fun zc16 => ?_)
      · replace zc16 : True := zc16
        change AW ev false 2 t_X1_stateAfter Q 20 [some (vR 3), some (vI c)] [vI ((pdig (c - 48) s).1)] (psM M (s.1, (pdig (c - 48) s).2))
        refine AW.go pk_X1_stateAfter 11 1 rfl rfl ?_
        refine And.intro rfl ?_
        have zps : pstep c s = pdig (c - 48) s := by unfold pstep; rw [if_pos (by omega)]
        exact QcI (Q := Q) (show (pdig (c - 48) s).1 = (pstep c s).1 from by rw [zps]) (show (psM M (s.1, (pdig (c - 48) s).2)) = psM M (s.1, (pstep c s).2) from by rw [zps]) (zQ0 trivial)
theorem lz_read {ev : Ev} {Q : Out → Mem → Prop} {M : Mem}   (zp0 : 0 ≤ M 3 3 ∧ M 3 3 ≤ 40) (zp1 : ∀ i, 0 ≤ i → i < M 3 3 → 33 ≤ M 4 i ∧ M 4 i ≤ 126)  : ∀ (n : Nat) (i : Int) (s : PS), i + n = M 3 3 → (0 ≤ i) → (PSI i s) → (Q (.inl (some (vI (prun (M 4) n i s).1))) (psM M (prun (M 4) n i s).2)) → AW ev false 3 t_X1_read Q 12 [some (vR 3), some (vI i)] [] (psM M s) := by
  intro n
  induction n with
  | zero =>
    intro i s zn zv0 zv1 zv2
    refine AW.go pk_X1_read 8 9 rfl rfl ?_
    refine And.intro (show Inr i ∧ Inr (M 3 3) from ⟨⟨by omega, by omega⟩, ⟨by omega, by omega⟩⟩) (And.intro (fun zh1 => ?_) (fun zh1 => ?_))
    · replace zh1 : M 3 3 ≤ i := zh1
      change AW ev false 3 t_X1_read Q 49 [some (vR 3), some (vI i)] [] (psM M s)
      refine AW.go pk_X1_read 27 3 rfl rfl ?_
      refine And.intro rfl ?_
      exact QcI (Q := Q) (show M 3 3 = i from by omega) rfl zv2
    · replace zh1 : ¬ (M 3 3 ≤ i) := zh1
      exfalso; omega
  | succ n zih =>
    intro i s zn zv0 zv1 zv2
    refine AW.go pk_X1_read 8 9 rfl rfl ?_
    refine And.intro (show Inr i ∧ Inr (M 3 3) from ⟨⟨by omega, by omega⟩, ⟨by omega, by omega⟩⟩) (And.intro (fun zh1 => ?_) (fun zh1 => ?_))
    · replace zh1 : M 3 3 ≤ i := zh1
      exfalso; omega
    · replace zh1 : ¬ (M 3 3 ≤ i) := zh1
      change AW ev false 3 t_X1_read Q 24 [some (vR 3), some (vI i)] [vI i, vR 3, vR 3, vR 3] (psM M s)
      refine AW.callV (d' := 0) [vI i] [vR 3, vR 3] vm_X1_codeAt rfl hX1_31 (okP_d pk_X1_read 16 24 (.invokevirtual 31) 3 rfl) (by decide) rfl (Nat.le_of_ble_eq_true rfl) ?_
      refine c_X1_codeAt i (by omega) (fun w1 zw1 => ?_)
      replace zw1 : w1 = (M 4 i) := zw1
      replace zw1 : w1 = M 4 i := zw1
      have zb := zp1 i (by omega) (by omega)
      change AW ev false 3 t_X1_read Q 27 [some (vR 3), some (vI i)] [vI w1, vR 3, vR 3] (psM M s)
      refine AW.callV (d' := 2) [vI w1] [vR 3] vm_X1_stateAfter rfl hX1_35 (okP_d pk_X1_read 17 27 (.invokevirtual 35) 3 rfl) (by decide) rfl (Nat.le_of_ble_eq_true rfl) ?_
      refine c_X1_stateAfter s w1 i zv1 (by omega) (by omega) (fun zc3 => ?_)
      · replace zc3 : True := zc3
        have zpr := pstep_r w1 s
        change AW ev false 3 t_X1_read Q 30 [some (vR 3), some (vI i)] [vI ((pstep w1 s).1), vR 3] (psM M (s.1, (pstep w1 s).2))
        refine AW.go pk_X1_read 18 7 rfl rfl ?_
        refine And.intro (show Inr ((pstep w1 s).1) ∧ Inr 4 from ⟨⟨by omega, by omega⟩, ⟨by omega, by omega⟩⟩) (And.intro (fun zh4 => ?_) (fun zh4 => ?_))
        · replace zh4 : (pstep w1 s).1 ≠ (4 : Int) := zh4
          change AW ev false 3 t_X1_read Q 43 [some (vR 3), some (vI i)] [] (upM (psM M (s.1, (pstep w1 s).2)) 3 5 ((pstep w1 s).1))
          refine AW.go pk_X1_read 25 2 rfl rfl ?_
          refine And.intro (show 1 < mL t_X1_read from (by decide)) ?_
          change AW ev false 3 t_X1_read Q 12 [some (vR 3), some (vI (i + 1))] [] (upM (psM M (s.1, (pstep w1 s).2)) 3 5 ((pstep w1 s).1))
          exact AW.mem (show (upM (psM M (s.1, (pstep w1 s).2)) 3 5 ((pstep w1 s).1)) = (psM M (pstep w1 s)) from by exact ps_put M s.1 s (pstep w1 s)) (zih (i + 1) (pstep w1 s) (by omega) (by omega) (PSI.step zv1 (by omega)) (by rw [show prun (M 4) (n + 1) i s = prun (M 4) n (i + 1) (pstep w1 s) from by (conv => lhs; unfold prun); rw [← zw1, if_neg (by omega)]] at zv2; exact zv2))
        · replace zh4 : ¬ ((pstep w1 s).1 ≠ (4 : Int)) := zh4
          refine And.intro rfl ?_
          have zps : prun (M 4) (n + 1) i s = (i, pstep w1 s) := by unfold prun; rw [← zw1, if_pos (by omega)]
          rw [zps] at zv2
          exact QcI (Q := Q) rfl (show (upM (psM M (s.1, (pstep w1 s).2)) 3 5 ((pstep w1 s).1)) = psM M (pstep w1 s) from ps_put M s.1 s (pstep w1 s)) zv2
theorem c_X1_read {ev : Ev} {Q : Out → Mem → Prop} {M : Mem}   (zp0 : 0 ≤ M 3 3 ∧ M 3 3 ≤ 40) (zp1 : ∀ i, 0 ≤ i → i < M 3 3 → 33 ≤ M 4 i ∧ M 4 i ≤ 126) (zQ0 : True → Q (.inl (some (vI ((prun (M 4) (M 3 3).toNat 0 (0, 0, M 5, M 6)).1)))) (psM M ((prun (M 4) (M 3 3).toNat 0 (0, 0, M 5, M 6)).2))) : AM ev false 3 t_X1_read [vR 3] M Q := by
  refine AM.of mt_X1_read (Nat.le_of_ble_eq_true rfl) ?_
  change AW ev false 3 t_X1_read Q 0 [some (vR 3), none] [] M
  refine AW.go pk_X1_read 0 8 rfl rfl ?_
  refine And.intro (show 1 < mL t_X1_read from (by decide)) ?_
  change AW ev false 3 t_X1_read Q 12 [some (vR 3), some (vI 0)] [] (upM (upM M 3 4 0) 3 5 0)
  exact AW.mem (ps_0 M) (lz_read zp0 zp1 (M 3 3).toNat 0 (0, 0, M 5, M 6) (by omega) (by omega) ⟨by dsimp only; omega, by dsimp only; omega, by dsimp only; omega, by dsimp only; omega, fun i q0 q1 => absurd q1 (by show ¬ i < 0; omega)⟩ (zQ0 trivial))
theorem c_X1_cellsOf {ev : Ev} {Q : Out → Mem → Prop} {M : Mem}  (i : Int) (zp0 : 0 ≤ i ∧ i < 20) (zp1 : 0 ≤ M 6 i ∧ M 6 i ≤ 144) (zQ : ∀ (r : Int), r = imax 1 (M 6 i) → Q (.inl (some (vI r))) M) : AM ev false 1 t_X1_cellsOf [vR 3, vI i] M Q := by
  refine AM.of mt_X1_cellsOf (Nat.le_of_ble_eq_true rfl) ?_
  change AW ev false 1 t_X1_cellsOf Q 0 [some (vR 3), some (vI i)] [] M
  refine AW.go pk_X1_cellsOf 0 6 rfl rfl ?_
  refine And.intro (show (0 ≤ i ∧ i < 20) from (by omega)) ?_
  change AW ev false 1 t_X1_cellsOf Q 7 [some (vR 3), some (vI i)] [vI (M 6 i), vI 1] M
  refine AW.mmax (bm 788 _ (by decide +kernel) (by decide +kernel)) (okP_d pk_X1_cellsOf 5 7 (.invokestatic 55) 3 rfl) (by decide) (Nat.le_of_ble_eq_true rfl) ⟨by omega, by omega⟩ ⟨by omega, by omega⟩ (fun w1 zw1 => ?_)
  change AW ev false 1 t_X1_cellsOf Q 10 [some (vR 3), some (vI i)] [vI w1] M
  refine AW.go pk_X1_cellsOf 6 1 rfl rfl ?_
  refine And.intro rfl ?_
  exact zQ w1 (by unfold imax; split <;> omega)
theorem lz_cells {ev : Ev} {Q : Out → Mem → Prop} {M : Mem}   (zp0 : 0 ≤ M 3 4 ∧ M 3 4 ≤ 20) (zp1 : ∀ i, 0 ≤ i → i < M 3 4 → 0 ≤ M 6 i ∧ M 6 i ≤ 144)  : ∀ (n : Nat) (i : Int) (c : Int), i + n = M 3 4 → (0 ≤ i) → (∀ r : Int, r = c + clS (M 6) n i → Q (.inl (some (vI r))) M) → AW ev false 2 t_X1_cells Q 4 [some (vR 3), some (vI c), some (vI i)] [] M := by
  intro n
  induction n with
  | zero =>
    intro i c zn zv0 zv1
    refine AW.go pk_X1_cells 4 8 rfl rfl ?_
    refine And.intro (show Inr i ∧ Inr (M 3 4) from ⟨⟨by omega, by omega⟩, ⟨by omega, by omega⟩⟩) (And.intro (fun zh1 => ?_) (fun zh1 => ?_))
    · replace zh1 : M 3 4 ≤ i := zh1
      change AW ev false 2 t_X1_cells Q 26 [some (vR 3), some (vI c), some (vI i)] [] M
      refine AW.go pk_X1_cells 16 2 rfl rfl ?_
      refine And.intro rfl ?_
      exact zv1 _ (by unfold clS; omega)
    · replace zh1 : ¬ (M 3 4 ≤ i) := zh1
      exfalso; omega
  | succ n zih =>
    intro i c zn zv0 zv1
    refine AW.go pk_X1_cells 4 8 rfl rfl ?_
    refine And.intro (show Inr i ∧ Inr (M 3 4) from ⟨⟨by omega, by omega⟩, ⟨by omega, by omega⟩⟩) (And.intro (fun zh1 => ?_) (fun zh1 => ?_))
    · replace zh1 : M 3 4 ≤ i := zh1
      exfalso; omega
    · replace zh1 : ¬ (M 3 4 ≤ i) := zh1
      change AW ev false 2 t_X1_cells Q 15 [some (vR 3), some (vI c), some (vI i)] [vI i, vR 3, vI c] M
      refine AW.callV (d' := 1) [vI i] [vI c] vm_X1_cellsOf rfl hX1_60 (okP_d pk_X1_cells 11 15 (.invokevirtual 60) 3 rfl) (by decide) rfl (Nat.le_of_ble_eq_true rfl) ?_
      refine c_X1_cellsOf i (by omega) (zp1 _ (by omega) (by omega)) (fun w1 zw1 => ?_)
      change AW ev false 2 t_X1_cells Q 18 [some (vR 3), some (vI c), some (vI i)] [vI w1, vI c] M
      refine AW.go pk_X1_cells 12 4 rfl rfl ?_
      refine And.intro (show 1 < mL t_X1_cells from (by decide)) ?_
      refine And.intro (show 2 < mL t_X1_cells from (by decide)) ?_
      change AW ev false 2 t_X1_cells Q 4 [some (vR 3), some (vI (c + w1)), some (vI (i + 1))] [] M
      exact zih (i + 1) (c + w1) (by omega) (by omega) (fun r zr => zv1 r (by rw [zr]; (conv => rhs; unfold clS); omega))
theorem c_X1_cells {ev : Ev} {Q : Out → Mem → Prop} {M : Mem}   (zp0 : 0 ≤ M 3 4 ∧ M 3 4 ≤ 20) (zp1 : ∀ i, 0 ≤ i → i < M 3 4 → 0 ≤ M 6 i ∧ M 6 i ≤ 144) (zQ : ∀ (r : Int), r = clS (M 6) (M 3 4).toNat 0 → Q (.inl (some (vI r))) M) : AM ev false 2 t_X1_cells [vR 3] M Q := by
  refine AM.of mt_X1_cells (Nat.le_of_ble_eq_true rfl) ?_
  change AW ev false 2 t_X1_cells Q 0 [some (vR 3), none, none] [] M
  refine AW.go pk_X1_cells 0 4 rfl rfl ?_
  refine And.intro (show 1 < mL t_X1_cells from (by decide)) ?_
  refine And.intro (show 2 < mL t_X1_cells from (by decide)) ?_
  change AW ev false 2 t_X1_cells Q 4 [some (vR 3), some (vI 0), some (vI 0)] [] M
  exact lz_cells zp0 zp1 (M 3 4).toNat 0 0 (by omega) (by omega) (fun r zr => zQ r (by omega))
theorem lz_copyIn {ev : Ev} {Q : Out → Mem → Prop} {M : Mem}  (f : Int) (zp0 : 0 ≤ M 3 4 ∧ M 3 4 ≤ 20) (zp1 : ∀ i, 0 ≤ i → i < M 3 4 → (0 ≤ M 5 i ∧ M 5 i ≤ 500) ∧ (0 ≤ M 6 i ∧ M 6 i ≤ 144)) (zp2 : 0 ≤ f ∧ f + clS (M 6) (M 3 4).toNat 0 ≤ 144) (i c0 e : Int) (h : Int → Int) (zi : 0 ≤ i ∧ i < M 3 4) (zc : 0 ≤ c0 ∧ e ≤ 144) (zX : AW ev false 2 t_X1_copyTo Q 48 [some (vR 3), some (vR 1), some (vI f), some (vI e), some (vI i), some (vI e)] [] (stH M (segF h c0 e (M 5 i)))) : ∀ (n : Nat) (c : Int), c + n = e → (c0 ≤ c) → AW ev false 2 t_X1_copyTo Q 24 [some (vR 3), some (vR 1), some (vI f), some (vI c), some (vI i), some (vI e)] [] (stH M (segF h c0 c (M 5 i))) := by
  intro n
  induction n with
  | zero =>
    intro c zn zv0
    refine AW.go pk_X1_copyTo 14 10 rfl rfl ?_
    refine And.intro (show Inr c ∧ Inr e from ⟨⟨by omega, by omega⟩, ⟨by omega, by omega⟩⟩) (And.intro (fun zh1 => ?_) (fun zh1 => ?_))
    · replace zh1 : e ≤ c := zh1
      change AW ev false 2 t_X1_copyTo Q 48 [some (vR 3), some (vR 1), some (vI f), some (vI c), some (vI i), some (vI e)] [] (stH M (segF h c0 c (M 5 i)))
      have zce : c = e := by omega
      subst zce
      exact zX
    · replace zh1 : ¬ (e ≤ c) := zh1
      exfalso; omega
  | succ n zih =>
    intro c zn zv0
    refine AW.go pk_X1_copyTo 14 10 rfl rfl ?_
    refine And.intro (show Inr c ∧ Inr e from ⟨⟨by omega, by omega⟩, ⟨by omega, by omega⟩⟩) (And.intro (fun zh1 => ?_) (fun zh1 => ?_))
    · replace zh1 : e ≤ c := zh1
      exfalso; omega
    · replace zh1 : ¬ (e ≤ c) := zh1
      refine And.intro (show (0 ≤ i ∧ i < 20) from (by omega)) ?_
      change AW ev false 2 t_X1_copyTo Q 39 [some (vR 3), some (vR 1), some (vI f), some (vI c), some (vI i), some (vI e)] [vI (M 5 i), vI c, vR 1] (stH M (segF h c0 c (M 5 i)))
      refine AW.callV (d' := 1) [vI c, vI (M 5 i)] [] vm_X5_change rfl hX1_63 (okP_d pk_X1_copyTo 23 39 (.invokevirtual 63) 3 rfl) (by decide) rfl (Nat.le_of_ble_eq_true rfl) ?_
      refine c_X5_change c (M 5 i) (by omega) ?_
      change AW ev false 2 t_X1_copyTo Q 42 [some (vR 3), some (vR 1), some (vI f), some (vI c), some (vI i), some (vI e)] [] (upM (stH M (segF h c0 c (M 5 i))) 2 c (M 5 i))
      refine AW.go pk_X1_copyTo 24 2 rfl rfl ?_
      refine And.intro (show 3 < mL t_X1_copyTo from (by decide)) ?_
      change AW ev false 2 t_X1_copyTo Q 24 [some (vR 3), some (vR 1), some (vI f), some (vI (c + 1)), some (vI i), some (vI e)] [] (upM (stH M (segF h c0 c (M 5 i))) 2 c (M 5 i))
      exact AW.mem (show (upM (stH M (segF h c0 c (M 5 i))) 2 c (M 5 i)) = (stH M (segF h c0 (c + 1) (M 5 i))) from by exact seg_step h c0 c (M 5 i) M (by omega)) (zih (c + 1) (by omega) (by omega))
theorem lz_copy {ev : Ev} {Q : Out → Mem → Prop} {M : Mem}  (f : Int) (zp0 : 0 ≤ M 3 4 ∧ M 3 4 ≤ 20) (zp1 : ∀ i, 0 ≤ i → i < M 3 4 → (0 ≤ M 5 i ∧ M 5 i ≤ 500) ∧ (0 ≤ M 6 i ∧ M 6 i ≤ 144)) (zp2 : 0 ≤ f ∧ f + clS (M 6) (M 3 4).toNat 0 ≤ 144)  : ∀ (n : Nat) (i : Int) (c : Int) (h : Int → Int), i + n = M 3 4 → (0 ≤ i) → (0 ≤ c ∧ c + clS (M 6) n i ≤ 144) → (Q (.inl none) (stH M (cpT (M 5) (M 6) n i c h))) → AW ev false 2 t_X1_copyTo Q 5 [some (vR 3), some (vR 1), some (vI f), some (vI c), some (vI i), none] [] (stH M h) := by
  intro n
  induction n with
  | zero =>
    intro i c h zn zv0 zv1 zv2
    refine AW.go pk_X1_copyTo 4 8 rfl rfl ?_
    refine And.intro (show Inr i ∧ Inr (M 3 4) from ⟨⟨by omega, by omega⟩, ⟨by omega, by omega⟩⟩) (And.intro (fun zh1 => ?_) (fun zh1 => ?_))
    · replace zh1 : M 3 4 ≤ i := zh1
      change AW ev false 2 t_X1_copyTo Q 54 [some (vR 3), some (vR 1), some (vI f), some (vI c), some (vI i), none] [] (stH M h)
      refine AW.go pk_X1_copyTo 28 1 rfl rfl ?_
      refine And.intro rfl ?_
      exact zv2
    · replace zh1 : ¬ (M 3 4 ≤ i) := zh1
      exfalso; omega
  | succ n zih =>
    intro i c h zn zv0 zv1 zv2
    refine AW.go pk_X1_copyTo 4 8 rfl rfl ?_
    refine And.intro (show Inr i ∧ Inr (M 3 4) from ⟨⟨by omega, by omega⟩, ⟨by omega, by omega⟩⟩) (And.intro (fun zh1 => ?_) (fun zh1 => ?_))
    · replace zh1 : M 3 4 ≤ i := zh1
      exfalso; omega
    · replace zh1 : ¬ (M 3 4 ≤ i) := zh1
      change AW ev false 2 t_X1_copyTo Q 18 [some (vR 3), some (vR 1), some (vI f), some (vI c), some (vI i), none] [vI i, vR 3, vI c] (stH M h)
      refine AW.callV (d' := 1) [vI i] [vI c] vm_X1_cellsOf rfl hX1_60 (okP_d pk_X1_copyTo 11 18 (.invokevirtual 60) 3 rfl) (by decide) rfl (Nat.le_of_ble_eq_true rfl) ?_
      refine c_X1_cellsOf i (by omega) ((zp1 _ (by omega) (by omega)).2) (fun w1 zw1 => ?_)
      replace zw1 : w1 = imax 1 ((M 6 i)) := zw1
      replace zw1 : w1 = imax 1 (M 6 i) := zw1
      change AW ev false 2 t_X1_copyTo Q 21 [some (vR 3), some (vR 1), some (vI f), some (vI c), some (vI i), none] [vI w1, vI c] (stH M h)
      refine AW.go pk_X1_copyTo 12 2 rfl rfl ?_
      refine And.intro (show 5 < mL t_X1_copyTo from (by decide)) ?_
      change AW ev false 2 t_X1_copyTo Q 24 [some (vR 3), some (vR 1), some (vI f), some (vI c), some (vI i), some (vI (c + w1))] [] (stH M h)
      have zge : 1 ≤ w1 := by rw [zw1]; unfold imax; split <;> omega
      have zun : clS (M 6) (n + 1) i = w1 + clS (M 6) n (i + 1) := by (conv => lhs; unfold clS); rw [zw1]
      have znn := clS_nn (M 6) n (i + 1)
      refine AW.mem (seg_0 h c (M 5 i) M) (lz_copyIn f zp0 zp1 zp2 i c (c + w1) h (by omega) (by omega) ?_ w1.toNat c (by omega) (by omega))
      refine AW.go pk_X1_copyTo 26 2 rfl rfl ?_
      refine And.intro (show 4 < mL t_X1_copyTo from (by decide)) ?_
      change AW ev false 2 t_X1_copyTo Q 5 [some (vR 3), some (vR 1), some (vI f), some (vI (c + w1)), some (vI (i + 1)), some (vI (c + w1))] [] (stH M (segF h c (c + w1) (M 5 i)))
      refine AW.sub [some (vR 3), some (vR 1), some (vI f), some (vI (c + w1)), some (vI (i + 1)), none] (by simp [lsub]) ?_
      exact zih (i + 1) (c + w1) (segF h c (c + w1) (M 5 i)) (by omega) (by omega) (by omega) (by rw [show cpT (M 5) (M 6) (n + 1) i c h = cpT (M 5) (M 6) n (i + 1) (c + w1) (segF h c (c + w1) (M 5 i)) from by (conv => lhs; unfold cpT); rw [← zw1]] at zv2; exact zv2)
theorem c_X1_copyTo {ev : Ev} {Q : Out → Mem → Prop} {M : Mem}  (f : Int) (zp0 : 0 ≤ M 3 4 ∧ M 3 4 ≤ 20) (zp1 : ∀ i, 0 ≤ i → i < M 3 4 → (0 ≤ M 5 i ∧ M 5 i ≤ 500) ∧ (0 ≤ M 6 i ∧ M 6 i ≤ 144)) (zp2 : 0 ≤ f ∧ f + clS (M 6) (M 3 4).toNat 0 ≤ 144) (zQ : Q (.inl none) (stH M (cpT (M 5) (M 6) (M 3 4).toNat 0 f (M 2)))) : AM ev false 2 t_X1_copyTo [vR 3, vR 1, vI f] M Q := by
  refine AM.of mt_X1_copyTo (Nat.le_of_ble_eq_true rfl) ?_
  change AW ev false 2 t_X1_copyTo Q 0 [some (vR 3), some (vR 1), some (vI f), none, none, none] [] M
  refine AW.go pk_X1_copyTo 0 4 rfl rfl ?_
  refine And.intro (show 3 < mL t_X1_copyTo from (by decide)) ?_
  refine And.intro (show 4 < mL t_X1_copyTo from (by decide)) ?_
  change AW ev false 2 t_X1_copyTo Q 5 [some (vR 3), some (vR 1), some (vI f), some (vI f), some (vI 0), none] [] M
  exact AW.mem (stH_0 M) (lz_copy f zp0 zp1 zp2 (M 3 4).toNat 0 f (M 2) (by omega) (by omega) (by omega) zQ)
