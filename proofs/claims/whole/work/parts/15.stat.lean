theorem c_X4_size {ev : Ev} {Q : Out → Mem → Prop} {M : Mem}    (zQ : ∀ (r : Int), r = M 7 3 → Q (.inl (some (vI r))) M) : AM ev false 0 t_X4_size [vR 7] M Q := by
  refine AM.of mt_X4_size (Nat.le_of_ble_eq_true rfl) ?_
  change AW ev false 0 t_X4_size Q 0 [some (vR 7)] [] M
  refine AW.go pk_X4_size 0 3 rfl rfl ?_
  refine And.intro rfl ?_
  exact zQ (M 7 3) (by first | rfl | omega)
theorem c_X4_has {ev : Ev} {Q : Out → Mem → Prop} {M : Mem}  (s : Int) (zp0 : SInv M) (zp1 : -2147483648 ≤ s ∧ s < 2147483648) (zQ : ∀ (r : Int), (r = 0 ∨ r = 1) ∧ (r = 1 ↔ 0 ≤ s ∧ s < M 7 3) → Q (.inl (some (vI r))) M) : AM ev false 0 t_X4_has [vR 7, vI s] M Q := by
  have zs := zp0.1
  refine AM.of mt_X4_has (Nat.le_of_ble_eq_true rfl) ?_
  change AW ev false 0 t_X4_has Q 0 [some (vR 7), some (vI s)] [] M
  refine AW.go pk_X4_has 0 8 rfl rfl ?_
  refine And.intro (show Inr s from ⟨by omega, by omega⟩) (And.intro (fun zh1 => ?_) (fun zh1 => ?_))
  · replace zh1 : s < (0 : Int) := zh1
    change AW ev false 0 t_X4_has Q 16 [some (vR 7), some (vI s)] [] M
    refine AW.go pk_X4_has 8 2 rfl rfl ?_
    refine And.intro rfl ?_
    refine And.intro (show ((0 : Int) = 0 ∨ (0 : Int) = 1) from (by omega)) ?_
    exact zQ 0 (by first | rfl | omega)
  · replace zh1 : ¬ (s < (0 : Int)) := zh1
    refine And.intro (show Inr s ∧ Inr (M 7 3) from ⟨⟨by omega, by omega⟩, ⟨by omega, by omega⟩⟩) (And.intro (fun zh2 => ?_) (fun zh2 => ?_))
    · replace zh2 : M 7 3 ≤ s := zh2
      change AW ev false 0 t_X4_has Q 16 [some (vR 7), some (vI s)] [] M
      refine AW.go pk_X4_has 8 2 rfl rfl ?_
      refine And.intro rfl ?_
      refine And.intro (show ((0 : Int) = 0 ∨ (0 : Int) = 1) from (by omega)) ?_
      exact zQ 0 (by first | rfl | omega)
    · replace zh2 : ¬ (M 7 3 ≤ s) := zh2
      change AW ev false 0 t_X4_has Q 17 [some (vR 7), some (vI s)] [vI 1] M
      refine AW.go pk_X4_has 9 1 rfl rfl ?_
      refine And.intro rfl ?_
      refine And.intro (show ((1 : Int) = 0 ∨ (1 : Int) = 1) from (by omega)) ?_
      exact zQ 1 (by first | rfl | omega)
theorem l_isTaken {ev : Ev} {Q : Out → Mem → Prop} {M : Mem}  (c : Int) (zp0 : SInv M) (zp1 : -2147483648 ≤ c ∧ c < 2147483648) (zQ : ∀ (r : Int), (r = 0 ∨ r = 1) ∧ (r = 1 ↔ ∃ i, 0 ≤ i ∧ i < M 7 3 ∧ M 8 i = c) → Q (.inl (some (vI r))) M) : ∀ (n : Nat) (i : Int), i + n = M 7 3 → (0 ≤ i) → (∀ j, 0 ≤ j → j < i → M 8 j ≠ c) → AW ev false 0 t_X4_isTaken Q 2 [some (vR 7), some (vI c), some (vI i)] [] M := by
  intro n
  induction n with
  | zero =>
    intro i zn zv0 zv1
    have zs := zp0.1
    refine AW.go pk_X4_isTaken 2 12 rfl rfl ?_
    refine And.intro (show Inr i ∧ Inr (M 7 3) from ⟨⟨by omega, by omega⟩, ⟨by omega, by omega⟩⟩) (And.intro (fun zh1 => ?_) (fun zh1 => ?_))
    · replace zh1 : M 7 3 ≤ i := zh1
      change AW ev false 0 t_X4_isTaken Q 28 [some (vR 7), some (vI c), some (vI i)] [] M
      refine AW.go pk_X4_isTaken 16 2 rfl rfl ?_
      refine And.intro rfl ?_
      refine And.intro (show ((0 : Int) = 0 ∨ (0 : Int) = 1) from (by omega)) ?_
      exact zQ 0 ⟨Or.inl rfl, fun q => by omega, fun ⟨j, q1, q2, q3⟩ => absurd q3 (zv1 j q1 (by omega))⟩
    · replace zh1 : ¬ (M 7 3 ≤ i) := zh1
      exfalso; omega
  | succ n zih =>
    intro i zn zv0 zv1
    have zs := zp0.1
    refine AW.go pk_X4_isTaken 2 12 rfl rfl ?_
    refine And.intro (show Inr i ∧ Inr (M 7 3) from ⟨⟨by omega, by omega⟩, ⟨by omega, by omega⟩⟩) (And.intro (fun zh1 => ?_) (fun zh1 => ?_))
    · replace zh1 : M 7 3 ≤ i := zh1
      exfalso; omega
    · replace zh1 : ¬ (M 7 3 ≤ i) := zh1
      refine And.intro (show (0 ≤ i ∧ i < 8) from (by omega)) ?_
      have zf2 := zp0.2.1 i (by omega) (by omega)
      refine And.intro (show Inr (M 8 i) ∧ Inr c from ⟨⟨by omega, by omega⟩, ⟨by omega, by omega⟩⟩) (And.intro (fun zh3 => ?_) (fun zh3 => ?_))
      · replace zh3 : M 8 i ≠ c := zh3
        change AW ev false 0 t_X4_isTaken Q 22 [some (vR 7), some (vI c), some (vI i)] [] M
        refine AW.go pk_X4_isTaken 14 2 rfl rfl ?_
        refine And.intro (show 2 < mL t_X4_isTaken from (by decide)) ?_
        change AW ev false 0 t_X4_isTaken Q 2 [some (vR 7), some (vI c), some (vI (i + 1))] [] M
        exact zih (i + 1) (by omega) (by omega) (fun j q0 q1 => if zj : j = i then (by subst zj; omega) else zv1 j q0 (by omega))
      · replace zh3 : ¬ (M 8 i ≠ c) := zh3
        refine And.intro rfl ?_
        refine And.intro (show ((1 : Int) = 0 ∨ (1 : Int) = 1) from (by omega)) ?_
        exact zQ 1 ⟨Or.inr rfl, fun _ => ⟨i, by omega, by omega, by omega⟩, fun _ => rfl⟩
theorem c_X4_isTaken {ev : Ev} {Q : Out → Mem → Prop} {M : Mem}  (c : Int) (zp0 : SInv M) (zp1 : -2147483648 ≤ c ∧ c < 2147483648) (zQ : ∀ (r : Int), (r = 0 ∨ r = 1) ∧ (r = 1 ↔ ∃ i, 0 ≤ i ∧ i < M 7 3 ∧ M 8 i = c) → Q (.inl (some (vI r))) M) : AM ev false 0 t_X4_isTaken [vR 7, vI c] M Q := by
  have zs := zp0.1
  refine AM.of mt_X4_isTaken (Nat.le_of_ble_eq_true rfl) ?_
  change AW ev false 0 t_X4_isTaken Q 0 [some (vR 7), some (vI c), none] [] M
  refine AW.go pk_X4_isTaken 0 2 rfl rfl ?_
  refine And.intro (show 2 < mL t_X4_isTaken from (by decide)) ?_
  change AW ev false 0 t_X4_isTaken Q 2 [some (vR 7), some (vI c), some (vI 0)] [] M
  exact l_isTaken c zp0 zp1 zQ (M 7 3).toNat 0 (by omega) (by omega) (fun j q0 q1 => by omega)
theorem c_X4_add {ev : Ev} {Q : Out → Mem → Prop} {M : Mem}  (c : Int) (m : Int) (w : Int) (zp0 : 0 ≤ M 7 3 ∧ M 7 3 < 8) (zQ : ∀ (r : Int), r = M 7 3 → Q (.inl (some (vI r))) (upM (upM (upM (upM M 8 (M 7 3) c) 9 (M 7 3) m) 10 (M 7 3) w) 7 3 (M 7 3 + 1))) : AM ev false 0 t_X4_add [vR 7, vI c, vI m, vI w] M Q := by
  refine AM.of mt_X4_add (Nat.le_of_ble_eq_true rfl) ?_
  change AW ev false 0 t_X4_add Q 0 [some (vR 7), some (vI c), some (vI m), some (vI w), none] [] M
  refine AW.go pk_X4_add 0 10 rfl rfl ?_
  refine And.intro (show 4 < mL t_X4_add from (by decide)) ?_
  refine And.intro (show Inr (M 7 3) from ⟨by omega, by omega⟩) (And.intro (fun zh1 => ?_) (fun zh1 => ?_))
  · replace zh1 : M 7 3 < (0 : Int) := zh1
    exfalso; omega
  · replace zh1 : ¬ (M 7 3 < (0 : Int)) := zh1
    refine And.intro (show Inr (M 7 3) ∧ Inr 8 from ⟨⟨by omega, by omega⟩, ⟨by omega, by omega⟩⟩) (And.intro (fun zh2 => ?_) (fun zh2 => ?_))
    · replace zh2 : M 7 3 < (8 : Int) := zh2
      change AW ev false 0 t_X4_add Q 20 [some (vR 7), some (vI c), some (vI m), some (vI w), some (vI (M 7 3))] [] M
      refine AW.go pk_X4_add 10 23 rfl rfl ?_
      refine And.intro (show ((0 ≤ M 7 3 ∧ M 7 3 < 8) ∧ ((0 : Nat) = 0 ∨ c = 0 ∨ c = 1)) from ⟨by omega, Or.inl rfl⟩) ?_
      refine And.intro (show ((0 ≤ M 7 3 ∧ M 7 3 < 8) ∧ ((0 : Nat) = 0 ∨ m = 0 ∨ m = 1)) from ⟨by omega, Or.inl rfl⟩) ?_
      refine And.intro (show ((0 ≤ M 7 3 ∧ M 7 3 < 8) ∧ ((0 : Nat) = 0 ∨ w = 0 ∨ w = 1)) from ⟨by omega, Or.inl rfl⟩) ?_
      refine And.intro rfl ?_
      exact Eq.mpr (congrArg (Q _) (show (upM (upM (upM (upM M 8 (M 7 3) c) 9 (M 7 3) m) 10 (M 7 3) w) 7 3 ((M 7 3) + 1)) = (upM (upM (upM (upM M 8 (M 7 3) c) 9 (M 7 3) m) 10 (M 7 3) w) 7 3 (M 7 3 + 1)) from by rfl)) (zQ (M 7 3) (by first | rfl | omega))
    · replace zh2 : ¬ (M 7 3 < (8 : Int)) := zh2
      exfalso; omega
theorem c_X4_clear {ev : Ev} {Q : Out → Mem → Prop} {M : Mem}    (zQ : Q (.inl none) (upM M 7 3 0)) : AM ev false 0 t_X4_clear [vR 7] M Q := by
  refine AM.of mt_X4_clear (Nat.le_of_ble_eq_true rfl) ?_
  change AW ev false 0 t_X4_clear Q 0 [some (vR 7)] [] M
  refine AW.go pk_X4_clear 0 4 rfl rfl ?_
  refine And.intro rfl ?_
  exact zQ
theorem c_X4_cellOf {ev : Ev} {Q : Out → Mem → Prop} {M : Mem}  (s : Int) (zp0 : SInv M) (zp1 : 0 ≤ s ∧ s < M 7 3) (zQ : ∀ (r : Int), r = M 8 s → Q (.inl (some (vI r))) M) : AM ev false 1 t_X4_cellOf [vR 7, vI s] M Q := by
  have zs := zp0.1
  refine AM.of mt_X4_cellOf (Nat.le_of_ble_eq_true rfl) ?_
  change AW ev false 1 t_X4_cellOf Q 0 [some (vR 7), some (vI s)] [] M
  refine AW.go pk_X4_cellOf 0 3 rfl rfl ?_
  change AW ev false 1 t_X4_cellOf Q 2 [some (vR 7), some (vI s)] [vI s, vR 7] M
  refine AW.callV (d' := 0) [vI s] [] vm_X4_has rfl hX4_25 (okP_d pk_X4_cellOf 2 2 (.invokevirtual 25) 3 rfl) (by decide) rfl (Nat.le_of_ble_eq_true rfl) ?_
  refine c_X4_has s (by omega) (by omega) (fun zr1 zzr1 => ?_)
  change AW ev false 1 t_X4_cellOf Q 5 [some (vR 7), some (vI s)] [vI zr1] M
  refine AW.go pk_X4_cellOf 3 6 rfl rfl ?_
  refine And.intro (show Inr zr1 from ⟨by omega, by omega⟩) (And.intro (fun zh2 => ?_) (fun zh2 => ?_))
  · replace zh2 : zr1 = (0 : Int) := zh2
    exfalso; omega
  · replace zh2 : ¬ (zr1 = (0 : Int)) := zh2
    refine And.intro (show (0 ≤ s ∧ s < 8) from (by omega)) ?_
    change AW ev false 1 t_X4_cellOf Q 18 [some (vR 7), some (vI s)] [vI (M 8 s)] M
    refine AW.go pk_X4_cellOf 10 1 rfl rfl ?_
    refine And.intro rfl ?_
    exact zQ (M 8 s) (by first | rfl | omega)
theorem c_X4_mastOf {ev : Ev} {Q : Out → Mem → Prop} {M : Mem}  (s : Int) (zp0 : SInv M) (zp1 : 0 ≤ s ∧ s < M 7 3) (zQ : ∀ (r : Int), r = M 9 s → Q (.inl (some (vI r))) M) : AM ev false 1 t_X4_mastOf [vR 7, vI s] M Q := by
  have zs := zp0.1
  refine AM.of mt_X4_mastOf (Nat.le_of_ble_eq_true rfl) ?_
  change AW ev false 1 t_X4_mastOf Q 0 [some (vR 7), some (vI s)] [] M
  refine AW.go pk_X4_mastOf 0 3 rfl rfl ?_
  change AW ev false 1 t_X4_mastOf Q 2 [some (vR 7), some (vI s)] [vI s, vR 7] M
  refine AW.callV (d' := 0) [vI s] [] vm_X4_has rfl hX4_25 (okP_d pk_X4_mastOf 2 2 (.invokevirtual 25) 3 rfl) (by decide) rfl (Nat.le_of_ble_eq_true rfl) ?_
  refine c_X4_has s (by omega) (by omega) (fun zr1 zzr1 => ?_)
  change AW ev false 1 t_X4_mastOf Q 5 [some (vR 7), some (vI s)] [vI zr1] M
  refine AW.go pk_X4_mastOf 3 6 rfl rfl ?_
  refine And.intro (show Inr zr1 from ⟨by omega, by omega⟩) (And.intro (fun zh2 => ?_) (fun zh2 => ?_))
  · replace zh2 : zr1 = (0 : Int) := zh2
    exfalso; omega
  · replace zh2 : ¬ (zr1 = (0 : Int)) := zh2
    refine And.intro (show (0 ≤ s ∧ s < 8) from (by omega)) ?_
    change AW ev false 1 t_X4_mastOf Q 18 [some (vR 7), some (vI s)] [vI (M 9 s)] M
    refine AW.go pk_X4_mastOf 10 1 rfl rfl ?_
    refine And.intro rfl ?_
    exact zQ (M 9 s) (by first | rfl | omega)
theorem c_X4_mirrorsOf {ev : Ev} {Q : Out → Mem → Prop} {M : Mem}  (s : Int) (zp0 : SInv M) (zp1 : 0 ≤ s ∧ s < M 7 3) (zQ : ∀ (r : Int), r = M 10 s → Q (.inl (some (vI r))) M) : AM ev false 1 t_X4_mirrorsOf [vR 7, vI s] M Q := by
  have zs := zp0.1
  refine AM.of mt_X4_mirrorsOf (Nat.le_of_ble_eq_true rfl) ?_
  change AW ev false 1 t_X4_mirrorsOf Q 0 [some (vR 7), some (vI s)] [] M
  refine AW.go pk_X4_mirrorsOf 0 3 rfl rfl ?_
  change AW ev false 1 t_X4_mirrorsOf Q 2 [some (vR 7), some (vI s)] [vI s, vR 7] M
  refine AW.callV (d' := 0) [vI s] [] vm_X4_has rfl hX4_25 (okP_d pk_X4_mirrorsOf 2 2 (.invokevirtual 25) 3 rfl) (by decide) rfl (Nat.le_of_ble_eq_true rfl) ?_
  refine c_X4_has s (by omega) (by omega) (fun zr1 zzr1 => ?_)
  change AW ev false 1 t_X4_mirrorsOf Q 5 [some (vR 7), some (vI s)] [vI zr1] M
  refine AW.go pk_X4_mirrorsOf 3 6 rfl rfl ?_
  refine And.intro (show Inr zr1 from ⟨by omega, by omega⟩) (And.intro (fun zh2 => ?_) (fun zh2 => ?_))
  · replace zh2 : zr1 = (0 : Int) := zh2
    exfalso; omega
  · replace zh2 : ¬ (zr1 = (0 : Int)) := zh2
    refine And.intro (show (0 ≤ s ∧ s < 8) from (by omega)) ?_
    change AW ev false 1 t_X4_mirrorsOf Q 18 [some (vR 7), some (vI s)] [vI (M 10 s)] M
    refine AW.go pk_X4_mirrorsOf 10 1 rfl rfl ?_
    refine And.intro rfl ?_
    exact zQ (M 10 s) (by first | rfl | omega)
theorem c_X4_changeMast {ev : Ev} {Q : Out → Mem → Prop} {M : Mem}  (s : Int) (v : Int) (zp0 : SInv M) (zp1 : 0 ≤ s ∧ s < M 7 3) (zQ : Q (.inl none) (upM M 9 s v)) : AM ev false 1 t_X4_changeMast [vR 7, vI s, vI v] M Q := by
  have zs := zp0.1
  refine AM.of mt_X4_changeMast (Nat.le_of_ble_eq_true rfl) ?_
  change AW ev false 1 t_X4_changeMast Q 0 [some (vR 7), some (vI s), some (vI v)] [] M
  refine AW.go pk_X4_changeMast 0 3 rfl rfl ?_
  change AW ev false 1 t_X4_changeMast Q 2 [some (vR 7), some (vI s), some (vI v)] [vI s, vR 7] M
  refine AW.callV (d' := 0) [vI s] [] vm_X4_has rfl hX4_25 (okP_d pk_X4_changeMast 2 2 (.invokevirtual 25) 3 rfl) (by decide) rfl (Nat.le_of_ble_eq_true rfl) ?_
  refine c_X4_has s (by omega) (by omega) (fun zr1 zzr1 => ?_)
  change AW ev false 1 t_X4_changeMast Q 5 [some (vR 7), some (vI s), some (vI v)] [vI zr1] M
  refine AW.go pk_X4_changeMast 3 7 rfl rfl ?_
  refine And.intro (show Inr zr1 from ⟨by omega, by omega⟩) (And.intro (fun zh2 => ?_) (fun zh2 => ?_))
  · replace zh2 : zr1 = (0 : Int) := zh2
    exfalso; omega
  · replace zh2 : ¬ (zr1 = (0 : Int)) := zh2
    refine And.intro (show ((0 ≤ s ∧ s < 8) ∧ ((0 : Nat) = 0 ∨ v = 0 ∨ v = 1)) from ⟨by omega, Or.inl rfl⟩) ?_
    refine And.intro rfl ?_
    exact zQ
theorem c_X4_changeMirrors {ev : Ev} {Q : Out → Mem → Prop} {M : Mem}  (s : Int) (v : Int) (zp0 : SInv M) (zp1 : 0 ≤ s ∧ s < M 7 3) (zQ : Q (.inl none) (upM M 10 s v)) : AM ev false 1 t_X4_changeMirrors [vR 7, vI s, vI v] M Q := by
  have zs := zp0.1
  refine AM.of mt_X4_changeMirrors (Nat.le_of_ble_eq_true rfl) ?_
  change AW ev false 1 t_X4_changeMirrors Q 0 [some (vR 7), some (vI s), some (vI v)] [] M
  refine AW.go pk_X4_changeMirrors 0 3 rfl rfl ?_
  change AW ev false 1 t_X4_changeMirrors Q 2 [some (vR 7), some (vI s), some (vI v)] [vI s, vR 7] M
  refine AW.callV (d' := 0) [vI s] [] vm_X4_has rfl hX4_25 (okP_d pk_X4_changeMirrors 2 2 (.invokevirtual 25) 3 rfl) (by decide) rfl (Nat.le_of_ble_eq_true rfl) ?_
  refine c_X4_has s (by omega) (by omega) (fun zr1 zzr1 => ?_)
  change AW ev false 1 t_X4_changeMirrors Q 5 [some (vR 7), some (vI s), some (vI v)] [vI zr1] M
  refine AW.go pk_X4_changeMirrors 3 7 rfl rfl ?_
  refine And.intro (show Inr zr1 from ⟨by omega, by omega⟩) (And.intro (fun zh2 => ?_) (fun zh2 => ?_))
  · replace zh2 : zr1 = (0 : Int) := zh2
    exfalso; omega
  · replace zh2 : ¬ (zr1 = (0 : Int)) := zh2
    refine And.intro (show ((0 ≤ s ∧ s < 8) ∧ ((0 : Nat) = 0 ∨ v = 0 ∨ v = 1)) from ⟨by omega, Or.inl rfl⟩) ?_
    refine And.intro rfl ?_
    exact zQ
theorem l_withTwo {ev : Ev} {Q : Out → Mem → Prop} {M : Mem}   (zp0 : SInv M)  : ∀ (n : Nat) (i : Int) (s : Int), i + n = M 7 3 → (0 ≤ i) → (∀ r : Int, r = c2T (M 10) n i s → Q (.inl (some (vI r))) M) → AW ev false 0 t_X4_withTwoMirrors Q 4 [some (vR 7), some (vI s), some (vI i)] [] M := by
  intro n
  induction n with
  | zero =>
    intro i s zn zv0 zv1
    have zs := zp0.1
    refine AW.go pk_X4_withTwoMirrors 4 13 rfl rfl ?_
    refine And.intro (show Inr i ∧ Inr (M 7 3) from ⟨⟨by omega, by omega⟩, ⟨by omega, by omega⟩⟩) (And.intro (fun zh1 => ?_) (fun zh1 => ?_))
    · replace zh1 : M 7 3 ≤ i := zh1
      change AW ev false 0 t_X4_withTwoMirrors Q 31 [some (vR 7), some (vI s), some (vI i)] [] M
      refine AW.go pk_X4_withTwoMirrors 17 2 rfl rfl ?_
      refine And.intro rfl ?_
      exact zv1 _ rfl
    · replace zh1 : ¬ (M 7 3 ≤ i) := zh1
      exfalso; omega
  | succ n zih =>
    intro i s zn zv0 zv1
    have zs := zp0.1
    refine AW.go pk_X4_withTwoMirrors 4 13 rfl rfl ?_
    refine And.intro (show Inr i ∧ Inr (M 7 3) from ⟨⟨by omega, by omega⟩, ⟨by omega, by omega⟩⟩) (And.intro (fun zh1 => ?_) (fun zh1 => ?_))
    · replace zh1 : M 7 3 ≤ i := zh1
      exfalso; omega
    · replace zh1 : ¬ (M 7 3 ≤ i) := zh1
      refine And.intro (show (0 ≤ i ∧ i < 8) from (by omega)) ?_
      have zf2 := zp0.2.1 i (by omega) (by omega)
      refine And.intro (show Inr (M 10 i) ∧ Inr 2 from ⟨⟨by omega, by omega⟩, ⟨by omega, by omega⟩⟩) (And.intro (fun zh3 => ?_) (fun zh3 => ?_))
      · replace zh3 : M 10 i ≠ (2 : Int) := zh3
        change AW ev false 0 t_X4_withTwoMirrors Q 25 [some (vR 7), some (vI s), some (vI i)] [] M
        refine AW.go pk_X4_withTwoMirrors 15 2 rfl rfl ?_
        refine And.intro (show 2 < mL t_X4_withTwoMirrors from (by decide)) ?_
        change AW ev false 0 t_X4_withTwoMirrors Q 4 [some (vR 7), some (vI s), some (vI (i + 1))] [] M
        exact zih (i + 1) s (by omega) (by omega) (fun r zr => zv1 r (by rw [zr]; conv => rhs; unfold c2T; first | rw [if_pos (by omega)] | rw [if_neg (by omega)]))
      · replace zh3 : ¬ (M 10 i ≠ (2 : Int)) := zh3
        refine And.intro (show 1 < mL t_X4_withTwoMirrors from (by decide)) ?_
        refine And.intro (show 2 < mL t_X4_withTwoMirrors from (by decide)) ?_
        change AW ev false 0 t_X4_withTwoMirrors Q 4 [some (vR 7), some (vI (s + 1)), some (vI (i + 1))] [] M
        exact zih (i + 1) (s + 1) (by omega) (by omega) (fun r zr => zv1 r (by rw [zr]; conv => rhs; unfold c2T; first | rw [if_pos (by omega)] | rw [if_neg (by omega)]))
theorem c_X4_withTwoMirrors {ev : Ev} {Q : Out → Mem → Prop} {M : Mem}   (zp0 : SInv M) (zQ : ∀ (r : Int), r = c2T (M 10) (M 7 3).toNat 0 0 → Q (.inl (some (vI r))) M) : AM ev false 0 t_X4_withTwoMirrors [vR 7] M Q := by
  have zs := zp0.1
  refine AM.of mt_X4_withTwoMirrors (Nat.le_of_ble_eq_true rfl) ?_
  change AW ev false 0 t_X4_withTwoMirrors Q 0 [some (vR 7), none, none] [] M
  refine AW.go pk_X4_withTwoMirrors 0 4 rfl rfl ?_
  refine And.intro (show 1 < mL t_X4_withTwoMirrors from (by decide)) ?_
  refine And.intro (show 2 < mL t_X4_withTwoMirrors from (by decide)) ?_
  change AW ev false 0 t_X4_withTwoMirrors Q 4 [some (vR 7), some (vI 0), some (vI 0)] [] M
  exact l_withTwo zp0 (M 7 3).toNat 0 0 (by omega) (by omega) zQ
theorem c_X0_size {ev : Ev} {Q : Out → Mem → Prop} {M : Mem}    (zQ : ∀ (r : Int), r = M 11 6 → Q (.inl (some (vI r))) M) : AM ev false 0 t_X0_size [vR 11] M Q := by
  refine AM.of mt_X0_size (Nat.le_of_ble_eq_true rfl) ?_
  change AW ev false 0 t_X0_size Q 0 [some (vR 11)] [] M
  refine AW.go pk_X0_size 0 3 rfl rfl ?_
  refine And.intro rfl ?_
  exact zQ (M 11 6) (by first | rfl | omega)
theorem c_X0_clear {ev : Ev} {Q : Out → Mem → Prop} {M : Mem}    (zQ : Q (.inl none) (upM M 11 6 0)) : AM ev false 0 t_X0_clear [vR 11] M Q := by
  refine AM.of mt_X0_clear (Nat.le_of_ble_eq_true rfl) ?_
  change AW ev false 0 t_X0_clear Q 0 [some (vR 11)] [] M
  refine AW.go pk_X0_clear 0 4 rfl rfl ?_
  refine And.intro rfl ?_
  exact zQ
theorem c_X0_add {ev : Ev} {Q : Out → Mem → Prop} {M : Mem}  (a : Int) (b : Int) (f : Int) (t : Int) (zp0 : 0 ≤ M 11 6 ∧ M 11 6 < 6) (zp1 : 0 ≤ a ∧ a < 144) (zp2 : 0 ≤ b ∧ b < 144) (zQ : ∀ (r : Int), r = M 11 6 → Q (.inl (some (vI r))) (upM (upM (upM (upM (upM (upM (upM M 12 (M 11 6) (imin (a % 12) (b % 12))) 13 (M 11 6) (imax (a % 12) (b % 12))) 14 (M 11 6) (imin (a / 12) (b / 12))) 15 (M 11 6) (imax (a / 12) (b / 12))) 16 (M 11 6) f) 17 (M 11 6) t) 11 6 (M 11 6 + 1))) : AM ev false 1 t_X0_add [vR 11, vI a, vI b, vI f, vI t] M Q := by
  refine AM.of mt_X0_add (Nat.le_of_ble_eq_true rfl) ?_
  change AW ev false 1 t_X0_add Q 0 [some (vR 11), some (vI a), some (vI b), some (vI f), some (vI t), none] [] M
  refine AW.go pk_X0_add 0 10 rfl rfl ?_
  refine And.intro (show 5 < mL t_X0_add from (by decide)) ?_
  refine And.intro (show Inr (M 11 6) from ⟨by omega, by omega⟩) (And.intro (fun zh1 => ?_) (fun zh1 => ?_))
  · replace zh1 : M 11 6 < (0 : Int) := zh1
    exfalso; omega
  · replace zh1 : ¬ (M 11 6 < (0 : Int)) := zh1
    refine And.intro (show Inr (M 11 6) ∧ Inr 6 from ⟨⟨by omega, by omega⟩, ⟨by omega, by omega⟩⟩) (And.intro (fun zh2 => ?_) (fun zh2 => ?_))
    · replace zh2 : M 11 6 < (6 : Int) := zh2
      change AW ev false 1 t_X0_add Q 20 [some (vR 11), some (vI a), some (vI b), some (vI f), some (vI t), some (vI (M 11 6))] [] M
      refine AW.go pk_X0_add 10 5 rfl rfl ?_
      change AW ev false 1 t_X0_add Q 27 [some (vR 11), some (vI a), some (vI b), some (vI f), some (vI t), some (vI (M 11 6))] [vI a, vI (M 11 6), vR 12] M
      refine AW.callS (d' := 0) [vI a] [vI (M 11 6), vR 12] sm_X5_columnOf hX0_34 (okP_d pk_X0_add 14 27 (.invokestatic 34) 3 rfl) (by decide) rfl (Nat.le_of_ble_eq_true rfl) ?_
      refine c_X5_columnOf a (by omega) (fun zr3 zzr3 => ?_)
      change AW ev false 1 t_X0_add Q 30 [some (vR 11), some (vI a), some (vI b), some (vI f), some (vI t), some (vI (M 11 6))] [vI zr3, vI (M 11 6), vR 12] M
      refine AW.go pk_X0_add 15 2 rfl rfl ?_
      change AW ev false 1 t_X0_add Q 31 [some (vR 11), some (vI a), some (vI b), some (vI f), some (vI t), some (vI (M 11 6))] [vI b, vI zr3, vI (M 11 6), vR 12] M
      refine AW.callS (d' := 0) [vI b] [vI zr3, vI (M 11 6), vR 12] sm_X5_columnOf hX0_34 (okP_d pk_X0_add 16 31 (.invokestatic 34) 3 rfl) (by decide) rfl (Nat.le_of_ble_eq_true rfl) ?_
      refine c_X5_columnOf b (by omega) (fun zr4 zzr4 => ?_)
      change AW ev false 1 t_X0_add Q 34 [some (vR 11), some (vI a), some (vI b), some (vI f), some (vI t), some (vI (M 11 6))] [vI zr4, vI zr3, vI (M 11 6), vR 12] M
      refine AW.mmin (bm 853 _ (by decide +kernel) (by decide +kernel)) (okP_d pk_X0_add 17 34 (.invokestatic 40) 3 rfl) (by decide) (Nat.le_of_ble_eq_true rfl) ⟨by omega, by omega⟩ ⟨by omega, by omega⟩ (fun w1 zw1 => ?_)
      change AW ev false 1 t_X0_add Q 37 [some (vR 11), some (vI a), some (vI b), some (vI f), some (vI t), some (vI (M 11 6))] [vI w1, vI (M 11 6), vR 12] M
      refine AW.go pk_X0_add 18 6 rfl rfl ?_
      refine And.intro (show ((0 ≤ M 11 6 ∧ M 11 6 < 6) ∧ ((0 : Nat) = 0 ∨ w1 = 0 ∨ w1 = 1)) from ⟨by omega, Or.inl rfl⟩) ?_
      change AW ev false 1 t_X0_add Q 45 [some (vR 11), some (vI a), some (vI b), some (vI f), some (vI t), some (vI (M 11 6))] [vI a, vI (M 11 6), vR 13] (upM M 12 (M 11 6) w1)
      refine AW.callS (d' := 0) [vI a] [vI (M 11 6), vR 13] sm_X5_columnOf hX0_34 (okP_d pk_X0_add 23 45 (.invokestatic 34) 3 rfl) (by decide) rfl (Nat.le_of_ble_eq_true rfl) ?_
      refine c_X5_columnOf a (by omega) (fun zr5 zzr5 => ?_)
      change AW ev false 1 t_X0_add Q 48 [some (vR 11), some (vI a), some (vI b), some (vI f), some (vI t), some (vI (M 11 6))] [vI zr5, vI (M 11 6), vR 13] (upM M 12 (M 11 6) w1)
      refine AW.go pk_X0_add 24 2 rfl rfl ?_
      change AW ev false 1 t_X0_add Q 49 [some (vR 11), some (vI a), some (vI b), some (vI f), some (vI t), some (vI (M 11 6))] [vI b, vI zr5, vI (M 11 6), vR 13] (upM M 12 (M 11 6) w1)
      refine AW.callS (d' := 0) [vI b] [vI zr5, vI (M 11 6), vR 13] sm_X5_columnOf hX0_34 (okP_d pk_X0_add 25 49 (.invokestatic 34) 3 rfl) (by decide) rfl (Nat.le_of_ble_eq_true rfl) ?_
      refine c_X5_columnOf b (by omega) (fun zr6 zzr6 => ?_)
      change AW ev false 1 t_X0_add Q 52 [some (vR 11), some (vI a), some (vI b), some (vI f), some (vI t), some (vI (M 11 6))] [vI zr6, vI zr5, vI (M 11 6), vR 13] (upM M 12 (M 11 6) w1)
      refine AW.mmax (bm 854 _ (by decide +kernel) (by decide +kernel)) (okP_d pk_X0_add 26 52 (.invokestatic 46) 3 rfl) (by decide) (Nat.le_of_ble_eq_true rfl) ⟨by omega, by omega⟩ ⟨by omega, by omega⟩ (fun w2 zw2 => ?_)
      change AW ev false 1 t_X0_add Q 55 [some (vR 11), some (vI a), some (vI b), some (vI f), some (vI t), some (vI (M 11 6))] [vI w2, vI (M 11 6), vR 13] (upM M 12 (M 11 6) w1)
      refine AW.go pk_X0_add 27 6 rfl rfl ?_
      refine And.intro (show ((0 ≤ M 11 6 ∧ M 11 6 < 6) ∧ ((0 : Nat) = 0 ∨ w2 = 0 ∨ w2 = 1)) from ⟨by omega, Or.inl rfl⟩) ?_
      change AW ev false 1 t_X0_add Q 63 [some (vR 11), some (vI a), some (vI b), some (vI f), some (vI t), some (vI (M 11 6))] [vI a, vI (M 11 6), vR 14] (upM (upM M 12 (M 11 6) w1) 13 (M 11 6) w2)
      refine AW.callS (d' := 0) [vI a] [vI (M 11 6), vR 14] sm_X5_rowOf hX0_49 (okP_d pk_X0_add 32 63 (.invokestatic 49) 3 rfl) (by decide) rfl (Nat.le_of_ble_eq_true rfl) ?_
      refine c_X5_rowOf a (by omega) (fun zr7 zzr7 => ?_)
      change AW ev false 1 t_X0_add Q 66 [some (vR 11), some (vI a), some (vI b), some (vI f), some (vI t), some (vI (M 11 6))] [vI zr7, vI (M 11 6), vR 14] (upM (upM M 12 (M 11 6) w1) 13 (M 11 6) w2)
      refine AW.go pk_X0_add 33 2 rfl rfl ?_
      change AW ev false 1 t_X0_add Q 67 [some (vR 11), some (vI a), some (vI b), some (vI f), some (vI t), some (vI (M 11 6))] [vI b, vI zr7, vI (M 11 6), vR 14] (upM (upM M 12 (M 11 6) w1) 13 (M 11 6) w2)
      refine AW.callS (d' := 0) [vI b] [vI zr7, vI (M 11 6), vR 14] sm_X5_rowOf hX0_49 (okP_d pk_X0_add 34 67 (.invokestatic 49) 3 rfl) (by decide) rfl (Nat.le_of_ble_eq_true rfl) ?_
      refine c_X5_rowOf b (by omega) (fun zr8 zzr8 => ?_)
      change AW ev false 1 t_X0_add Q 70 [some (vR 11), some (vI a), some (vI b), some (vI f), some (vI t), some (vI (M 11 6))] [vI zr8, vI zr7, vI (M 11 6), vR 14] (upM (upM M 12 (M 11 6) w1) 13 (M 11 6) w2)
      refine AW.mmin (bm 853 _ (by decide +kernel) (by decide +kernel)) (okP_d pk_X0_add 35 70 (.invokestatic 40) 3 rfl) (by decide) (Nat.le_of_ble_eq_true rfl) ⟨by omega, by omega⟩ ⟨by omega, by omega⟩ (fun w3 zw3 => ?_)
      change AW ev false 1 t_X0_add Q 73 [some (vR 11), some (vI a), some (vI b), some (vI f), some (vI t), some (vI (M 11 6))] [vI w3, vI (M 11 6), vR 14] (upM (upM M 12 (M 11 6) w1) 13 (M 11 6) w2)
      refine AW.go pk_X0_add 36 6 rfl rfl ?_
      refine And.intro (show ((0 ≤ M 11 6 ∧ M 11 6 < 6) ∧ ((0 : Nat) = 0 ∨ w3 = 0 ∨ w3 = 1)) from ⟨by omega, Or.inl rfl⟩) ?_
      change AW ev false 1 t_X0_add Q 81 [some (vR 11), some (vI a), some (vI b), some (vI f), some (vI t), some (vI (M 11 6))] [vI a, vI (M 11 6), vR 15] (upM (upM (upM M 12 (M 11 6) w1) 13 (M 11 6) w2) 14 (M 11 6) w3)
      refine AW.callS (d' := 0) [vI a] [vI (M 11 6), vR 15] sm_X5_rowOf hX0_49 (okP_d pk_X0_add 41 81 (.invokestatic 49) 3 rfl) (by decide) rfl (Nat.le_of_ble_eq_true rfl) ?_
      refine c_X5_rowOf a (by omega) (fun zr9 zzr9 => ?_)
      change AW ev false 1 t_X0_add Q 84 [some (vR 11), some (vI a), some (vI b), some (vI f), some (vI t), some (vI (M 11 6))] [vI zr9, vI (M 11 6), vR 15] (upM (upM (upM M 12 (M 11 6) w1) 13 (M 11 6) w2) 14 (M 11 6) w3)
      refine AW.go pk_X0_add 42 2 rfl rfl ?_
      change AW ev false 1 t_X0_add Q 85 [some (vR 11), some (vI a), some (vI b), some (vI f), some (vI t), some (vI (M 11 6))] [vI b, vI zr9, vI (M 11 6), vR 15] (upM (upM (upM M 12 (M 11 6) w1) 13 (M 11 6) w2) 14 (M 11 6) w3)
      refine AW.callS (d' := 0) [vI b] [vI zr9, vI (M 11 6), vR 15] sm_X5_rowOf hX0_49 (okP_d pk_X0_add 43 85 (.invokestatic 49) 3 rfl) (by decide) rfl (Nat.le_of_ble_eq_true rfl) ?_
      refine c_X5_rowOf b (by omega) (fun zr10 zzr10 => ?_)
      change AW ev false 1 t_X0_add Q 88 [some (vR 11), some (vI a), some (vI b), some (vI f), some (vI t), some (vI (M 11 6))] [vI zr10, vI zr9, vI (M 11 6), vR 15] (upM (upM (upM M 12 (M 11 6) w1) 13 (M 11 6) w2) 14 (M 11 6) w3)
      refine AW.mmax (bm 854 _ (by decide +kernel) (by decide +kernel)) (okP_d pk_X0_add 44 88 (.invokestatic 46) 3 rfl) (by decide) (Nat.le_of_ble_eq_true rfl) ⟨by omega, by omega⟩ ⟨by omega, by omega⟩ (fun w4 zw4 => ?_)
      change AW ev false 1 t_X0_add Q 91 [some (vR 11), some (vI a), some (vI b), some (vI f), some (vI t), some (vI (M 11 6))] [vI w4, vI (M 11 6), vR 15] (upM (upM (upM M 12 (M 11 6) w1) 13 (M 11 6) w2) 14 (M 11 6) w3)
      refine AW.go pk_X0_add 45 19 rfl rfl ?_
      refine And.intro (show ((0 ≤ M 11 6 ∧ M 11 6 < 6) ∧ ((0 : Nat) = 0 ∨ w4 = 0 ∨ w4 = 1)) from ⟨by omega, Or.inl rfl⟩) ?_
      refine And.intro (show ((0 ≤ M 11 6 ∧ M 11 6 < 6) ∧ ((0 : Nat) = 0 ∨ f = 0 ∨ f = 1)) from ⟨by omega, Or.inl rfl⟩) ?_
      refine And.intro (show ((0 ≤ M 11 6 ∧ M 11 6 < 6) ∧ ((0 : Nat) = 0 ∨ t = 0 ∨ t = 1)) from ⟨by omega, Or.inl rfl⟩) ?_
      refine And.intro rfl ?_
      exact Eq.mpr (congrArg (Q _) (show (upM (upM (upM (upM (upM (upM (upM M 12 (M 11 6) w1) 13 (M 11 6) w2) 14 (M 11 6) w3) 15 (M 11 6) w4) 16 (M 11 6) f) 17 (M 11 6) t) 11 6 ((M 11 6) + 1)) = (upM (upM (upM (upM (upM (upM (upM M 12 (M 11 6) (imin (a % 12) (b % 12))) 13 (M 11 6) (imax (a % 12) (b % 12))) 14 (M 11 6) (imin (a / 12) (b / 12))) 15 (M 11 6) (imax (a / 12) (b / 12))) 16 (M 11 6) f) 17 (M 11 6) t) 11 6 (M 11 6 + 1)) from by rw [show w1 = imin (a % 12) (b % 12) from by unfold imin; split <;> omega, show w2 = imax (a % 12) (b % 12) from by unfold imax; split <;> omega, show w3 = imin (a / 12) (b / 12) from by unfold imin; split <;> omega, show w4 = imax (a / 12) (b / 12) from by unfold imax; split <;> omega])) (zQ (M 11 6) (by first | rfl | omega))
    · replace zh2 : ¬ (M 11 6 < (6 : Int)) := zh2
      exfalso; omega
theorem l_cover {ev : Ev} {Q : Out → Mem → Prop} {M : Mem}  (c : Int) (hr : Int) (zp0 : KInv M) (zp1 : 0 ≤ c ∧ c < 144) (zp2 : 0 ≤ hr ∧ hr ≤ 100) (zQ : ∀ (r : Int), (r = 0 ∨ r = 1) ∧ (r = 1 ↔ ∃ j, 0 ≤ j ∧ j < M 11 6 ∧ cov M j (c % 12) (c / 12) hr) → Q (.inl (some (vI r))) M) : ∀ (n : Nat) (j : Int), j + n = M 11 6 → (0 ≤ j) → (∀ i, 0 ≤ i → i < j → ¬ cov M i (c % 12) (c / 12) hr) → AW ev false 1 t_X0_cover Q 14 [some (vR 11), some (vI c), some (vI hr), some (vI (c % 12)), some (vI (c / 12)), some (vI j), none] [] M := by
  intro n
  induction n with
  | zero =>
    intro j zn zv0 zv1
    have zs := zp0.1
    refine AW.go pk_X0_cover 8 30 rfl rfl ?_
    refine And.intro (show Inr j ∧ Inr (M 11 6) from ⟨⟨by omega, by omega⟩, ⟨by omega, by omega⟩⟩) (And.intro (fun zh1 => ?_) (fun zh1 => ?_))
    · replace zh1 : M 11 6 ≤ j := zh1
      change AW ev false 1 t_X0_cover Q 111 [some (vR 11), some (vI c), some (vI hr), some (vI (c % 12)), some (vI (c / 12)), some (vI j), none] [] M
      refine AW.go pk_X0_cover 58 2 rfl rfl ?_
      refine And.intro rfl ?_
      refine And.intro (show ((0 : Int) = 0 ∨ (0 : Int) = 1) from (by omega)) ?_
      exact zQ 0 ⟨Or.inl rfl, fun q => by omega, fun ⟨i, q1, q2, q3⟩ => absurd q3 (zv1 i q1 (by omega))⟩
    · replace zh1 : ¬ (M 11 6 ≤ j) := zh1
      exfalso; omega
  | succ n zih =>
    intro j zn zv0 zv1
    have zs := zp0.1
    refine AW.go pk_X0_cover 8 30 rfl rfl ?_
    refine And.intro (show Inr j ∧ Inr (M 11 6) from ⟨⟨by omega, by omega⟩, ⟨by omega, by omega⟩⟩) (And.intro (fun zh1 => ?_) (fun zh1 => ?_))
    · replace zh1 : M 11 6 ≤ j := zh1
      exfalso; omega
    · replace zh1 : ¬ (M 11 6 ≤ j) := zh1
      refine And.intro (show (0 ≤ j ∧ j < 6) from (by omega)) ?_
      have zf2 := zp0.2 j (by omega) (by omega)
      refine And.intro (show Inr (c % 12) ∧ Inr (M 12 j) from ⟨⟨by omega, by omega⟩, ⟨by omega, by omega⟩⟩) (And.intro (fun zh3 => ?_) (fun zh3 => ?_))
      · replace zh3 : c % 12 < M 12 j := zh3
        change AW ev false 1 t_X0_cover Q 73 [some (vR 11), some (vI c), some (vI hr), some (vI (c % 12)), some (vI (c / 12)), some (vI j), none] [] M
        refine AW.go pk_X0_cover 38 18 rfl rfl ?_
        refine And.intro (show 6 < mL t_X0_cover from (by decide)) ?_
        refine And.intro (show Inr 0 from ⟨by omega, by omega⟩) (And.intro (fun zh4 => ?_) (fun zh4 => ?_))
        · replace zh4 : (0 : Int) = (0 : Int) := zh4
          change AW ev false 1 t_X0_cover Q 105 [some (vR 11), some (vI c), some (vI hr), some (vI (c % 12)), some (vI (c / 12)), some (vI j), some (vI 0)] [] M
          refine AW.go pk_X0_cover 56 2 rfl rfl ?_
          refine And.intro (show 5 < mL t_X0_cover from (by decide)) ?_
          change AW ev false 1 t_X0_cover Q 14 [some (vR 11), some (vI c), some (vI hr), some (vI (c % 12)), some (vI (c / 12)), some (vI (j + 1)), some (vI 0)] [] M
          refine AW.sub [some (vR 11), some (vI c), some (vI hr), some (vI (c % 12)), some (vI (c / 12)), some (vI (j + 1)), none] (by simp [lsub]) ?_
          exact zih (j + 1) (by omega) (by omega) (fun i q0 q1 => if zj : i = j then (by subst zj; intro q2; omega) else zv1 i q0 (by omega))
        · replace zh4 : ¬ ((0 : Int) = (0 : Int)) := zh4
          exfalso; omega
      · replace zh3 : ¬ (c % 12 < M 12 j) := zh3
        refine And.intro (show (0 ≤ j ∧ j < 6) from (by omega)) ?_
        have zf5 := zp0.2 j (by omega) (by omega)
        refine And.intro (show Inr (c % 12) ∧ Inr (M 13 j) from ⟨⟨by omega, by omega⟩, ⟨by omega, by omega⟩⟩) (And.intro (fun zh6 => ?_) (fun zh6 => ?_))
        · replace zh6 : M 13 j < c % 12 := zh6
          change AW ev false 1 t_X0_cover Q 73 [some (vR 11), some (vI c), some (vI hr), some (vI (c % 12)), some (vI (c / 12)), some (vI j), none] [] M
          refine AW.go pk_X0_cover 38 18 rfl rfl ?_
          refine And.intro (show 6 < mL t_X0_cover from (by decide)) ?_
          refine And.intro (show Inr 0 from ⟨by omega, by omega⟩) (And.intro (fun zh7 => ?_) (fun zh7 => ?_))
          · replace zh7 : (0 : Int) = (0 : Int) := zh7
            change AW ev false 1 t_X0_cover Q 105 [some (vR 11), some (vI c), some (vI hr), some (vI (c % 12)), some (vI (c / 12)), some (vI j), some (vI 0)] [] M
            refine AW.go pk_X0_cover 56 2 rfl rfl ?_
            refine And.intro (show 5 < mL t_X0_cover from (by decide)) ?_
            change AW ev false 1 t_X0_cover Q 14 [some (vR 11), some (vI c), some (vI hr), some (vI (c % 12)), some (vI (c / 12)), some (vI (j + 1)), some (vI 0)] [] M
            refine AW.sub [some (vR 11), some (vI c), some (vI hr), some (vI (c % 12)), some (vI (c / 12)), some (vI (j + 1)), none] (by simp [lsub]) ?_
            exact zih (j + 1) (by omega) (by omega) (fun i q0 q1 => if zj : i = j then (by subst zj; intro q2; omega) else zv1 i q0 (by omega))
          · replace zh7 : ¬ ((0 : Int) = (0 : Int)) := zh7
            exfalso; omega
        · replace zh6 : ¬ (M 13 j < c % 12) := zh6
          refine And.intro (show (0 ≤ j ∧ j < 6) from (by omega)) ?_
          have zf8 := zp0.2 j (by omega) (by omega)
          refine And.intro (show Inr (c / 12) ∧ Inr (M 14 j) from ⟨⟨by omega, by omega⟩, ⟨by omega, by omega⟩⟩) (And.intro (fun zh9 => ?_) (fun zh9 => ?_))
          · replace zh9 : c / 12 < M 14 j := zh9
            change AW ev false 1 t_X0_cover Q 73 [some (vR 11), some (vI c), some (vI hr), some (vI (c % 12)), some (vI (c / 12)), some (vI j), none] [] M
            refine AW.go pk_X0_cover 38 18 rfl rfl ?_
            refine And.intro (show 6 < mL t_X0_cover from (by decide)) ?_
            refine And.intro (show Inr 0 from ⟨by omega, by omega⟩) (And.intro (fun zh10 => ?_) (fun zh10 => ?_))
            · replace zh10 : (0 : Int) = (0 : Int) := zh10
              change AW ev false 1 t_X0_cover Q 105 [some (vR 11), some (vI c), some (vI hr), some (vI (c % 12)), some (vI (c / 12)), some (vI j), some (vI 0)] [] M
              refine AW.go pk_X0_cover 56 2 rfl rfl ?_
              refine And.intro (show 5 < mL t_X0_cover from (by decide)) ?_
              change AW ev false 1 t_X0_cover Q 14 [some (vR 11), some (vI c), some (vI hr), some (vI (c % 12)), some (vI (c / 12)), some (vI (j + 1)), some (vI 0)] [] M
              refine AW.sub [some (vR 11), some (vI c), some (vI hr), some (vI (c % 12)), some (vI (c / 12)), some (vI (j + 1)), none] (by simp [lsub]) ?_
              exact zih (j + 1) (by omega) (by omega) (fun i q0 q1 => if zj : i = j then (by subst zj; intro q2; omega) else zv1 i q0 (by omega))
            · replace zh10 : ¬ ((0 : Int) = (0 : Int)) := zh10
              exfalso; omega
          · replace zh9 : ¬ (c / 12 < M 14 j) := zh9
            refine And.intro (show (0 ≤ j ∧ j < 6) from (by omega)) ?_
            have zf11 := zp0.2 j (by omega) (by omega)
            refine And.intro (show Inr (c / 12) ∧ Inr (M 15 j) from ⟨⟨by omega, by omega⟩, ⟨by omega, by omega⟩⟩) (And.intro (fun zh12 => ?_) (fun zh12 => ?_))
            · replace zh12 : M 15 j < c / 12 := zh12
              change AW ev false 1 t_X0_cover Q 73 [some (vR 11), some (vI c), some (vI hr), some (vI (c % 12)), some (vI (c / 12)), some (vI j), none] [] M
              refine AW.go pk_X0_cover 38 18 rfl rfl ?_
              refine And.intro (show 6 < mL t_X0_cover from (by decide)) ?_
              refine And.intro (show Inr 0 from ⟨by omega, by omega⟩) (And.intro (fun zh13 => ?_) (fun zh13 => ?_))
              · replace zh13 : (0 : Int) = (0 : Int) := zh13
                change AW ev false 1 t_X0_cover Q 105 [some (vR 11), some (vI c), some (vI hr), some (vI (c % 12)), some (vI (c / 12)), some (vI j), some (vI 0)] [] M
                refine AW.go pk_X0_cover 56 2 rfl rfl ?_
                refine And.intro (show 5 < mL t_X0_cover from (by decide)) ?_
                change AW ev false 1 t_X0_cover Q 14 [some (vR 11), some (vI c), some (vI hr), some (vI (c % 12)), some (vI (c / 12)), some (vI (j + 1)), some (vI 0)] [] M
                refine AW.sub [some (vR 11), some (vI c), some (vI hr), some (vI (c % 12)), some (vI (c / 12)), some (vI (j + 1)), none] (by simp [lsub]) ?_
                exact zih (j + 1) (by omega) (by omega) (fun i q0 q1 => if zj : i = j then (by subst zj; intro q2; omega) else zv1 i q0 (by omega))
              · replace zh13 : ¬ ((0 : Int) = (0 : Int)) := zh13
                exfalso; omega
            · replace zh12 : ¬ (M 15 j < c / 12) := zh12
              change AW ev false 1 t_X0_cover Q 74 [some (vR 11), some (vI c), some (vI hr), some (vI (c % 12)), some (vI (c / 12)), some (vI j), none] [vI 1] M
              refine AW.go pk_X0_cover 39 17 rfl rfl ?_
              refine And.intro (show 6 < mL t_X0_cover from (by decide)) ?_
              refine And.intro (show Inr 1 from ⟨by omega, by omega⟩) (And.intro (fun zh14 => ?_) (fun zh14 => ?_))
              · replace zh14 : (1 : Int) = (0 : Int) := zh14
                exfalso; omega
              · replace zh14 : ¬ ((1 : Int) = (0 : Int)) := zh14
                refine And.intro (show (0 ≤ j ∧ j < 6) from (by omega)) ?_
                have zf15 := zp0.2 j (by omega) (by omega)
                refine And.intro (show Inr hr ∧ Inr (M 16 j) from ⟨⟨by omega, by omega⟩, ⟨by omega, by omega⟩⟩) (And.intro (fun zh16 => ?_) (fun zh16 => ?_))
                · replace zh16 : hr < M 16 j := zh16
                  change AW ev false 1 t_X0_cover Q 105 [some (vR 11), some (vI c), some (vI hr), some (vI (c % 12)), some (vI (c / 12)), some (vI j), some (vI 1)] [] M
                  refine AW.go pk_X0_cover 56 2 rfl rfl ?_
                  refine And.intro (show 5 < mL t_X0_cover from (by decide)) ?_
                  change AW ev false 1 t_X0_cover Q 14 [some (vR 11), some (vI c), some (vI hr), some (vI (c % 12)), some (vI (c / 12)), some (vI (j + 1)), some (vI 1)] [] M
                  refine AW.sub [some (vR 11), some (vI c), some (vI hr), some (vI (c % 12)), some (vI (c / 12)), some (vI (j + 1)), none] (by simp [lsub]) ?_
                  exact zih (j + 1) (by omega) (by omega) (fun i q0 q1 => if zj : i = j then (by subst zj; intro q2; omega) else zv1 i q0 (by omega))
                · replace zh16 : ¬ (hr < M 16 j) := zh16
                  refine And.intro (show (0 ≤ j ∧ j < 6) from (by omega)) ?_
                  have zf17 := zp0.2 j (by omega) (by omega)
                  refine And.intro (show Inr hr ∧ Inr (M 17 j) from ⟨⟨by omega, by omega⟩, ⟨by omega, by omega⟩⟩) (And.intro (fun zh18 => ?_) (fun zh18 => ?_))
                  · replace zh18 : M 17 j < hr := zh18
                    change AW ev false 1 t_X0_cover Q 105 [some (vR 11), some (vI c), some (vI hr), some (vI (c % 12)), some (vI (c / 12)), some (vI j), some (vI 1)] [] M
                    refine AW.go pk_X0_cover 56 2 rfl rfl ?_
                    refine And.intro (show 5 < mL t_X0_cover from (by decide)) ?_
                    change AW ev false 1 t_X0_cover Q 14 [some (vR 11), some (vI c), some (vI hr), some (vI (c % 12)), some (vI (c / 12)), some (vI (j + 1)), some (vI 1)] [] M
                    refine AW.sub [some (vR 11), some (vI c), some (vI hr), some (vI (c % 12)), some (vI (c / 12)), some (vI (j + 1)), none] (by simp [lsub]) ?_
                    exact zih (j + 1) (by omega) (by omega) (fun i q0 q1 => if zj : i = j then (by subst zj; intro q2; omega) else zv1 i q0 (by omega))
                  · replace zh18 : ¬ (M 17 j < hr) := zh18
                    refine And.intro rfl ?_
                    refine And.intro (show ((1 : Int) = 0 ∨ (1 : Int) = 1) from (by omega)) ?_
                    exact zQ 1 ⟨Or.inr rfl, fun _ => ⟨j, by omega, by omega, by omega⟩, fun _ => rfl⟩
theorem c_X0_cover {ev : Ev} {Q : Out → Mem → Prop} {M : Mem}  (c : Int) (hr : Int) (zp0 : KInv M) (zp1 : 0 ≤ c ∧ c < 144) (zp2 : 0 ≤ hr ∧ hr ≤ 100) (zQ : ∀ (r : Int), (r = 0 ∨ r = 1) ∧ (r = 1 ↔ ∃ j, 0 ≤ j ∧ j < M 11 6 ∧ cov M j (c % 12) (c / 12) hr) → Q (.inl (some (vI r))) M) : AM ev false 1 t_X0_cover [vR 11, vI c, vI hr] M Q := by
  have zs := zp0.1
  refine AM.of mt_X0_cover (Nat.le_of_ble_eq_true rfl) ?_
  change AW ev false 1 t_X0_cover Q 0 [some (vR 11), some (vI c), some (vI hr), none, none, none, none] [] M
  refine AW.go pk_X0_cover 0 2 rfl rfl ?_
  change AW ev false 1 t_X0_cover Q 1 [some (vR 11), some (vI c), some (vI hr), none, none, none, none] [vI c] M
  refine AW.callS (d' := 0) [vI c] [] sm_X5_columnOf hX0_34 (okP_d pk_X0_cover 1 1 (.invokestatic 34) 3 rfl) (by decide) rfl (Nat.le_of_ble_eq_true rfl) ?_
  refine c_X5_columnOf c (by omega) (fun x1 zx1 => ?_)
  change AW ev false 1 t_X0_cover Q 4 [some (vR 11), some (vI c), some (vI hr), none, none, none, none] [vI x1] M
  refine AW.go pk_X0_cover 2 3 rfl rfl ?_
  refine And.intro (show 3 < mL t_X0_cover from (by decide)) ?_
  change AW ev false 1 t_X0_cover Q 6 [some (vR 11), some (vI c), some (vI hr), some (vI x1), none, none, none] [vI c] M
  refine AW.callS (d' := 0) [vI c] [] sm_X5_rowOf hX0_49 (okP_d pk_X0_cover 4 6 (.invokestatic 49) 3 rfl) (by decide) rfl (Nat.le_of_ble_eq_true rfl) ?_
  refine c_X5_rowOf c (by omega) (fun y1 zy1 => ?_)
  change AW ev false 1 t_X0_cover Q 9 [some (vR 11), some (vI c), some (vI hr), some (vI x1), none, none, none] [vI y1] M
  refine AW.go pk_X0_cover 5 3 rfl rfl ?_
  refine And.intro (show 4 < mL t_X0_cover from (by decide)) ?_
  refine And.intro (show 5 < mL t_X0_cover from (by decide)) ?_
  change AW ev false 1 t_X0_cover Q 14 [some (vR 11), some (vI c), some (vI hr), some (vI x1), some (vI y1), some (vI 0), none] [] M
  rw [zx1, zy1]
  exact l_cover c hr zp0 zp1 zp2 zQ (M 11 6).toNat 0 (by omega) (by omega) (fun j q0 q1 => by omega)
