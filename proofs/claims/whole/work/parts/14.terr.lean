theorem c_X5_isCell {ev : Ev} {Q : Out → Mem → Prop} {M : Mem}  (c : Int) (zp0 : -2147483648 ≤ c ∧ c < 2147483648) (zQ : ∀ (r : Int), (r = 0 ∨ r = 1) ∧ (r = 1 ↔ 0 ≤ c ∧ c < 144) → Q (.inl (some (vI r))) M) : AM ev false 0 t_X5_isCell [vI c] M Q := by
  refine AM.of mt_X5_isCell (Nat.le_of_ble_eq_true rfl) ?_
  change AW ev false 0 t_X5_isCell Q 0 [some (vI c)] [] M
  refine AW.go pk_X5_isCell 0 7 rfl rfl ?_
  refine And.intro (show Inr c from ⟨by omega, by omega⟩) (And.intro (fun zh1 => ?_) (fun zh1 => ?_))
  · replace zh1 : c < (0 : Int) := zh1
    change AW ev false 0 t_X5_isCell Q 15 [some (vI c)] [] M
    refine AW.go pk_X5_isCell 7 2 rfl rfl ?_
    refine And.intro rfl ?_
    refine And.intro (show ((0 : Int) = 0 ∨ (0 : Int) = 1) from (by omega)) ?_
    exact zQ 0 (by first | rfl | omega)
  · replace zh1 : ¬ (c < (0 : Int)) := zh1
    refine And.intro (show Inr c ∧ Inr 144 from ⟨⟨by omega, by omega⟩, ⟨by omega, by omega⟩⟩) (And.intro (fun zh2 => ?_) (fun zh2 => ?_))
    · replace zh2 : (144 : Int) ≤ c := zh2
      change AW ev false 0 t_X5_isCell Q 15 [some (vI c)] [] M
      refine AW.go pk_X5_isCell 7 2 rfl rfl ?_
      refine And.intro rfl ?_
      refine And.intro (show ((0 : Int) = 0 ∨ (0 : Int) = 1) from (by omega)) ?_
      exact zQ 0 (by first | rfl | omega)
    · replace zh2 : ¬ ((144 : Int) ≤ c) := zh2
      change AW ev false 0 t_X5_isCell Q 16 [some (vI c)] [vI 1] M
      refine AW.go pk_X5_isCell 8 1 rfl rfl ?_
      refine And.intro rfl ?_
      refine And.intro (show ((1 : Int) = 0 ∨ (1 : Int) = 1) from (by omega)) ?_
      exact zQ 1 (by first | rfl | omega)
theorem c_X5_columnOf {ev : Ev} {Q : Out → Mem → Prop} {M : Mem}  (c : Int) (zp0 : 0 ≤ c ∧ c < 144) (zQ : ∀ (r : Int), r = c % 12 → Q (.inl (some (vI r))) M) : AM ev false 0 t_X5_columnOf [vI c] M Q := by
  refine AM.of mt_X5_columnOf (Nat.le_of_ble_eq_true rfl) ?_
  change AW ev false 0 t_X5_columnOf Q 0 [some (vI c)] [] M
  refine AW.go pk_X5_columnOf 0 4 rfl rfl ?_
  refine And.intro (show ((0 ≤ c ∧ c < 2147483648) ∧ 0 < (12 : Int) ∧ (12 : Int) < 2147483648) from (by omega)) ?_
  refine And.intro rfl ?_
  exact zQ (c % 12) (by first | rfl | omega)
theorem c_X5_rowOf {ev : Ev} {Q : Out → Mem → Prop} {M : Mem}  (c : Int) (zp0 : 0 ≤ c ∧ c < 144) (zQ : ∀ (r : Int), r = c / 12 → Q (.inl (some (vI r))) M) : AM ev false 0 t_X5_rowOf [vI c] M Q := by
  refine AM.of mt_X5_rowOf (Nat.le_of_ble_eq_true rfl) ?_
  change AW ev false 0 t_X5_rowOf Q 0 [some (vI c)] [] M
  refine AW.go pk_X5_rowOf 0 4 rfl rfl ?_
  refine And.intro (show ((0 ≤ c ∧ c < 2147483648) ∧ 0 < (12 : Int) ∧ (12 : Int) < 2147483648) from (by omega)) ?_
  refine And.intro rfl ?_
  exact zQ (c / 12) (by first | rfl | omega)
theorem c_X5_eastward {ev : Ev} {Q : Out → Mem → Prop} {M : Mem}  (a : Int) (b : Int) (zp0 : 0 ≤ a ∧ a < 144) (zp1 : 0 ≤ b ∧ b < 144) (zQ : ∀ (r : Int), r = b % 12 - a % 12 → Q (.inl (some (vI r))) M) : AM ev false 1 t_X5_eastward [vI a, vI b] M Q := by
  refine AM.of mt_X5_eastward (Nat.le_of_ble_eq_true rfl) ?_
  change AW ev false 1 t_X5_eastward Q 0 [some (vI a), some (vI b)] [] M
  refine AW.go pk_X5_eastward 0 2 rfl rfl ?_
  change AW ev false 1 t_X5_eastward Q 1 [some (vI a), some (vI b)] [vI b] M
  refine AW.callS (d' := 0) [vI b] [] sm_X5_columnOf hX5_15 (okP_d pk_X5_eastward 1 1 (.invokestatic 15) 3 rfl) (by decide) rfl (Nat.le_of_ble_eq_true rfl) ?_
  refine c_X5_columnOf b (by omega) (fun zr1 zzr1 => ?_)
  change AW ev false 1 t_X5_eastward Q 4 [some (vI a), some (vI b)] [vI zr1] M
  refine AW.go pk_X5_eastward 2 2 rfl rfl ?_
  change AW ev false 1 t_X5_eastward Q 5 [some (vI a), some (vI b)] [vI a, vI zr1] M
  refine AW.callS (d' := 0) [vI a] [vI zr1] sm_X5_columnOf hX5_15 (okP_d pk_X5_eastward 3 5 (.invokestatic 15) 3 rfl) (by decide) rfl (Nat.le_of_ble_eq_true rfl) ?_
  refine c_X5_columnOf a (by omega) (fun zr2 zzr2 => ?_)
  change AW ev false 1 t_X5_eastward Q 8 [some (vI a), some (vI b)] [vI zr2, vI zr1] M
  refine AW.go pk_X5_eastward 4 2 rfl rfl ?_
  refine And.intro rfl ?_
  exact zQ (zr1 - zr2) (by first | rfl | omega)
theorem c_X5_southward {ev : Ev} {Q : Out → Mem → Prop} {M : Mem}  (a : Int) (b : Int) (zp0 : 0 ≤ a ∧ a < 144) (zp1 : 0 ≤ b ∧ b < 144) (zQ : ∀ (r : Int), r = b / 12 - a / 12 → Q (.inl (some (vI r))) M) : AM ev false 1 t_X5_southward [vI a, vI b] M Q := by
  refine AM.of mt_X5_southward (Nat.le_of_ble_eq_true rfl) ?_
  change AW ev false 1 t_X5_southward Q 0 [some (vI a), some (vI b)] [] M
  refine AW.go pk_X5_southward 0 2 rfl rfl ?_
  change AW ev false 1 t_X5_southward Q 1 [some (vI a), some (vI b)] [vI b] M
  refine AW.callS (d' := 0) [vI b] [] sm_X5_rowOf hX5_19 (okP_d pk_X5_southward 1 1 (.invokestatic 19) 3 rfl) (by decide) rfl (Nat.le_of_ble_eq_true rfl) ?_
  refine c_X5_rowOf b (by omega) (fun zr1 zzr1 => ?_)
  change AW ev false 1 t_X5_southward Q 4 [some (vI a), some (vI b)] [vI zr1] M
  refine AW.go pk_X5_southward 2 2 rfl rfl ?_
  change AW ev false 1 t_X5_southward Q 5 [some (vI a), some (vI b)] [vI a, vI zr1] M
  refine AW.callS (d' := 0) [vI a] [vI zr1] sm_X5_rowOf hX5_19 (okP_d pk_X5_southward 3 5 (.invokestatic 19) 3 rfl) (by decide) rfl (Nat.le_of_ble_eq_true rfl) ?_
  refine c_X5_rowOf a (by omega) (fun zr2 zzr2 => ?_)
  change AW ev false 1 t_X5_southward Q 8 [some (vI a), some (vI b)] [vI zr2, vI zr1] M
  refine AW.go pk_X5_southward 4 2 rfl rfl ?_
  refine And.intro rfl ?_
  exact zQ (zr1 - zr2) (by first | rfl | omega)
theorem c_X5_reach {ev : Ev} {Q : Out → Mem → Prop} {M : Mem}  (a : Int) (b : Int) (zp0 : -11 ≤ a ∧ a ≤ 11) (zp1 : -11 ≤ b ∧ b ≤ 11) (zQ : ∀ (r : Int), (a ≤ r ∧ -a ≤ r ∧ b ≤ r ∧ -b ≤ r) ∧ (r = a ∨ r = -a ∨ r = b ∨ r = -b) → Q (.inl (some (vI r))) M) : AM ev false 1 t_X5_reach [vI a, vI b] M Q := by
  refine AM.of mt_X5_reach (Nat.le_of_ble_eq_true rfl) ?_
  change AW ev false 1 t_X5_reach Q 0 [some (vI a), some (vI b)] [] M
  refine AW.go pk_X5_reach 0 2 rfl rfl ?_
  change AW ev false 1 t_X5_reach Q 1 [some (vI a), some (vI b)] [vI a] M
  refine AW.mabs (bm 403 _ (by decide +kernel) (by decide +kernel)) (okP_d pk_X5_reach 1 1 (.invokestatic 22) 3 rfl) (by decide) (Nat.le_of_ble_eq_true rfl) (by omega) (fun zr1 zzr1 => ?_)
  change AW ev false 1 t_X5_reach Q 4 [some (vI a), some (vI b)] [vI zr1] M
  refine AW.go pk_X5_reach 2 2 rfl rfl ?_
  change AW ev false 1 t_X5_reach Q 5 [some (vI a), some (vI b)] [vI b, vI zr1] M
  refine AW.mabs (bm 403 _ (by decide +kernel) (by decide +kernel)) (okP_d pk_X5_reach 3 5 (.invokestatic 22) 3 rfl) (by decide) (Nat.le_of_ble_eq_true rfl) (by omega) (fun zr2 zzr2 => ?_)
  change AW ev false 1 t_X5_reach Q 8 [some (vI a), some (vI b)] [vI zr2, vI zr1] M
  refine AW.mmax (bm 404 _ (by decide +kernel) (by decide +kernel)) (okP_d pk_X5_reach 4 8 (.invokestatic 27) 3 rfl) (by decide) (Nat.le_of_ble_eq_true rfl) ⟨by omega, by omega⟩ ⟨by omega, by omega⟩ (fun zr3 zzr3 => ?_)
  change AW ev false 1 t_X5_reach Q 11 [some (vI a), some (vI b)] [vI zr3] M
  refine AW.go pk_X5_reach 5 1 rfl rfl ?_
  refine And.intro rfl ?_
  exact zQ zr3 (by first | rfl | omega)
theorem c_X5_roundedQuotient {ev : Ev} {Q : Out → Mem → Prop} {M : Mem}  (v : Int) (m : Int) (zp0 : -1000 ≤ v ∧ v ≤ 1000) (zp1 : 1 ≤ m ∧ m ≤ 1000) (zQ : ∀ (r : Int), r = rq v m ∧ (-3000 ≤ r ∧ r ≤ 3000) → Q (.inl (some (vI r))) M) : AM ev false 0 t_X5_roundedQuotient [vI v, vI m] M Q := by
  refine AM.of mt_X5_roundedQuotient (Nat.le_of_ble_eq_true rfl) ?_
  change AW ev false 0 t_X5_roundedQuotient Q 0 [some (vI v), some (vI m), none, none] [] M
  refine AW.go pk_X5_roundedQuotient 0 4 rfl rfl ?_
  refine And.intro (show Inr m from ⟨by omega, by omega⟩) (And.intro (fun zh1 => ?_) (fun zh1 => ?_))
  · replace zh1 : (0 : Int) < m := zh1
    change AW ev false 0 t_X5_roundedQuotient Q 6 [some (vI v), some (vI m), none, none] [] M
    refine AW.go pk_X5_roundedQuotient 4 5 rfl rfl ?_
    refine And.intro (show Inr v from ⟨by omega, by omega⟩) (And.intro (fun zh2 => ?_) (fun zh2 => ?_))
    · replace zh2 : (0 : Int) ≤ v := zh2
      change AW ev false 0 t_X5_roundedQuotient Q 15 [some (vI v), some (vI m), none, none] [] M
      refine AW.go pk_X5_roundedQuotient 9 17 rfl rfl ?_
      refine And.intro (show 2 < mL t_X5_roundedQuotient from (by decide)) ?_
      refine And.intro (show ((0 ≤ (2 * v) + m ∧ (2 * v) + m < 2147483648) ∧ 0 < 2 * m ∧ 2 * m < 2147483648) from (by omega)) ?_
      refine And.intro (show 3 < mL t_X5_roundedQuotient from (by decide)) ?_
      refine And.intro (show Inr v from ⟨by omega, by omega⟩) (And.intro (fun zh3 => ?_) (fun zh3 => ?_))
      · replace zh3 : (0 : Int) ≤ v := zh3
        change AW ev false 0 t_X5_roundedQuotient Q 36 [some (vI v), some (vI m), some (vI v), some (vI (((2 * v) + m) / (2 * m)))] [] M
        refine AW.go pk_X5_roundedQuotient 26 2 rfl rfl ?_
        refine And.intro rfl ?_
        exact zQ (((2 * v) + m) / (2 * m)) (by first | rfl | (exfalso; omega) | (rw [show (((2 * v) + m) / (2 * m)) = rq v m from by first | (unfold rq; rw [if_pos (by omega)]) | (unfold rq; rw [if_neg (by omega)])]; exact ⟨rfl, rq_bd zp0 zp1⟩))
      · replace zh3 : ¬ ((0 : Int) ≤ v) := zh3
        change AW ev false 0 t_X5_roundedQuotient Q 37 [some (vI v), some (vI m), some (vI v), some (vI (((2 * v) + m) / (2 * m)))] [vI (-(((2 * v) + m) / (2 * m)))] M
        refine AW.go pk_X5_roundedQuotient 27 1 rfl rfl ?_
        refine And.intro rfl ?_
        exact zQ (-(((2 * v) + m) / (2 * m))) (by first | rfl | (exfalso; omega) | (rw [show (-(((2 * v) + m) / (2 * m))) = rq v m from by first | (unfold rq; rw [if_pos (by omega)]) | (unfold rq; rw [if_neg (by omega)])]; exact ⟨rfl, rq_bd zp0 zp1⟩))
    · replace zh2 : ¬ ((0 : Int) ≤ v) := zh2
      change AW ev false 0 t_X5_roundedQuotient Q 16 [some (vI v), some (vI m), none, none] [vI (-v)] M
      refine AW.go pk_X5_roundedQuotient 10 16 rfl rfl ?_
      refine And.intro (show 2 < mL t_X5_roundedQuotient from (by decide)) ?_
      refine And.intro (show ((0 ≤ (2 * (-v)) + m ∧ (2 * (-v)) + m < 2147483648) ∧ 0 < 2 * m ∧ 2 * m < 2147483648) from (by omega)) ?_
      refine And.intro (show 3 < mL t_X5_roundedQuotient from (by decide)) ?_
      refine And.intro (show Inr v from ⟨by omega, by omega⟩) (And.intro (fun zh4 => ?_) (fun zh4 => ?_))
      · replace zh4 : (0 : Int) ≤ v := zh4
        change AW ev false 0 t_X5_roundedQuotient Q 36 [some (vI v), some (vI m), some (vI (-v)), some (vI (((2 * (-v)) + m) / (2 * m)))] [] M
        refine AW.go pk_X5_roundedQuotient 26 2 rfl rfl ?_
        refine And.intro rfl ?_
        exact zQ (((2 * (-v)) + m) / (2 * m)) (by first | rfl | (exfalso; omega) | (rw [show (((2 * (-v)) + m) / (2 * m)) = rq v m from by first | (unfold rq; rw [if_pos (by omega)]) | (unfold rq; rw [if_neg (by omega)])]; exact ⟨rfl, rq_bd zp0 zp1⟩))
      · replace zh4 : ¬ ((0 : Int) ≤ v) := zh4
        change AW ev false 0 t_X5_roundedQuotient Q 37 [some (vI v), some (vI m), some (vI (-v)), some (vI (((2 * (-v)) + m) / (2 * m)))] [vI (-(((2 * (-v)) + m) / (2 * m)))] M
        refine AW.go pk_X5_roundedQuotient 27 1 rfl rfl ?_
        refine And.intro rfl ?_
        exact zQ (-(((2 * (-v)) + m) / (2 * m))) (by first | rfl | (exfalso; omega) | (rw [show (-(((2 * (-v)) + m) / (2 * m))) = rq v m from by first | (unfold rq; rw [if_pos (by omega)]) | (unfold rq; rw [if_neg (by omega)])]; exact ⟨rfl, rq_bd zp0 zp1⟩))
  · replace zh1 : ¬ ((0 : Int) < m) := zh1
    exfalso; omega
theorem c_X5_heightOf {ev : Ev} {Q : Out → Mem → Prop} {M : Mem}  (c : Int) (zp0 : 0 ≤ c ∧ c < 144) (zQ : ∀ (r : Int), r = M 2 c → Q (.inl (some (vI r))) M) : AM ev false 1 t_X5_heightOf [vR 1, vI c] M Q := by
  refine AM.of mt_X5_heightOf (Nat.le_of_ble_eq_true rfl) ?_
  change AW ev false 1 t_X5_heightOf Q 0 [some (vR 1), some (vI c)] [] M
  refine AW.go pk_X5_heightOf 0 2 rfl rfl ?_
  change AW ev false 1 t_X5_heightOf Q 1 [some (vR 1), some (vI c)] [vI c] M
  refine AW.callS (d' := 0) [vI c] [] sm_X5_isCell hX5_37 (okP_d pk_X5_heightOf 1 1 (.invokestatic 37) 3 rfl) (by decide) rfl (Nat.le_of_ble_eq_true rfl) ?_
  refine c_X5_isCell c (by omega) (fun zr1 zzr1 => ?_)
  change AW ev false 1 t_X5_heightOf Q 4 [some (vR 1), some (vI c)] [vI zr1] M
  refine AW.go pk_X5_heightOf 2 6 rfl rfl ?_
  refine And.intro (show Inr zr1 from ⟨by omega, by omega⟩) (And.intro (fun zh2 => ?_) (fun zh2 => ?_))
  · replace zh2 : zr1 = (0 : Int) := zh2
    exfalso; omega
  · replace zh2 : ¬ (zr1 = (0 : Int)) := zh2
    refine And.intro (show (0 ≤ c ∧ c < 144) from (by omega)) ?_
    change AW ev false 1 t_X5_heightOf Q 17 [some (vR 1), some (vI c)] [vI (M 2 c)] M
    refine AW.go pk_X5_heightOf 9 1 rfl rfl ?_
    refine And.intro rfl ?_
    exact zQ (M 2 c) (by first | rfl | omega)
theorem c_X5_heightOf_none {ev : Ev} {Q : Out → Mem → Prop} {M : Mem}  (c : Int) (zp0 : c = -1) (zQ : ∀ (r : Int), r = 0 → Q (.inl (some (vI r))) M) : AM ev false 1 t_X5_heightOf [vR 1, vI c] M Q := by
  refine AM.of mt_X5_heightOf (Nat.le_of_ble_eq_true rfl) ?_
  change AW ev false 1 t_X5_heightOf Q 0 [some (vR 1), some (vI c)] [] M
  refine AW.go pk_X5_heightOf 0 2 rfl rfl ?_
  change AW ev false 1 t_X5_heightOf Q 1 [some (vR 1), some (vI c)] [vI c] M
  refine AW.callS (d' := 0) [vI c] [] sm_X5_isCell hX5_37 (okP_d pk_X5_heightOf 1 1 (.invokestatic 37) 3 rfl) (by decide) rfl (Nat.le_of_ble_eq_true rfl) ?_
  refine c_X5_isCell c (by omega) (fun zr1 zzr1 => ?_)
  change AW ev false 1 t_X5_heightOf Q 4 [some (vR 1), some (vI c)] [vI zr1] M
  refine AW.go pk_X5_heightOf 2 6 rfl rfl ?_
  refine And.intro (show Inr zr1 from ⟨by omega, by omega⟩) (And.intro (fun zh2 => ?_) (fun zh2 => ?_))
  · replace zh2 : zr1 = (0 : Int) := zh2
    change AW ev false 1 t_X5_heightOf Q 16 [some (vR 1), some (vI c)] [] M
    refine AW.go pk_X5_heightOf 8 2 rfl rfl ?_
    refine And.intro rfl ?_
    exact zQ 0 (by first | rfl | omega)
  · replace zh2 : ¬ (zr1 = (0 : Int)) := zh2
    exfalso; omega
theorem c_X5_change {ev : Ev} {Q : Out → Mem → Prop} {M : Mem}  (c : Int) (v : Int) (zp0 : 0 ≤ c ∧ c < 144) (zQ : Q (.inl none) (upM M 2 c v)) : AM ev false 1 t_X5_change [vR 1, vI c, vI v] M Q := by
  refine AM.of mt_X5_change (Nat.le_of_ble_eq_true rfl) ?_
  change AW ev false 1 t_X5_change Q 0 [some (vR 1), some (vI c), some (vI v)] [] M
  refine AW.go pk_X5_change 0 2 rfl rfl ?_
  change AW ev false 1 t_X5_change Q 1 [some (vR 1), some (vI c), some (vI v)] [vI c] M
  refine AW.callS (d' := 0) [vI c] [] sm_X5_isCell hX5_37 (okP_d pk_X5_change 1 1 (.invokestatic 37) 3 rfl) (by decide) rfl (Nat.le_of_ble_eq_true rfl) ?_
  refine c_X5_isCell c (by omega) (fun zr1 zzr1 => ?_)
  change AW ev false 1 t_X5_change Q 4 [some (vR 1), some (vI c), some (vI v)] [vI zr1] M
  refine AW.go pk_X5_change 2 7 rfl rfl ?_
  refine And.intro (show Inr zr1 from ⟨by omega, by omega⟩) (And.intro (fun zh2 => ?_) (fun zh2 => ?_))
  · replace zh2 : zr1 = (0 : Int) := zh2
    exfalso; omega
  · replace zh2 : ¬ (zr1 = (0 : Int)) := zh2
    refine And.intro (show ((0 ≤ c ∧ c < 144) ∧ ((0 : Nat) = 0 ∨ v = 0 ∨ v = 1)) from ⟨by omega, Or.inl rfl⟩) ?_
    refine And.intro rfl ?_
    exact zQ
theorem l_fill2 {ev : Ev} {Q : Out → Mem → Prop} {M : Mem}  (v : Int)  (zQ : Q (.inl none) (fillM M 2 144 v)) : ∀ (n : Nat) (i : Int), i + n = 144 → (0 ≤ i) → AW ev false 0 t_J7_fill_53178 Q 5 [some (vR 2), some (vI v), some (vI i), some (vI 144)] [] (fillM M 2 i v) := by
  intro n
  induction n with
  | zero =>
    intro i zn zv0
    refine AW.go pk_J7_fill_53178 5 9 rfl rfl ?_
    refine And.intro (show Inr i ∧ Inr 144 from ⟨⟨by omega, by omega⟩, ⟨by omega, by omega⟩⟩) (And.intro (fun zh1 => ?_) (fun zh1 => ?_))
    · replace zh1 : (144 : Int) ≤ i := zh1
      change AW ev false 0 t_J7_fill_53178 Q 20 [some (vR 2), some (vI v), some (vI i), some (vI 144)] [] (fillM M 2 i v)
      refine AW.go pk_J7_fill_53178 14 1 rfl rfl ?_
      refine And.intro rfl ?_
      exact Eq.mpr (congrArg (Q _) (show (fillM M 2 i v) = (fillM M 2 144 v) from by rw [show i = 144 from by omega])) (zQ)
    · replace zh1 : ¬ ((144 : Int) ≤ i) := zh1
      exfalso; omega
  | succ n zih =>
    intro i zn zv0
    refine AW.go pk_J7_fill_53178 5 9 rfl rfl ?_
    refine And.intro (show Inr i ∧ Inr 144 from ⟨⟨by omega, by omega⟩, ⟨by omega, by omega⟩⟩) (And.intro (fun zh1 => ?_) (fun zh1 => ?_))
    · replace zh1 : (144 : Int) ≤ i := zh1
      exfalso; omega
    · replace zh1 : ¬ ((144 : Int) ≤ i) := zh1
      refine And.intro (show ((0 ≤ i ∧ i < 144) ∧ ((0 : Nat) = 0 ∨ v = 0 ∨ v = 1)) from ⟨by omega, Or.inl rfl⟩) ?_
      refine And.intro (show 2 < mL t_J7_fill_53178 from (by decide)) ?_
      change AW ev false 0 t_J7_fill_53178 Q 5 [some (vR 2), some (vI v), some (vI (i + 1)), some (vI 144)] [] (upM (fillM M 2 i v) 2 i v)
      exact AW.mem (show (upM (fillM M 2 i v) 2 i v) = (fillM M 2 (i + 1) v) from by funext k j; simp only [upM, fillM]; grind) (zih (i + 1) (by omega) (by omega))
theorem c_fill2 {ev : Ev} {Q : Out → Mem → Prop} {M : Mem}  (v : Int)  (zQ : Q (.inl none) (fillM M 2 144 v)) : AM ev false 0 t_J7_fill_53178 [vR 2, vI v] M Q := by
  refine AM.of mt_J7_fill_53178 (Nat.le_of_ble_eq_true rfl) ?_
  change AW ev false 0 t_J7_fill_53178 Q 0 [some (vR 2), some (vI v), none, none] [] M
  refine AW.go pk_J7_fill_53178 0 5 rfl rfl ?_
  refine And.intro (show 2 < mL t_J7_fill_53178 from (by decide)) ?_
  refine And.intro (show 3 < mL t_J7_fill_53178 from (by decide)) ?_
  change AW ev false 0 t_J7_fill_53178 Q 5 [some (vR 2), some (vI v), some (vI 0), some (vI 144)] [] M
  exact AW.mem (show M = (fillM M 2 0 v) from by funext k j; simp only [fillM]; grind) (l_fill2 v zQ 144 0 (by omega) (by omega))
theorem l_fill21 {ev : Ev} {Q : Out → Mem → Prop} {M : Mem}  (v : Int)  (zQ : Q (.inl none) (fillM M 21 576 v)) : ∀ (n : Nat) (i : Int), i + n = 576 → (0 ≤ i) → AW ev false 0 t_J7_fill_53178 Q 5 [some (vR 21), some (vI v), some (vI i), some (vI 576)] [] (fillM M 21 i v) := by
  intro n
  induction n with
  | zero =>
    intro i zn zv0
    refine AW.go pk_J7_fill_53178 5 9 rfl rfl ?_
    refine And.intro (show Inr i ∧ Inr 576 from ⟨⟨by omega, by omega⟩, ⟨by omega, by omega⟩⟩) (And.intro (fun zh1 => ?_) (fun zh1 => ?_))
    · replace zh1 : (576 : Int) ≤ i := zh1
      change AW ev false 0 t_J7_fill_53178 Q 20 [some (vR 21), some (vI v), some (vI i), some (vI 576)] [] (fillM M 21 i v)
      refine AW.go pk_J7_fill_53178 14 1 rfl rfl ?_
      refine And.intro rfl ?_
      exact Eq.mpr (congrArg (Q _) (show (fillM M 21 i v) = (fillM M 21 576 v) from by rw [show i = 576 from by omega])) (zQ)
    · replace zh1 : ¬ ((576 : Int) ≤ i) := zh1
      exfalso; omega
  | succ n zih =>
    intro i zn zv0
    refine AW.go pk_J7_fill_53178 5 9 rfl rfl ?_
    refine And.intro (show Inr i ∧ Inr 576 from ⟨⟨by omega, by omega⟩, ⟨by omega, by omega⟩⟩) (And.intro (fun zh1 => ?_) (fun zh1 => ?_))
    · replace zh1 : (576 : Int) ≤ i := zh1
      exfalso; omega
    · replace zh1 : ¬ ((576 : Int) ≤ i) := zh1
      refine And.intro (show ((0 ≤ i ∧ i < 576) ∧ ((0 : Nat) = 0 ∨ v = 0 ∨ v = 1)) from ⟨by omega, Or.inl rfl⟩) ?_
      refine And.intro (show 2 < mL t_J7_fill_53178 from (by decide)) ?_
      change AW ev false 0 t_J7_fill_53178 Q 5 [some (vR 21), some (vI v), some (vI (i + 1)), some (vI 576)] [] (upM (fillM M 21 i v) 21 i v)
      exact AW.mem (show (upM (fillM M 21 i v) 21 i v) = (fillM M 21 (i + 1) v) from by funext k j; simp only [upM, fillM]; grind) (zih (i + 1) (by omega) (by omega))
theorem c_fill21 {ev : Ev} {Q : Out → Mem → Prop} {M : Mem}  (v : Int)  (zQ : Q (.inl none) (fillM M 21 576 v)) : AM ev false 0 t_J7_fill_53178 [vR 21, vI v] M Q := by
  refine AM.of mt_J7_fill_53178 (Nat.le_of_ble_eq_true rfl) ?_
  change AW ev false 0 t_J7_fill_53178 Q 0 [some (vR 21), some (vI v), none, none] [] M
  refine AW.go pk_J7_fill_53178 0 5 rfl rfl ?_
  refine And.intro (show 2 < mL t_J7_fill_53178 from (by decide)) ?_
  refine And.intro (show 3 < mL t_J7_fill_53178 from (by decide)) ?_
  change AW ev false 0 t_J7_fill_53178 Q 5 [some (vR 21), some (vI v), some (vI 0), some (vI 576)] [] M
  exact AW.mem (show M = (fillM M 21 0 v) from by funext k j; simp only [fillM]; grind) (l_fill21 v zQ 576 0 (by omega) (by omega))
theorem l_fill24 {ev : Ev} {Q : Out → Mem → Prop} {M : Mem}  (v : Int)  (zQ : Q (.inl none) (fillM M 24 8 v)) : ∀ (n : Nat) (i : Int), i + n = 8 → (0 ≤ i) → AW ev false 0 t_J7_fill_53178 Q 5 [some (vR 24), some (vI v), some (vI i), some (vI 8)] [] (fillM M 24 i v) := by
  intro n
  induction n with
  | zero =>
    intro i zn zv0
    refine AW.go pk_J7_fill_53178 5 9 rfl rfl ?_
    refine And.intro (show Inr i ∧ Inr 8 from ⟨⟨by omega, by omega⟩, ⟨by omega, by omega⟩⟩) (And.intro (fun zh1 => ?_) (fun zh1 => ?_))
    · replace zh1 : (8 : Int) ≤ i := zh1
      change AW ev false 0 t_J7_fill_53178 Q 20 [some (vR 24), some (vI v), some (vI i), some (vI 8)] [] (fillM M 24 i v)
      refine AW.go pk_J7_fill_53178 14 1 rfl rfl ?_
      refine And.intro rfl ?_
      exact Eq.mpr (congrArg (Q _) (show (fillM M 24 i v) = (fillM M 24 8 v) from by rw [show i = 8 from by omega])) (zQ)
    · replace zh1 : ¬ ((8 : Int) ≤ i) := zh1
      exfalso; omega
  | succ n zih =>
    intro i zn zv0
    refine AW.go pk_J7_fill_53178 5 9 rfl rfl ?_
    refine And.intro (show Inr i ∧ Inr 8 from ⟨⟨by omega, by omega⟩, ⟨by omega, by omega⟩⟩) (And.intro (fun zh1 => ?_) (fun zh1 => ?_))
    · replace zh1 : (8 : Int) ≤ i := zh1
      exfalso; omega
    · replace zh1 : ¬ ((8 : Int) ≤ i) := zh1
      refine And.intro (show ((0 ≤ i ∧ i < 8) ∧ ((0 : Nat) = 0 ∨ v = 0 ∨ v = 1)) from ⟨by omega, Or.inl rfl⟩) ?_
      refine And.intro (show 2 < mL t_J7_fill_53178 from (by decide)) ?_
      change AW ev false 0 t_J7_fill_53178 Q 5 [some (vR 24), some (vI v), some (vI (i + 1)), some (vI 8)] [] (upM (fillM M 24 i v) 24 i v)
      exact AW.mem (show (upM (fillM M 24 i v) 24 i v) = (fillM M 24 (i + 1) v) from by funext k j; simp only [upM, fillM]; grind) (zih (i + 1) (by omega) (by omega))
theorem c_fill24 {ev : Ev} {Q : Out → Mem → Prop} {M : Mem}  (v : Int)  (zQ : Q (.inl none) (fillM M 24 8 v)) : AM ev false 0 t_J7_fill_53178 [vR 24, vI v] M Q := by
  refine AM.of mt_J7_fill_53178 (Nat.le_of_ble_eq_true rfl) ?_
  change AW ev false 0 t_J7_fill_53178 Q 0 [some (vR 24), some (vI v), none, none] [] M
  refine AW.go pk_J7_fill_53178 0 5 rfl rfl ?_
  refine And.intro (show 2 < mL t_J7_fill_53178 from (by decide)) ?_
  refine And.intro (show 3 < mL t_J7_fill_53178 from (by decide)) ?_
  change AW ev false 0 t_J7_fill_53178 Q 5 [some (vR 24), some (vI v), some (vI 0), some (vI 8)] [] M
  exact AW.mem (show M = (fillM M 24 0 v) from by funext k j; simp only [fillM]; grind) (l_fill24 v zQ 8 0 (by omega) (by omega))
theorem c_X5_flatten {ev : Ev} {Q : Out → Mem → Prop} {M : Mem}    (zQ : Q (.inl none) (fillM M 2 144 0)) : AM ev false 1 t_X5_flatten [vR 1] M Q := by
  refine AM.of mt_X5_flatten (Nat.le_of_ble_eq_true rfl) ?_
  change AW ev false 1 t_X5_flatten Q 0 [some (vR 1)] [] M
  refine AW.go pk_X5_flatten 0 4 rfl rfl ?_
  change AW ev false 1 t_X5_flatten Q 5 [some (vR 1)] [vI 0, vR 2] M
  refine AW.callS (d' := 0) [vR 2, vI 0] [] sm_J7_fill_53178 hX5_41 (okP_d pk_X5_flatten 3 5 (.invokestatic 41) 3 rfl) (by decide) rfl (Nat.le_of_ble_eq_true rfl) ?_
  refine c_fill2 0  ?_
  change AW ev false 1 t_X5_flatten Q 8 [some (vR 1)] [] (fillM M 2 144 0)
  refine AW.go pk_X5_flatten 4 1 rfl rfl ?_
  refine And.intro rfl ?_
  exact zQ
theorem l_firstAbove {ev : Ev} {Q : Out → Mem → Prop} {M : Mem}  (c : Int) (dx : Int) (dy : Int) (last : Int) (eye : Int) (rise : Int) (m : Int) (zp0 : 0 ≤ c ∧ c < 144) (zp1 : -11 ≤ dx ∧ dx ≤ 11) (zp2 : -11 ≤ dy ∧ dy ≤ 11) (zp3 : 0 ≤ last ∧ last ≤ 11) (zp4 : -1000 ≤ eye ∧ eye ≤ 1000) (zp5 : -1000 ≤ rise ∧ rise ≤ 1000) (zp6 : (dx ≤ m ∧ -dx ≤ m ∧ dy ≤ m ∧ -dy ≤ m) ∧ (m = dx ∨ m = -dx ∨ m = dy ∨ m = -dy)) (zp7 : TInv M) (zp8 : 1 ≤ m ∨ last = 0)  : ∀ (n : Nat) (k : Int), k + n = last + 1 → (1 ≤ k) → (∀ r : Int, r = fa (M 2) c dx dy m eye rise n k → Q (.inl (some (vI r))) M) → AW ev false 2 t_X5_firstAbove Q 10 [some (vR 1), some (vI c), some (vI dx), some (vI dy), some (vI last), some (vI eye), some (vI rise), some (vI m), some (vI k), none, none, none] [] M := by
  intro n
  induction n with
  | zero =>
    intro k zn zv0 zv1
    refine AW.go pk_X5_firstAbove 6 5 rfl rfl ?_
    refine And.intro (show Inr k ∧ Inr last from ⟨⟨by omega, by omega⟩, ⟨by omega, by omega⟩⟩) (And.intro (fun zh1 => ?_) (fun zh1 => ?_))
    · replace zh1 : last < k := zh1
      change AW ev false 2 t_X5_firstAbove Q 118 [some (vR 1), some (vI c), some (vI dx), some (vI dy), some (vI last), some (vI eye), some (vI rise), some (vI m), some (vI k), none, none, none] [] M
      refine AW.go pk_X5_firstAbove 63 2 rfl rfl ?_
      refine And.intro rfl ?_
      exact zv1 _ rfl
    · replace zh1 : ¬ (last < k) := zh1
      exfalso; omega
  | succ n zih =>
    intro k zn zv0 zv1
    refine AW.go pk_X5_firstAbove 6 5 rfl rfl ?_
    refine And.intro (show Inr k ∧ Inr last from ⟨⟨by omega, by omega⟩, ⟨by omega, by omega⟩⟩) (And.intro (fun zh1 => ?_) (fun zh1 => ?_))
    · replace zh1 : last < k := zh1
      exfalso; omega
    · replace zh1 : ¬ (last < k) := zh1
      change AW ev false 2 t_X5_firstAbove Q 18 [some (vR 1), some (vI c), some (vI dx), some (vI dy), some (vI last), some (vI eye), some (vI rise), some (vI m), some (vI k), none, none, none] [vI c] M
      refine AW.callS (d' := 0) [vI c] [] sm_X5_columnOf hX5_15 (okP_d pk_X5_firstAbove 10 18 (.invokestatic 15) 3 rfl) (by decide) rfl (Nat.le_of_ble_eq_true rfl) ?_
      refine c_X5_columnOf c (by omega) (fun x1 zx1 => ?_)
      change AW ev false 2 t_X5_firstAbove Q 21 [some (vR 1), some (vI c), some (vI dx), some (vI dy), some (vI last), some (vI eye), some (vI rise), some (vI m), some (vI k), none, none, none] [vI x1] M
      refine AW.go pk_X5_firstAbove 11 5 rfl rfl ?_
      change AW ev false 2 t_X5_firstAbove Q 27 [some (vR 1), some (vI c), some (vI dx), some (vI dy), some (vI last), some (vI eye), some (vI rise), some (vI m), some (vI k), none, none, none] [vI m, vI (k * dx), vI x1] M
      refine AW.callS (d' := 0) [vI (k * dx), vI m] [vI x1] sm_X5_roundedQuotient hX5_34 (okP_d pk_X5_firstAbove 15 27 (.invokestatic 34) 3 rfl) (by decide) rfl (Nat.le_of_ble_eq_true rfl) ?_
      refine c_X5_roundedQuotient (k * dx) m (by have := mul_bd (a := k) (b := dx) (A := 11) (B := 11) (by omega) (by omega); omega) (by omega) (fun x2 zx2 => ?_)
      change AW ev false 2 t_X5_firstAbove Q 30 [some (vR 1), some (vI c), some (vI dx), some (vI dy), some (vI last), some (vI eye), some (vI rise), some (vI m), some (vI k), none, none, none] [vI x2, vI x1] M
      refine AW.go pk_X5_firstAbove 16 4 rfl rfl ?_
      refine And.intro (show 9 < mL t_X5_firstAbove from (by decide)) ?_
      change AW ev false 2 t_X5_firstAbove Q 34 [some (vR 1), some (vI c), some (vI dx), some (vI dy), some (vI last), some (vI eye), some (vI rise), some (vI m), some (vI k), some (vI (x1 + x2)), none, none] [vI c] M
      refine AW.callS (d' := 0) [vI c] [] sm_X5_rowOf hX5_19 (okP_d pk_X5_firstAbove 19 34 (.invokestatic 19) 3 rfl) (by decide) rfl (Nat.le_of_ble_eq_true rfl) ?_
      refine c_X5_rowOf c (by omega) (fun y1 zy1 => ?_)
      change AW ev false 2 t_X5_firstAbove Q 37 [some (vR 1), some (vI c), some (vI dx), some (vI dy), some (vI last), some (vI eye), some (vI rise), some (vI m), some (vI k), some (vI (x1 + x2)), none, none] [vI y1] M
      refine AW.go pk_X5_firstAbove 20 5 rfl rfl ?_
      change AW ev false 2 t_X5_firstAbove Q 43 [some (vR 1), some (vI c), some (vI dx), some (vI dy), some (vI last), some (vI eye), some (vI rise), some (vI m), some (vI k), some (vI (x1 + x2)), none, none] [vI m, vI (k * dy), vI y1] M
      refine AW.callS (d' := 0) [vI (k * dy), vI m] [vI y1] sm_X5_roundedQuotient hX5_34 (okP_d pk_X5_firstAbove 24 43 (.invokestatic 34) 3 rfl) (by decide) rfl (Nat.le_of_ble_eq_true rfl) ?_
      refine c_X5_roundedQuotient (k * dy) m (by have := mul_bd (a := k) (b := dy) (A := 11) (B := 11) (by omega) (by omega); omega) (by omega) (fun y2 zy2 => ?_)
      change AW ev false 2 t_X5_firstAbove Q 46 [some (vR 1), some (vI c), some (vI dx), some (vI dy), some (vI last), some (vI eye), some (vI rise), some (vI m), some (vI k), some (vI (x1 + x2)), none, none] [vI y2, vI y1] M
      refine AW.go pk_X5_firstAbove 25 14 rfl rfl ?_
      refine And.intro (show 10 < mL t_X5_firstAbove from (by decide)) ?_
      refine And.intro (show Inr (x1 + x2) from ⟨by omega, by omega⟩) (And.intro (fun zh2 => ?_) (fun zh2 => ?_))
      · replace zh2 : x1 + x2 < (0 : Int) := zh2
        change AW ev false 2 t_X5_firstAbove Q 73 [some (vR 1), some (vI c), some (vI dx), some (vI dy), some (vI last), some (vI eye), some (vI rise), some (vI m), some (vI k), some (vI (x1 + x2)), some (vI (y1 + y2)), none] [] M
        refine AW.go pk_X5_firstAbove 37 2 rfl rfl ?_
        refine And.intro rfl ?_
        have zal : alo c dx dy m k = -1 := by
          unfold alo; rw [← zx1, ← zx2.1, ← zy1, ← zy2.1]; exact if_neg (by omega)
        exact zv1 _ (by unfold fa; rw [zal, if_pos rfl])
      · replace zh2 : ¬ (x1 + x2 < (0 : Int)) := zh2
        refine And.intro (show Inr (x1 + x2) ∧ Inr 12 from ⟨⟨by omega, by omega⟩, ⟨by omega, by omega⟩⟩) (And.intro (fun zh3 => ?_) (fun zh3 => ?_))
        · replace zh3 : (12 : Int) ≤ x1 + x2 := zh3
          change AW ev false 2 t_X5_firstAbove Q 73 [some (vR 1), some (vI c), some (vI dx), some (vI dy), some (vI last), some (vI eye), some (vI rise), some (vI m), some (vI k), some (vI (x1 + x2)), some (vI (y1 + y2)), none] [] M
          refine AW.go pk_X5_firstAbove 37 2 rfl rfl ?_
          refine And.intro rfl ?_
          have zal : alo c dx dy m k = -1 := by
            unfold alo; rw [← zx1, ← zx2.1, ← zy1, ← zy2.1]; exact if_neg (by omega)
          exact zv1 _ (by unfold fa; rw [zal, if_pos rfl])
        · replace zh3 : ¬ ((12 : Int) ≤ x1 + x2) := zh3
          refine And.intro (show Inr (y1 + y2) from ⟨by omega, by omega⟩) (And.intro (fun zh4 => ?_) (fun zh4 => ?_))
          · replace zh4 : y1 + y2 < (0 : Int) := zh4
            change AW ev false 2 t_X5_firstAbove Q 73 [some (vR 1), some (vI c), some (vI dx), some (vI dy), some (vI last), some (vI eye), some (vI rise), some (vI m), some (vI k), some (vI (x1 + x2)), some (vI (y1 + y2)), none] [] M
            refine AW.go pk_X5_firstAbove 37 2 rfl rfl ?_
            refine And.intro rfl ?_
            have zal : alo c dx dy m k = -1 := by
              unfold alo; rw [← zx1, ← zx2.1, ← zy1, ← zy2.1]; exact if_neg (by omega)
            exact zv1 _ (by unfold fa; rw [zal, if_pos rfl])
          · replace zh4 : ¬ (y1 + y2 < (0 : Int)) := zh4
            refine And.intro (show Inr (y1 + y2) ∧ Inr 12 from ⟨⟨by omega, by omega⟩, ⟨by omega, by omega⟩⟩) (And.intro (fun zh5 => ?_) (fun zh5 => ?_))
            · replace zh5 : y1 + y2 < (12 : Int) := zh5
              change AW ev false 2 t_X5_firstAbove Q 75 [some (vR 1), some (vI c), some (vI dx), some (vI dy), some (vI last), some (vI eye), some (vI rise), some (vI m), some (vI k), some (vI (x1 + x2)), some (vI (y1 + y2)), none] [] M
              have zal : alo c dx dy m k = 12 * (y1 + y2) + (x1 + x2) := by
                unfold alo; rw [← zx1, ← zx2.1, ← zy1, ← zy2.1, if_pos (by omega)]
              refine AW.go pk_X5_firstAbove 39 22 rfl rfl ?_
              refine And.intro (show 11 < mL t_X5_firstAbove from (by decide)) ?_
              refine And.intro (show (0 ≤ (12 * (y1 + y2)) + (x1 + x2) ∧ (12 * (y1 + y2)) + (x1 + x2) < 144) from (by omega)) ?_
              have zf6 := zp7 ((12 * (y1 + y2)) + (x1 + x2)) (by omega) (by omega)
              refine And.intro (show Inr ((M 2 ((12 * (y1 + y2)) + (x1 + x2))) * m) ∧ Inr ((eye * m) + (rise * k)) from ⟨(by have b1 := mul_bd (a := eye) (b := m) (A := 1000) (B := 11) (by omega) (by omega); have b2 := mul_bd (a := rise) (b := k) (A := 1000) (B := 11) (by omega) (by omega); have b3 := mul_bd (a := M 2 (12 * (y1 + y2) + (x1 + x2))) (b := m) (A := 1000) (B := 11) (by omega) (by omega); exact ⟨by omega, by omega⟩), (by have b1 := mul_bd (a := eye) (b := m) (A := 1000) (B := 11) (by omega) (by omega); have b2 := mul_bd (a := rise) (b := k) (A := 1000) (B := 11) (by omega) (by omega); have b3 := mul_bd (a := M 2 (12 * (y1 + y2) + (x1 + x2))) (b := m) (A := 1000) (B := 11) (by omega) (by omega); exact ⟨by omega, by omega⟩)⟩) (And.intro (fun zh7 => ?_) (fun zh7 => ?_))
              · replace zh7 : (M 2 ((12 * (y1 + y2)) + (x1 + x2))) * m ≤ (eye * m) + (rise * k) := zh7
                change AW ev false 2 t_X5_firstAbove Q 112 [some (vR 1), some (vI c), some (vI dx), some (vI dy), some (vI last), some (vI eye), some (vI rise), some (vI m), some (vI k), some (vI (x1 + x2)), some (vI (y1 + y2)), some (vI ((12 * (y1 + y2)) + (x1 + x2)))] [] M
                refine AW.go pk_X5_firstAbove 61 2 rfl rfl ?_
                refine And.intro (show 8 < mL t_X5_firstAbove from (by decide)) ?_
                change AW ev false 2 t_X5_firstAbove Q 10 [some (vR 1), some (vI c), some (vI dx), some (vI dy), some (vI last), some (vI eye), some (vI rise), some (vI m), some (vI (k + 1)), some (vI (x1 + x2)), some (vI (y1 + y2)), some (vI ((12 * (y1 + y2)) + (x1 + x2)))] [] M
                refine AW.sub [some (vR 1), some (vI c), some (vI dx), some (vI dy), some (vI last), some (vI eye), some (vI rise), some (vI m), some (vI (k + 1)), none, none, none] (by simp [lsub]) ?_
                exact zih (k + 1) (by omega) (by omega) (fun r hr => zv1 r (by rw [hr]; conv => rhs; unfold fa; rw [zal, if_neg (by omega), if_neg (by omega)]))
              · replace zh7 : ¬ ((M 2 ((12 * (y1 + y2)) + (x1 + x2))) * m ≤ (eye * m) + (rise * k)) := zh7
                refine And.intro rfl ?_
                exact zv1 _ (by unfold fa; rw [zal, if_neg (by omega), if_pos (by omega)])
            · replace zh5 : ¬ (y1 + y2 < (12 : Int)) := zh5
              refine And.intro rfl ?_
              have zal : alo c dx dy m k = -1 := by
                unfold alo; rw [← zx1, ← zx2.1, ← zy1, ← zy2.1]; exact if_neg (by omega)
              exact zv1 _ (by unfold fa; rw [zal, if_pos rfl])
theorem c_X5_firstAbove {ev : Ev} {Q : Out → Mem → Prop} {M : Mem}  (c : Int) (dx : Int) (dy : Int) (last : Int) (eye : Int) (rise : Int) (m : Int) (zp0 : 0 ≤ c ∧ c < 144) (zp1 : -11 ≤ dx ∧ dx ≤ 11) (zp2 : -11 ≤ dy ∧ dy ≤ 11) (zp3 : 0 ≤ last ∧ last ≤ 11) (zp4 : -1000 ≤ eye ∧ eye ≤ 1000) (zp5 : -1000 ≤ rise ∧ rise ≤ 1000) (zp6 : (dx ≤ m ∧ -dx ≤ m ∧ dy ≤ m ∧ -dy ≤ m) ∧ (m = dx ∨ m = -dx ∨ m = dy ∨ m = -dy)) (zp7 : TInv M) (zp8 : 1 ≤ m ∨ last = 0) (zQ : ∀ (r : Int), r = fa (M 2) c dx dy m eye rise last.toNat 1 → Q (.inl (some (vI r))) M) : AM ev false 2 t_X5_firstAbove [vR 1, vI c, vI dx, vI dy, vI last, vI eye, vI rise] M Q := by
  refine AM.of mt_X5_firstAbove (Nat.le_of_ble_eq_true rfl) ?_
  change AW ev false 2 t_X5_firstAbove Q 0 [some (vR 1), some (vI c), some (vI dx), some (vI dy), some (vI last), some (vI eye), some (vI rise), none, none, none, none, none] [] M
  refine AW.go pk_X5_firstAbove 0 3 rfl rfl ?_
  change AW ev false 2 t_X5_firstAbove Q 2 [some (vR 1), some (vI c), some (vI dx), some (vI dy), some (vI last), some (vI eye), some (vI rise), none, none, none, none, none] [vI dy, vI dx] M
  refine AW.callS (d' := 1) [vI dx, vI dy] [] sm_X5_reach hX5_31 (okP_d pk_X5_firstAbove 2 2 (.invokestatic 31) 3 rfl) (by decide) rfl (Nat.le_of_ble_eq_true rfl) ?_
  refine c_X5_reach dx dy (by omega) (by omega) (fun zr1 zzr1 => ?_)
  change AW ev false 2 t_X5_firstAbove Q 5 [some (vR 1), some (vI c), some (vI dx), some (vI dy), some (vI last), some (vI eye), some (vI rise), none, none, none, none, none] [vI zr1] M
  refine AW.go pk_X5_firstAbove 3 3 rfl rfl ?_
  refine And.intro (show 7 < mL t_X5_firstAbove from (by decide)) ?_
  refine And.intro (show 8 < mL t_X5_firstAbove from (by decide)) ?_
  change AW ev false 2 t_X5_firstAbove Q 10 [some (vR 1), some (vI c), some (vI dx), some (vI dy), some (vI last), some (vI eye), some (vI rise), some (vI zr1), some (vI 1), none, none, none] [] M
  have zm : zr1 = m := by omega
  rw [zm]
  exact l_firstAbove c dx dy last eye rise m zp0 zp1 zp2 zp3 zp4 zp5 zp6 zp7 zp8 last.toNat 1 (by omega) (by omega) zQ
theorem l_raise {ev : Ev} {Q : Out → Mem → Prop} {M : Mem}  (c : Int) (ht : Int) (rad : Int) (zp0 : 0 ≤ c ∧ c < 144) (zp1 : 1 ≤ ht ∧ ht ≤ 500) (zp2 : 0 ≤ rad ∧ rad ≤ 11) (zp3 : TInv M)  : ∀ (n : Nat) (i : Int) (s : Int), i + n = 144 → (0 ≤ i) → (∀ r : Int, r = hlC (M 2) c ht rad n i s → Q (.inl (some (vI r))) (hlM M 2 c ht rad 144)) → AW ev false 2 t_X5_raise Q 21 [some (vR 1), some (vI c), some (vI ht), some (vI rad), some (vI (ht / (rad + 1))), some (vI s), some (vI i), none, none] [] (hlM M 2 c ht rad i) := by
  intro n
  induction n with
  | zero =>
    intro i s zn zv0 zv1
    refine AW.go pk_X5_raise 14 6 rfl rfl ?_
    refine And.intro (show Inr i ∧ Inr 144 from ⟨⟨by omega, by omega⟩, ⟨by omega, by omega⟩⟩) (And.intro (fun zh1 => ?_) (fun zh1 => ?_))
    · replace zh1 : (144 : Int) ≤ i := zh1
      change AW ev false 2 t_X5_raise Q 95 [some (vR 1), some (vI c), some (vI ht), some (vI rad), some (vI (ht / (rad + 1))), some (vI s), some (vI i), none, none] [] (hlM M 2 c ht rad i)
      refine AW.go pk_X5_raise 50 2 rfl rfl ?_
      refine And.intro rfl ?_
      exact Eq.mpr (congrArg (Q _) (show hlM M 2 c ht rad i = hlM M 2 c ht rad 144 from by rw [show i = 144 from by omega])) (zv1 _ rfl)
    · replace zh1 : ¬ ((144 : Int) ≤ i) := zh1
      exfalso; omega
  | succ n zih =>
    intro i s zn zv0 zv1
    refine AW.go pk_X5_raise 14 6 rfl rfl ?_
    refine And.intro (show Inr i ∧ Inr 144 from ⟨⟨by omega, by omega⟩, ⟨by omega, by omega⟩⟩) (And.intro (fun zh1 => ?_) (fun zh1 => ?_))
    · replace zh1 : (144 : Int) ≤ i := zh1
      exfalso; omega
    · replace zh1 : ¬ ((144 : Int) ≤ i) := zh1
      change AW ev false 2 t_X5_raise Q 32 [some (vR 1), some (vI c), some (vI ht), some (vI rad), some (vI (ht / (rad + 1))), some (vI s), some (vI i), none, none] [vI i, vI c] (hlM M 2 c ht rad i)
      refine AW.callS (d' := 1) [vI c, vI i] [] sm_X5_eastward hX5_47 (okP_d pk_X5_raise 19 32 (.invokestatic 47) 3 rfl) (by decide) rfl (Nat.le_of_ble_eq_true rfl) ?_
      refine c_X5_eastward c i (by omega) (by omega) (fun e1 ze1 => ?_)
      change AW ev false 2 t_X5_raise Q 35 [some (vR 1), some (vI c), some (vI ht), some (vI rad), some (vI (ht / (rad + 1))), some (vI s), some (vI i), none, none] [vI e1] (hlM M 2 c ht rad i)
      refine AW.mabs (bm 403 _ (by decide +kernel) (by decide +kernel)) (okP_d pk_X5_raise 20 35 (.invokestatic 22) 3 rfl) (by decide) (Nat.le_of_ble_eq_true rfl) (by omega) (fun a1 za1 => ?_)
      change AW ev false 2 t_X5_raise Q 38 [some (vR 1), some (vI c), some (vI ht), some (vI rad), some (vI (ht / (rad + 1))), some (vI s), some (vI i), none, none] [vI a1] (hlM M 2 c ht rad i)
      refine AW.go pk_X5_raise 21 3 rfl rfl ?_
      change AW ev false 2 t_X5_raise Q 41 [some (vR 1), some (vI c), some (vI ht), some (vI rad), some (vI (ht / (rad + 1))), some (vI s), some (vI i), none, none] [vI i, vI c, vI a1] (hlM M 2 c ht rad i)
      refine AW.callS (d' := 1) [vI c, vI i] [vI a1] sm_X5_southward hX5_50 (okP_d pk_X5_raise 23 41 (.invokestatic 50) 3 rfl) (by decide) rfl (Nat.le_of_ble_eq_true rfl) ?_
      refine c_X5_southward c i (by omega) (by omega) (fun e2 ze2 => ?_)
      change AW ev false 2 t_X5_raise Q 44 [some (vR 1), some (vI c), some (vI ht), some (vI rad), some (vI (ht / (rad + 1))), some (vI s), some (vI i), none, none] [vI e2, vI a1] (hlM M 2 c ht rad i)
      refine AW.mabs (bm 403 _ (by decide +kernel) (by decide +kernel)) (okP_d pk_X5_raise 24 44 (.invokestatic 22) 3 rfl) (by decide) (Nat.le_of_ble_eq_true rfl) (by omega) (fun a2 za2 => ?_)
      change AW ev false 2 t_X5_raise Q 47 [some (vR 1), some (vI c), some (vI ht), some (vI rad), some (vI (ht / (rad + 1))), some (vI s), some (vI i), none, none] [vI a2, vI a1] (hlM M 2 c ht rad i)
      have zd : dist c i = a1 + a2 := by unfold dist; split <;> split <;> omega
      have zsl : slp c ht rad i = ht - (a1 + a2) * (ht / (rad + 1)) := by unfold slp; rw [zd]
      have zrd : hlM M 2 c ht rad i 2 i = M 2 i := by unfold hlM; rw [if_neg (by omega)]
      have zb := zp3 i (by omega) (by omega)
      have zdr := Int.ediv_nonneg (show 0 ≤ ht by omega) (show 0 ≤ rad + 1 by omega)
      have zdr2 := Int.ediv_le_self (rad + 1) (show 0 ≤ ht by omega)
      have zmu := mul_bd (a := a1 + a2) (b := ht / (rad + 1)) (A := 22) (B := 500) (by omega) (by omega)
      refine AW.go pk_X5_raise 25 25 rfl rfl ?_
      refine And.intro (show 7 < mL t_X5_raise from (by decide)) ?_
      refine And.intro (show 8 < mL t_X5_raise from (by decide)) ?_
      refine And.intro (show Inr (a1 + a2) ∧ Inr rad from ⟨⟨by omega, by omega⟩, ⟨by omega, by omega⟩⟩) (And.intro (fun zh2 => ?_) (fun zh2 => ?_))
      · replace zh2 : rad < a1 + a2 := zh2
        change AW ev false 2 t_X5_raise Q 89 [some (vR 1), some (vI c), some (vI ht), some (vI rad), some (vI (ht / (rad + 1))), some (vI s), some (vI i), some (vI (a1 + a2)), some (vI (ht - ((a1 + a2) * (ht / (rad + 1)))))] [] (hlM M 2 c ht rad i)
        refine AW.go pk_X5_raise 48 2 rfl rfl ?_
        refine And.intro (show 6 < mL t_X5_raise from (by decide)) ?_
        change AW ev false 2 t_X5_raise Q 21 [some (vR 1), some (vI c), some (vI ht), some (vI rad), some (vI (ht / (rad + 1))), some (vI s), some (vI (i + 1)), some (vI (a1 + a2)), some (vI (ht - ((a1 + a2) * (ht / (rad + 1)))))] [] (hlM M 2 c ht rad i)
        refine AW.sub [some (vR 1), some (vI c), some (vI ht), some (vI rad), some (vI (ht / (rad + 1))), some (vI s), some (vI (i + 1)), none, none] (by simp [lsub]) ?_
        exact AW.mem (show (hlM M 2 c ht rad i) = (hlM M 2 c ht rad (i + 1)) from by funext k j; simp only [upM, hlM]; grind) (zih (i + 1) s (by omega) (by omega) (fun r zr => zv1 r (by rw [zr]; conv => rhs; unfold hlC; rw [zd, zsl]; first | rw [if_pos (by omega)] | rw [if_neg (by omega)])))
      · replace zh2 : ¬ (rad < a1 + a2) := zh2
        refine And.intro (show (0 ≤ i ∧ i < 144) from (by omega)) ?_
        refine And.intro (show Inr ((hlM M 2 c ht rad i) 2 i) ∧ Inr (ht - ((a1 + a2) * (ht / (rad + 1)))) from ⟨⟨by omega, by omega⟩, ⟨by omega, by omega⟩⟩) (And.intro (fun zh3 => ?_) (fun zh3 => ?_))
        · replace zh3 : ht - ((a1 + a2) * (ht / (rad + 1))) ≤ (hlM M 2 c ht rad i) 2 i := zh3
          change AW ev false 2 t_X5_raise Q 89 [some (vR 1), some (vI c), some (vI ht), some (vI rad), some (vI (ht / (rad + 1))), some (vI s), some (vI i), some (vI (a1 + a2)), some (vI (ht - ((a1 + a2) * (ht / (rad + 1)))))] [] (hlM M 2 c ht rad i)
          refine AW.go pk_X5_raise 48 2 rfl rfl ?_
          refine And.intro (show 6 < mL t_X5_raise from (by decide)) ?_
          change AW ev false 2 t_X5_raise Q 21 [some (vR 1), some (vI c), some (vI ht), some (vI rad), some (vI (ht / (rad + 1))), some (vI s), some (vI (i + 1)), some (vI (a1 + a2)), some (vI (ht - ((a1 + a2) * (ht / (rad + 1)))))] [] (hlM M 2 c ht rad i)
          refine AW.sub [some (vR 1), some (vI c), some (vI ht), some (vI rad), some (vI (ht / (rad + 1))), some (vI s), some (vI (i + 1)), none, none] (by simp [lsub]) ?_
          exact AW.mem (show (hlM M 2 c ht rad i) = (hlM M 2 c ht rad (i + 1)) from by funext k j; simp only [upM, hlM]; grind) (zih (i + 1) s (by omega) (by omega) (fun r zr => zv1 r (by rw [zr]; conv => rhs; unfold hlC; rw [zd, zsl]; first | rw [if_pos (by omega)] | rw [if_neg (by omega)])))
        · replace zh3 : ¬ (ht - ((a1 + a2) * (ht / (rad + 1))) ≤ (hlM M 2 c ht rad i) 2 i) := zh3
          refine And.intro (show ((0 ≤ i ∧ i < 144) ∧ ((0 : Nat) = 0 ∨ ht - ((a1 + a2) * (ht / (rad + 1))) = 0 ∨ ht - ((a1 + a2) * (ht / (rad + 1))) = 1)) from ⟨by omega, Or.inl rfl⟩) ?_
          refine And.intro (show 5 < mL t_X5_raise from (by decide)) ?_
          refine And.intro (show 6 < mL t_X5_raise from (by decide)) ?_
          change AW ev false 2 t_X5_raise Q 21 [some (vR 1), some (vI c), some (vI ht), some (vI rad), some (vI (ht / (rad + 1))), some (vI (s + 1)), some (vI (i + 1)), some (vI (a1 + a2)), some (vI (ht - ((a1 + a2) * (ht / (rad + 1)))))] [] (upM (hlM M 2 c ht rad i) 2 i (ht - ((a1 + a2) * (ht / (rad + 1)))))
          refine AW.sub [some (vR 1), some (vI c), some (vI ht), some (vI rad), some (vI (ht / (rad + 1))), some (vI (s + 1)), some (vI (i + 1)), none, none] (by simp [lsub]) ?_
          exact AW.mem (show (upM (hlM M 2 c ht rad i) 2 i (ht - ((a1 + a2) * (ht / (rad + 1))))) = (hlM M 2 c ht rad (i + 1)) from by funext k j; simp only [upM, hlM]; grind) (zih (i + 1) (s + 1) (by omega) (by omega) (fun r zr => zv1 r (by rw [zr]; conv => rhs; unfold hlC; rw [zd, zsl]; first | rw [if_pos (by omega)] | rw [if_neg (by omega)])))
theorem c_X5_raise {ev : Ev} {Q : Out → Mem → Prop} {M : Mem}  (c : Int) (ht : Int) (rad : Int) (zp0 : 0 ≤ c ∧ c < 144) (zp1 : 1 ≤ ht ∧ ht ≤ 500) (zp2 : 0 ≤ rad ∧ rad ≤ 11) (zp3 : TInv M) (zQ : ∀ (r : Int), r = hlC (M 2) c ht rad 144 0 0 → Q (.inl (some (vI r))) (hlM M 2 c ht rad 144)) : AM ev false 2 t_X5_raise [vR 1, vI c, vI ht, vI rad] M Q := by
  refine AM.of mt_X5_raise (Nat.le_of_ble_eq_true rfl) ?_
  change AW ev false 2 t_X5_raise Q 0 [some (vR 1), some (vI c), some (vI ht), some (vI rad), none, none, none, none, none] [] M
  refine AW.go pk_X5_raise 0 8 rfl rfl ?_
  refine And.intro (show Inr rad from ⟨by omega, by omega⟩) (And.intro (fun zh1 => ?_) (fun zh1 => ?_))
  · replace zh1 : rad < (0 : Int) := zh1
    exfalso; omega
  · replace zh1 : ¬ (rad < (0 : Int)) := zh1
    refine And.intro (show ((0 ≤ ht ∧ ht < 2147483648) ∧ 0 < rad + 1 ∧ rad + 1 < 2147483648) from (by omega)) ?_
    change AW ev false 2 t_X5_raise Q 13 [some (vR 1), some (vI c), some (vI ht), some (vI rad), none, none, none, none, none] [vI (ht / (rad + 1))] M
    refine AW.go pk_X5_raise 9 5 rfl rfl ?_
    refine And.intro (show 4 < mL t_X5_raise from (by decide)) ?_
    refine And.intro (show 5 < mL t_X5_raise from (by decide)) ?_
    refine And.intro (show 6 < mL t_X5_raise from (by decide)) ?_
    change AW ev false 2 t_X5_raise Q 21 [some (vR 1), some (vI c), some (vI ht), some (vI rad), some (vI (ht / (rad + 1))), some (vI 0), some (vI 0), none, none] [] M
    exact AW.mem (show M = (hlM M 2 c ht rad 0) from by funext k j; simp only [hlM]; grind) (l_raise c ht rad zp0 zp1 zp2 zp3 144 0 0 (by omega) (by omega) zQ)
theorem l_greatest {ev : Ev} {Q : Out → Mem → Prop} {M : Mem}   (zp0 : TInv M)  : ∀ (n : Nat) (i : Int) (s : Int), i + n = 144 → (0 ≤ i) → (0 ≤ s ∧ s ≤ 500) → (∀ r : Int, r = grT (M 2) n i s → Q (.inl (some (vI r))) M) → AW ev false 1 t_X5_greatest Q 4 [some (vR 1), some (vI s), some (vI i)] [] M := by
  intro n
  induction n with
  | zero =>
    intro i s zn zv0 zv1 zv2
    refine AW.go pk_X5_greatest 4 9 rfl rfl ?_
    refine And.intro (show Inr i ∧ Inr 144 from ⟨⟨by omega, by omega⟩, ⟨by omega, by omega⟩⟩) (And.intro (fun zh1 => ?_) (fun zh1 => ?_))
    · replace zh1 : (144 : Int) ≤ i := zh1
      change AW ev false 1 t_X5_greatest Q 28 [some (vR 1), some (vI s), some (vI i)] [] M
      refine AW.go pk_X5_greatest 16 2 rfl rfl ?_
      refine And.intro rfl ?_
      exact zv2 _ rfl
    · replace zh1 : ¬ ((144 : Int) ≤ i) := zh1
      exfalso; omega
  | succ n zih =>
    intro i s zn zv0 zv1 zv2
    refine AW.go pk_X5_greatest 4 9 rfl rfl ?_
    refine And.intro (show Inr i ∧ Inr 144 from ⟨⟨by omega, by omega⟩, ⟨by omega, by omega⟩⟩) (And.intro (fun zh1 => ?_) (fun zh1 => ?_))
    · replace zh1 : (144 : Int) ≤ i := zh1
      exfalso; omega
    · replace zh1 : ¬ ((144 : Int) ≤ i) := zh1
      refine And.intro (show (0 ≤ i ∧ i < 144) from (by omega)) ?_
      have zf2 := zp0 i (by omega) (by omega)
      change AW ev false 1 t_X5_greatest Q 18 [some (vR 1), some (vI s), some (vI i)] [vI (M 2 i), vI s] M
      refine AW.mmax (bm 404 _ (by decide +kernel) (by decide +kernel)) (okP_d pk_X5_greatest 12 18 (.invokestatic 27) 3 rfl) (by decide) (Nat.le_of_ble_eq_true rfl) ⟨by omega, by omega⟩ ⟨by omega, by omega⟩ (fun w1 zw1 => ?_)
      change AW ev false 1 t_X5_greatest Q 21 [some (vR 1), some (vI s), some (vI i)] [vI w1] M
      refine AW.go pk_X5_greatest 13 3 rfl rfl ?_
      refine And.intro (show 1 < mL t_X5_greatest from (by decide)) ?_
      refine And.intro (show 2 < mL t_X5_greatest from (by decide)) ?_
      change AW ev false 1 t_X5_greatest Q 4 [some (vR 1), some (vI w1), some (vI (i + 1))] [] M
      exact zih (i + 1) w1 (by omega) (by omega) (by omega) (fun r zr => zv2 r (by rw [zr]; conv => rhs; unfold grT; rw [show (if s < M 2 i then M 2 i else s) = w1 from by split <;> omega]))
theorem c_X5_greatest {ev : Ev} {Q : Out → Mem → Prop} {M : Mem}   (zp0 : TInv M) (zQ : ∀ (r : Int), r = grT (M 2) 144 0 0 → Q (.inl (some (vI r))) M) : AM ev false 1 t_X5_greatest [vR 1] M Q := by
  refine AM.of mt_X5_greatest (Nat.le_of_ble_eq_true rfl) ?_
  change AW ev false 1 t_X5_greatest Q 0 [some (vR 1), none, none] [] M
  refine AW.go pk_X5_greatest 0 4 rfl rfl ?_
  refine And.intro (show 1 < mL t_X5_greatest from (by decide)) ?_
  refine And.intro (show 2 < mL t_X5_greatest from (by decide)) ?_
  change AW ev false 1 t_X5_greatest Q 4 [some (vR 1), some (vI 0), some (vI 0)] [] M
  exact l_greatest zp0 144 0 0 (by omega) (by omega) (by omega) zQ
theorem lz_sum {ev : Ev} {Q : Out → Mem → Prop} {M : Mem}   (zp0 : TInv M)  : ∀ (n : Nat) (i : Int) (s : Int), i + n = 144 → (0 ≤ i) → (∀ r : Int, r = smT (M 2) n i s → Q (.inl (some (vI r))) M) → AW ev false 0 t_X5_sum Q 4 [some (vR 1), some (vI s), some (vI i)] [] M := by
  intro n
  induction n with
  | zero =>
    intro i s zn zv0 zv1
    refine AW.go pk_X5_sum 4 12 rfl rfl ?_
    refine And.intro (show Inr i ∧ Inr 144 from ⟨⟨by omega, by omega⟩, ⟨by omega, by omega⟩⟩) (And.intro (fun zh1 => ?_) (fun zh1 => ?_))
    · replace zh1 : (144 : Int) ≤ i := zh1
      change AW ev false 0 t_X5_sum Q 26 [some (vR 1), some (vI s), some (vI i)] [] M
      refine AW.go pk_X5_sum 16 2 rfl rfl ?_
      refine And.intro rfl ?_
      exact zv1 _ rfl
    · replace zh1 : ¬ ((144 : Int) ≤ i) := zh1
      exfalso; omega
  | succ n zih =>
    intro i s zn zv0 zv1
    refine AW.go pk_X5_sum 4 12 rfl rfl ?_
    refine And.intro (show Inr i ∧ Inr 144 from ⟨⟨by omega, by omega⟩, ⟨by omega, by omega⟩⟩) (And.intro (fun zh1 => ?_) (fun zh1 => ?_))
    · replace zh1 : (144 : Int) ≤ i := zh1
      exfalso; omega
    · replace zh1 : ¬ ((144 : Int) ≤ i) := zh1
      refine And.intro (show (0 ≤ i ∧ i < 144) from (by omega)) ?_
      refine And.intro (show 1 < mL t_X5_sum from (by decide)) ?_
      refine And.intro (show 2 < mL t_X5_sum from (by decide)) ?_
      change AW ev false 0 t_X5_sum Q 4 [some (vR 1), some (vI (s + (M 2 i))), some (vI (i + 1))] [] M
      exact zih (i + 1) (s + (M 2 i)) (by omega) (by omega) (fun r zr => zv1 r zr)
theorem c_X5_sum {ev : Ev} {Q : Out → Mem → Prop} {M : Mem}   (zp0 : TInv M) (zQ : ∀ (r : Int), r = smT (M 2) 144 0 0 → Q (.inl (some (vI r))) M) : AM ev false 0 t_X5_sum [vR 1] M Q := by
  refine AM.of mt_X5_sum (Nat.le_of_ble_eq_true rfl) ?_
  change AW ev false 0 t_X5_sum Q 0 [some (vR 1), none, none] [] M
  refine AW.go pk_X5_sum 0 4 rfl rfl ?_
  refine And.intro (show 1 < mL t_X5_sum from (by decide)) ?_
  refine And.intro (show 2 < mL t_X5_sum from (by decide)) ?_
  change AW ev false 0 t_X5_sum Q 4 [some (vR 1), some (vI 0), some (vI 0)] [] M
  exact lz_sum zp0 144 0 0 (by omega) (by omega) zQ
