theorem c_X5_isCell {ev : Ev} {Q : Out → Mem → Prop} {M : Mem}  (c : Int) (h0 : -2147483648 ≤ c ∧ c < 2147483648) (hQ : ∀ (r : Int), (r = 0 ∨ r = 1) ∧ (r = 1 ↔ 0 ≤ c ∧ c < 144) → Q (.inl (some (vI r))) M) : AM ev false 0 t_X5_isCell [vI c] M Q := by
  refine AM.of mt_X5_isCell (Nat.le_of_ble_eq_true rfl) ?_
  change AW ev false 0 t_X5_isCell Q 0 [some (vI c)] [] M
  refine AW.go pk_X5_isCell 0 7 rfl rfl ?_
  refine And.intro (show Inr c from ⟨by omega, by omega⟩) (And.intro (fun h_1 => ?_) (fun h_1 => ?_))
  · replace h_1 : c < (0 : Int) := h_1
    change AW ev false 0 t_X5_isCell Q 15 [some (vI c)] [] M
    refine AW.go pk_X5_isCell 7 2 rfl rfl ?_
    refine And.intro rfl ?_
    refine And.intro (show ((0 : Int) = 0 ∨ (0 : Int) = 1) from (by omega)) ?_
    exact hQ 0 (by first | rfl | omega)
  · replace h_1 : ¬ (c < (0 : Int)) := h_1
    refine And.intro (show Inr c ∧ Inr 144 from ⟨⟨by omega, by omega⟩, ⟨by omega, by omega⟩⟩) (And.intro (fun h_2 => ?_) (fun h_2 => ?_))
    · replace h_2 : (144 : Int) ≤ c := h_2
      change AW ev false 0 t_X5_isCell Q 15 [some (vI c)] [] M
      refine AW.go pk_X5_isCell 7 2 rfl rfl ?_
      refine And.intro rfl ?_
      refine And.intro (show ((0 : Int) = 0 ∨ (0 : Int) = 1) from (by omega)) ?_
      exact hQ 0 (by first | rfl | omega)
    · replace h_2 : ¬ ((144 : Int) ≤ c) := h_2
      change AW ev false 0 t_X5_isCell Q 16 [some (vI c)] [vI 1] M
      refine AW.go pk_X5_isCell 8 1 rfl rfl ?_
      refine And.intro rfl ?_
      refine And.intro (show ((1 : Int) = 0 ∨ (1 : Int) = 1) from (by omega)) ?_
      exact hQ 1 (by first | rfl | omega)
theorem c_X5_columnOf {ev : Ev} {Q : Out → Mem → Prop} {M : Mem}  (c : Int) (h0 : 0 ≤ c ∧ c < 144) (hQ : ∀ (r : Int), r = c % 12 → Q (.inl (some (vI r))) M) : AM ev false 0 t_X5_columnOf [vI c] M Q := by
  refine AM.of mt_X5_columnOf (Nat.le_of_ble_eq_true rfl) ?_
  change AW ev false 0 t_X5_columnOf Q 0 [some (vI c)] [] M
  refine AW.go pk_X5_columnOf 0 4 rfl rfl ?_
  refine And.intro (show ((0 ≤ c ∧ c < 2147483648) ∧ 0 < (12 : Int) ∧ (12 : Int) < 2147483648) from (by omega)) ?_
  refine And.intro rfl ?_
  exact hQ (c % 12) (by first | rfl | omega)
theorem c_X5_rowOf {ev : Ev} {Q : Out → Mem → Prop} {M : Mem}  (c : Int) (h0 : 0 ≤ c ∧ c < 144) (hQ : ∀ (r : Int), r = c / 12 → Q (.inl (some (vI r))) M) : AM ev false 0 t_X5_rowOf [vI c] M Q := by
  refine AM.of mt_X5_rowOf (Nat.le_of_ble_eq_true rfl) ?_
  change AW ev false 0 t_X5_rowOf Q 0 [some (vI c)] [] M
  refine AW.go pk_X5_rowOf 0 4 rfl rfl ?_
  refine And.intro (show ((0 ≤ c ∧ c < 2147483648) ∧ 0 < (12 : Int) ∧ (12 : Int) < 2147483648) from (by omega)) ?_
  refine And.intro rfl ?_
  exact hQ (c / 12) (by first | rfl | omega)
theorem c_X5_eastward {ev : Ev} {Q : Out → Mem → Prop} {M : Mem}  (a : Int) (b : Int) (h0 : 0 ≤ a ∧ a < 144) (h1 : 0 ≤ b ∧ b < 144) (hQ : ∀ (r : Int), r = b % 12 - a % 12 → Q (.inl (some (vI r))) M) : AM ev false 1 t_X5_eastward [vI a, vI b] M Q := by
  refine AM.of mt_X5_eastward (Nat.le_of_ble_eq_true rfl) ?_
  change AW ev false 1 t_X5_eastward Q 0 [some (vI a), some (vI b)] [] M
  refine AW.go pk_X5_eastward 0 2 rfl rfl ?_
  change AW ev false 1 t_X5_eastward Q 1 [some (vI a), some (vI b)] [vI b] M
  refine AW.callS (d' := 0) [vI b] [] sm_X5_columnOf hX5_15 (okP_d pk_X5_eastward 1 1 (.invokestatic 15) 3 rfl) (by decide) rfl (Nat.le_of_ble_eq_true rfl) ?_
  refine c_X5_columnOf b (by omega) (fun r1 hr1 => ?_)
  change AW ev false 1 t_X5_eastward Q 4 [some (vI a), some (vI b)] [vI r1] M
  refine AW.go pk_X5_eastward 2 2 rfl rfl ?_
  change AW ev false 1 t_X5_eastward Q 5 [some (vI a), some (vI b)] [vI a, vI r1] M
  refine AW.callS (d' := 0) [vI a] [vI r1] sm_X5_columnOf hX5_15 (okP_d pk_X5_eastward 3 5 (.invokestatic 15) 3 rfl) (by decide) rfl (Nat.le_of_ble_eq_true rfl) ?_
  refine c_X5_columnOf a (by omega) (fun r2 hr2 => ?_)
  change AW ev false 1 t_X5_eastward Q 8 [some (vI a), some (vI b)] [vI r2, vI r1] M
  refine AW.go pk_X5_eastward 4 2 rfl rfl ?_
  refine And.intro rfl ?_
  exact hQ (r1 - r2) (by first | rfl | omega)
theorem c_X5_southward {ev : Ev} {Q : Out → Mem → Prop} {M : Mem}  (a : Int) (b : Int) (h0 : 0 ≤ a ∧ a < 144) (h1 : 0 ≤ b ∧ b < 144) (hQ : ∀ (r : Int), r = b / 12 - a / 12 → Q (.inl (some (vI r))) M) : AM ev false 1 t_X5_southward [vI a, vI b] M Q := by
  refine AM.of mt_X5_southward (Nat.le_of_ble_eq_true rfl) ?_
  change AW ev false 1 t_X5_southward Q 0 [some (vI a), some (vI b)] [] M
  refine AW.go pk_X5_southward 0 2 rfl rfl ?_
  change AW ev false 1 t_X5_southward Q 1 [some (vI a), some (vI b)] [vI b] M
  refine AW.callS (d' := 0) [vI b] [] sm_X5_rowOf hX5_19 (okP_d pk_X5_southward 1 1 (.invokestatic 19) 3 rfl) (by decide) rfl (Nat.le_of_ble_eq_true rfl) ?_
  refine c_X5_rowOf b (by omega) (fun r1 hr1 => ?_)
  change AW ev false 1 t_X5_southward Q 4 [some (vI a), some (vI b)] [vI r1] M
  refine AW.go pk_X5_southward 2 2 rfl rfl ?_
  change AW ev false 1 t_X5_southward Q 5 [some (vI a), some (vI b)] [vI a, vI r1] M
  refine AW.callS (d' := 0) [vI a] [vI r1] sm_X5_rowOf hX5_19 (okP_d pk_X5_southward 3 5 (.invokestatic 19) 3 rfl) (by decide) rfl (Nat.le_of_ble_eq_true rfl) ?_
  refine c_X5_rowOf a (by omega) (fun r2 hr2 => ?_)
  change AW ev false 1 t_X5_southward Q 8 [some (vI a), some (vI b)] [vI r2, vI r1] M
  refine AW.go pk_X5_southward 4 2 rfl rfl ?_
  refine And.intro rfl ?_
  exact hQ (r1 - r2) (by first | rfl | omega)
theorem c_X5_reach {ev : Ev} {Q : Out → Mem → Prop} {M : Mem}  (a : Int) (b : Int) (h0 : -11 ≤ a ∧ a ≤ 11) (h1 : -11 ≤ b ∧ b ≤ 11) (hQ : ∀ (r : Int), (a ≤ r ∧ -a ≤ r ∧ b ≤ r ∧ -b ≤ r) ∧ (r = a ∨ r = -a ∨ r = b ∨ r = -b) → Q (.inl (some (vI r))) M) : AM ev false 1 t_X5_reach [vI a, vI b] M Q := by
  refine AM.of mt_X5_reach (Nat.le_of_ble_eq_true rfl) ?_
  change AW ev false 1 t_X5_reach Q 0 [some (vI a), some (vI b)] [] M
  refine AW.go pk_X5_reach 0 2 rfl rfl ?_
  change AW ev false 1 t_X5_reach Q 1 [some (vI a), some (vI b)] [vI a] M
  refine AW.mabs (bm 403 _ (by decide +kernel) (by decide +kernel)) (okP_d pk_X5_reach 1 1 (.invokestatic 22) 3 rfl) (by decide) (Nat.le_of_ble_eq_true rfl) (by omega) (fun r1 hr1 => ?_)
  change AW ev false 1 t_X5_reach Q 4 [some (vI a), some (vI b)] [vI r1] M
  refine AW.go pk_X5_reach 2 2 rfl rfl ?_
  change AW ev false 1 t_X5_reach Q 5 [some (vI a), some (vI b)] [vI b, vI r1] M
  refine AW.mabs (bm 403 _ (by decide +kernel) (by decide +kernel)) (okP_d pk_X5_reach 3 5 (.invokestatic 22) 3 rfl) (by decide) (Nat.le_of_ble_eq_true rfl) (by omega) (fun r2 hr2 => ?_)
  change AW ev false 1 t_X5_reach Q 8 [some (vI a), some (vI b)] [vI r2, vI r1] M
  refine AW.mmax (bm 404 _ (by decide +kernel) (by decide +kernel)) (okP_d pk_X5_reach 4 8 (.invokestatic 27) 3 rfl) (by decide) (Nat.le_of_ble_eq_true rfl) ⟨by omega, by omega⟩ ⟨by omega, by omega⟩ (fun r3 hr3 => ?_)
  change AW ev false 1 t_X5_reach Q 11 [some (vI a), some (vI b)] [vI r3] M
  refine AW.go pk_X5_reach 5 1 rfl rfl ?_
  refine And.intro rfl ?_
  exact hQ r3 (by first | rfl | omega)
theorem c_X5_roundedQuotient {ev : Ev} {Q : Out → Mem → Prop} {M : Mem}  (v : Int) (m : Int) (h0 : -1000 ≤ v ∧ v ≤ 1000) (h1 : 1 ≤ m ∧ m ≤ 1000) (hQ : ∀ (r : Int), r = rq v m → Q (.inl (some (vI r))) M) : AM ev false 0 t_X5_roundedQuotient [vI v, vI m] M Q := by
  refine AM.of mt_X5_roundedQuotient (Nat.le_of_ble_eq_true rfl) ?_
  change AW ev false 0 t_X5_roundedQuotient Q 0 [some (vI v), some (vI m), none, none] [] M
  refine AW.go pk_X5_roundedQuotient 0 4 rfl rfl ?_
  refine And.intro (show Inr m from ⟨by omega, by omega⟩) (And.intro (fun h_1 => ?_) (fun h_1 => ?_))
  · replace h_1 : (0 : Int) < m := h_1
    change AW ev false 0 t_X5_roundedQuotient Q 6 [some (vI v), some (vI m), none, none] [] M
    refine AW.go pk_X5_roundedQuotient 4 5 rfl rfl ?_
    refine And.intro (show Inr v from ⟨by omega, by omega⟩) (And.intro (fun h_2 => ?_) (fun h_2 => ?_))
    · replace h_2 : (0 : Int) ≤ v := h_2
      change AW ev false 0 t_X5_roundedQuotient Q 15 [some (vI v), some (vI m), none, none] [] M
      refine AW.go pk_X5_roundedQuotient 9 17 rfl rfl ?_
      refine And.intro (show 2 < mL t_X5_roundedQuotient from (by decide)) ?_
      refine And.intro (show ((0 ≤ (2 * v) + m ∧ (2 * v) + m < 2147483648) ∧ 0 < 2 * m ∧ 2 * m < 2147483648) from (by omega)) ?_
      refine And.intro (show 3 < mL t_X5_roundedQuotient from (by decide)) ?_
      refine And.intro (show Inr v from ⟨by omega, by omega⟩) (And.intro (fun h_3 => ?_) (fun h_3 => ?_))
      · replace h_3 : (0 : Int) ≤ v := h_3
        change AW ev false 0 t_X5_roundedQuotient Q 36 [some (vI v), some (vI m), some (vI v), some (vI (((2 * v) + m) / (2 * m)))] [] M
        refine AW.go pk_X5_roundedQuotient 26 2 rfl rfl ?_
        refine And.intro rfl ?_
        exact hQ (((2 * v) + m) / (2 * m)) (by first | rfl | (unfold rq; first | rw [if_pos (by omega)] | rw [if_neg (by omega)]))
      · replace h_3 : ¬ ((0 : Int) ≤ v) := h_3
        change AW ev false 0 t_X5_roundedQuotient Q 37 [some (vI v), some (vI m), some (vI v), some (vI (((2 * v) + m) / (2 * m)))] [vI (-(((2 * v) + m) / (2 * m)))] M
        refine AW.go pk_X5_roundedQuotient 27 1 rfl rfl ?_
        refine And.intro rfl ?_
        exact hQ (-(((2 * v) + m) / (2 * m))) (by first | rfl | (unfold rq; first | rw [if_pos (by omega)] | rw [if_neg (by omega)]))
    · replace h_2 : ¬ ((0 : Int) ≤ v) := h_2
      change AW ev false 0 t_X5_roundedQuotient Q 16 [some (vI v), some (vI m), none, none] [vI (-v)] M
      refine AW.go pk_X5_roundedQuotient 10 16 rfl rfl ?_
      refine And.intro (show 2 < mL t_X5_roundedQuotient from (by decide)) ?_
      refine And.intro (show ((0 ≤ (2 * (-v)) + m ∧ (2 * (-v)) + m < 2147483648) ∧ 0 < 2 * m ∧ 2 * m < 2147483648) from (by omega)) ?_
      refine And.intro (show 3 < mL t_X5_roundedQuotient from (by decide)) ?_
      refine And.intro (show Inr v from ⟨by omega, by omega⟩) (And.intro (fun h_4 => ?_) (fun h_4 => ?_))
      · replace h_4 : (0 : Int) ≤ v := h_4
        change AW ev false 0 t_X5_roundedQuotient Q 36 [some (vI v), some (vI m), some (vI (-v)), some (vI (((2 * (-v)) + m) / (2 * m)))] [] M
        refine AW.go pk_X5_roundedQuotient 26 2 rfl rfl ?_
        refine And.intro rfl ?_
        exact hQ (((2 * (-v)) + m) / (2 * m)) (by first | rfl | (unfold rq; first | rw [if_pos (by omega)] | rw [if_neg (by omega)]))
      · replace h_4 : ¬ ((0 : Int) ≤ v) := h_4
        change AW ev false 0 t_X5_roundedQuotient Q 37 [some (vI v), some (vI m), some (vI (-v)), some (vI (((2 * (-v)) + m) / (2 * m)))] [vI (-(((2 * (-v)) + m) / (2 * m)))] M
        refine AW.go pk_X5_roundedQuotient 27 1 rfl rfl ?_
        refine And.intro rfl ?_
        exact hQ (-(((2 * (-v)) + m) / (2 * m))) (by first | rfl | (unfold rq; first | rw [if_pos (by omega)] | rw [if_neg (by omega)]))
  · replace h_1 : ¬ ((0 : Int) < m) := h_1
    exfalso; omega
theorem c_X5_heightOf {ev : Ev} {Q : Out → Mem → Prop} {M : Mem}  (c : Int) (h0 : 0 ≤ c ∧ c < 144) (hQ : ∀ (r : Int), r = M 2 c → Q (.inl (some (vI r))) M) : AM ev false 1 t_X5_heightOf [vR 1, vI c] M Q := by
  refine AM.of mt_X5_heightOf (Nat.le_of_ble_eq_true rfl) ?_
  change AW ev false 1 t_X5_heightOf Q 0 [some (vR 1), some (vI c)] [] M
  refine AW.go pk_X5_heightOf 0 2 rfl rfl ?_
  change AW ev false 1 t_X5_heightOf Q 1 [some (vR 1), some (vI c)] [vI c] M
  refine AW.callS (d' := 0) [vI c] [] sm_X5_isCell hX5_37 (okP_d pk_X5_heightOf 1 1 (.invokestatic 37) 3 rfl) (by decide) rfl (Nat.le_of_ble_eq_true rfl) ?_
  refine c_X5_isCell c (by omega) (fun r1 hr1 => ?_)
  change AW ev false 1 t_X5_heightOf Q 4 [some (vR 1), some (vI c)] [vI r1] M
  refine AW.go pk_X5_heightOf 2 6 rfl rfl ?_
  refine And.intro (show Inr r1 from ⟨by omega, by omega⟩) (And.intro (fun h_2 => ?_) (fun h_2 => ?_))
  · replace h_2 : r1 = (0 : Int) := h_2
    exfalso; omega
  · replace h_2 : ¬ (r1 = (0 : Int)) := h_2
    refine And.intro (show (0 ≤ c ∧ c < 144) from (by omega)) ?_
    change AW ev false 1 t_X5_heightOf Q 17 [some (vR 1), some (vI c)] [vI (M 2 c)] M
    refine AW.go pk_X5_heightOf 9 1 rfl rfl ?_
    refine And.intro rfl ?_
    exact hQ (M 2 c) (by first | rfl | omega)
theorem c_X5_heightOf_none {ev : Ev} {Q : Out → Mem → Prop} {M : Mem}  (c : Int) (h0 : c = -1) (hQ : ∀ (r : Int), r = 0 → Q (.inl (some (vI r))) M) : AM ev false 1 t_X5_heightOf [vR 1, vI c] M Q := by
  refine AM.of mt_X5_heightOf (Nat.le_of_ble_eq_true rfl) ?_
  change AW ev false 1 t_X5_heightOf Q 0 [some (vR 1), some (vI c)] [] M
  refine AW.go pk_X5_heightOf 0 2 rfl rfl ?_
  change AW ev false 1 t_X5_heightOf Q 1 [some (vR 1), some (vI c)] [vI c] M
  refine AW.callS (d' := 0) [vI c] [] sm_X5_isCell hX5_37 (okP_d pk_X5_heightOf 1 1 (.invokestatic 37) 3 rfl) (by decide) rfl (Nat.le_of_ble_eq_true rfl) ?_
  refine c_X5_isCell c (by omega) (fun r1 hr1 => ?_)
  change AW ev false 1 t_X5_heightOf Q 4 [some (vR 1), some (vI c)] [vI r1] M
  refine AW.go pk_X5_heightOf 2 6 rfl rfl ?_
  refine And.intro (show Inr r1 from ⟨by omega, by omega⟩) (And.intro (fun h_2 => ?_) (fun h_2 => ?_))
  · replace h_2 : r1 = (0 : Int) := h_2
    change AW ev false 1 t_X5_heightOf Q 16 [some (vR 1), some (vI c)] [] M
    refine AW.go pk_X5_heightOf 8 2 rfl rfl ?_
    refine And.intro rfl ?_
    exact hQ 0 (by first | rfl | omega)
  · replace h_2 : ¬ (r1 = (0 : Int)) := h_2
    exfalso; omega
theorem c_X5_change {ev : Ev} {Q : Out → Mem → Prop} {M : Mem}  (c : Int) (v : Int) (h0 : 0 ≤ c ∧ c < 144) (hQ : Q (.inl none) (upM M 2 c v)) : AM ev false 1 t_X5_change [vR 1, vI c, vI v] M Q := by
  refine AM.of mt_X5_change (Nat.le_of_ble_eq_true rfl) ?_
  change AW ev false 1 t_X5_change Q 0 [some (vR 1), some (vI c), some (vI v)] [] M
  refine AW.go pk_X5_change 0 2 rfl rfl ?_
  change AW ev false 1 t_X5_change Q 1 [some (vR 1), some (vI c), some (vI v)] [vI c] M
  refine AW.callS (d' := 0) [vI c] [] sm_X5_isCell hX5_37 (okP_d pk_X5_change 1 1 (.invokestatic 37) 3 rfl) (by decide) rfl (Nat.le_of_ble_eq_true rfl) ?_
  refine c_X5_isCell c (by omega) (fun r1 hr1 => ?_)
  change AW ev false 1 t_X5_change Q 4 [some (vR 1), some (vI c), some (vI v)] [vI r1] M
  refine AW.go pk_X5_change 2 7 rfl rfl ?_
  refine And.intro (show Inr r1 from ⟨by omega, by omega⟩) (And.intro (fun h_2 => ?_) (fun h_2 => ?_))
  · replace h_2 : r1 = (0 : Int) := h_2
    exfalso; omega
  · replace h_2 : ¬ (r1 = (0 : Int)) := h_2
    refine And.intro (show ((0 ≤ c ∧ c < 144) ∧ ((0 : Nat) = 0 ∨ v = 0 ∨ v = 1)) from ⟨by omega, Or.inl rfl⟩) ?_
    refine And.intro rfl ?_
    exact hQ
theorem l_fill2 {ev : Ev} {Q : Out → Mem → Prop} {M : Mem}  (v : Int)  (hQ : Q (.inl none) (fillM M 2 144 v)) : ∀ (n : Nat) (i : Int), i + n = 144 → (0 ≤ i) → AW ev false 0 t_J7_fill_53178 Q 5 [some (vR 2), some (vI v), some (vI i), some (vI 144)] [] (fillM M 2 i v) := by
  intro n
  induction n with
  | zero =>
    intro i hn v0
    refine AW.go pk_J7_fill_53178 5 9 rfl rfl ?_
    refine And.intro (show Inr i ∧ Inr 144 from ⟨⟨by omega, by omega⟩, ⟨by omega, by omega⟩⟩) (And.intro (fun h_1 => ?_) (fun h_1 => ?_))
    · replace h_1 : (144 : Int) ≤ i := h_1
      change AW ev false 0 t_J7_fill_53178 Q 20 [some (vR 2), some (vI v), some (vI i), some (vI 144)] [] (fillM M 2 i v)
      refine AW.go pk_J7_fill_53178 14 1 rfl rfl ?_
      refine And.intro rfl ?_
      exact Eq.mpr (congrArg (Q _) (show (fillM M 2 i v) = (fillM M 2 144 v) from by rfl)) (hQ)
    · replace h_1 : ¬ ((144 : Int) ≤ i) := h_1
      exfalso; omega
  | succ n ih =>
    intro i hn v0
    refine AW.go pk_J7_fill_53178 5 9 rfl rfl ?_
    refine And.intro (show Inr i ∧ Inr 144 from ⟨⟨by omega, by omega⟩, ⟨by omega, by omega⟩⟩) (And.intro (fun h_1 => ?_) (fun h_1 => ?_))
    · replace h_1 : (144 : Int) ≤ i := h_1
      exfalso; omega
    · replace h_1 : ¬ ((144 : Int) ≤ i) := h_1
      refine And.intro (show ((0 ≤ i ∧ i < 144) ∧ ((0 : Nat) = 0 ∨ v = 0 ∨ v = 1)) from ⟨by omega, Or.inl rfl⟩) ?_
      refine And.intro (show 2 < mL t_J7_fill_53178 from (by decide)) ?_
      change AW ev false 0 t_J7_fill_53178 Q 5 [some (vR 2), some (vI v), some (vI (i + 1)), some (vI 144)] [] (upM (fillM M 2 i v) 2 i v)
      exact AW.mem (show (upM (fillM M 2 i v) 2 i v) = (fillM M 2 (i + 1) v) from by funext k j; simp only [upM, fillM]; grind) (ih (i + 1) (by omega) (by omega))
theorem c_fill2 {ev : Ev} {Q : Out → Mem → Prop} {M : Mem}  (v : Int)  (hQ : Q (.inl none) (fillM M 2 144 v)) : AM ev false 0 t_J7_fill_53178 [vR 2, vI v] M Q := by
  refine AM.of mt_J7_fill_53178 (Nat.le_of_ble_eq_true rfl) ?_
  change AW ev false 0 t_J7_fill_53178 Q 0 [some (vR 2), some (vI v), none, none] [] M
  refine AW.go pk_J7_fill_53178 0 5 rfl rfl ?_
  refine And.intro (show 2 < mL t_J7_fill_53178 from (by decide)) ?_
  refine And.intro (show 3 < mL t_J7_fill_53178 from (by decide)) ?_
  change AW ev false 0 t_J7_fill_53178 Q 5 [some (vR 2), some (vI v), some (vI 0), some (vI 144)] [] M
  exact AW.mem (show M = (fillM M 2 0 v) from by funext k j; simp only [fillM]; grind) (l_fill2 v hQ 144 0 (by omega) (by omega))
theorem l_fill21 {ev : Ev} {Q : Out → Mem → Prop} {M : Mem}  (v : Int)  (hQ : Q (.inl none) (fillM M 21 576 v)) : ∀ (n : Nat) (i : Int), i + n = 576 → (0 ≤ i) → AW ev false 0 t_J7_fill_53178 Q 5 [some (vR 21), some (vI v), some (vI i), some (vI 576)] [] (fillM M 21 i v) := by
  intro n
  induction n with
  | zero =>
    intro i hn v0
    refine AW.go pk_J7_fill_53178 5 9 rfl rfl ?_
    refine And.intro (show Inr i ∧ Inr 576 from ⟨⟨by omega, by omega⟩, ⟨by omega, by omega⟩⟩) (And.intro (fun h_1 => ?_) (fun h_1 => ?_))
    · replace h_1 : (576 : Int) ≤ i := h_1
      change AW ev false 0 t_J7_fill_53178 Q 20 [some (vR 21), some (vI v), some (vI i), some (vI 576)] [] (fillM M 21 i v)
      refine AW.go pk_J7_fill_53178 14 1 rfl rfl ?_
      refine And.intro rfl ?_
      exact Eq.mpr (congrArg (Q _) (show (fillM M 21 i v) = (fillM M 21 576 v) from by rfl)) (hQ)
    · replace h_1 : ¬ ((576 : Int) ≤ i) := h_1
      exfalso; omega
  | succ n ih =>
    intro i hn v0
    refine AW.go pk_J7_fill_53178 5 9 rfl rfl ?_
    refine And.intro (show Inr i ∧ Inr 576 from ⟨⟨by omega, by omega⟩, ⟨by omega, by omega⟩⟩) (And.intro (fun h_1 => ?_) (fun h_1 => ?_))
    · replace h_1 : (576 : Int) ≤ i := h_1
      exfalso; omega
    · replace h_1 : ¬ ((576 : Int) ≤ i) := h_1
      refine And.intro (show ((0 ≤ i ∧ i < 576) ∧ ((0 : Nat) = 0 ∨ v = 0 ∨ v = 1)) from ⟨by omega, Or.inl rfl⟩) ?_
      refine And.intro (show 2 < mL t_J7_fill_53178 from (by decide)) ?_
      change AW ev false 0 t_J7_fill_53178 Q 5 [some (vR 21), some (vI v), some (vI (i + 1)), some (vI 576)] [] (upM (fillM M 21 i v) 21 i v)
      exact AW.mem (show (upM (fillM M 21 i v) 21 i v) = (fillM M 21 (i + 1) v) from by funext k j; simp only [upM, fillM]; grind) (ih (i + 1) (by omega) (by omega))
theorem c_fill21 {ev : Ev} {Q : Out → Mem → Prop} {M : Mem}  (v : Int)  (hQ : Q (.inl none) (fillM M 21 576 v)) : AM ev false 0 t_J7_fill_53178 [vR 21, vI v] M Q := by
  refine AM.of mt_J7_fill_53178 (Nat.le_of_ble_eq_true rfl) ?_
  change AW ev false 0 t_J7_fill_53178 Q 0 [some (vR 21), some (vI v), none, none] [] M
  refine AW.go pk_J7_fill_53178 0 5 rfl rfl ?_
  refine And.intro (show 2 < mL t_J7_fill_53178 from (by decide)) ?_
  refine And.intro (show 3 < mL t_J7_fill_53178 from (by decide)) ?_
  change AW ev false 0 t_J7_fill_53178 Q 5 [some (vR 21), some (vI v), some (vI 0), some (vI 576)] [] M
  exact AW.mem (show M = (fillM M 21 0 v) from by funext k j; simp only [fillM]; grind) (l_fill21 v hQ 576 0 (by omega) (by omega))
theorem l_fill24 {ev : Ev} {Q : Out → Mem → Prop} {M : Mem}  (v : Int)  (hQ : Q (.inl none) (fillM M 24 8 v)) : ∀ (n : Nat) (i : Int), i + n = 8 → (0 ≤ i) → AW ev false 0 t_J7_fill_53178 Q 5 [some (vR 24), some (vI v), some (vI i), some (vI 8)] [] (fillM M 24 i v) := by
  intro n
  induction n with
  | zero =>
    intro i hn v0
    refine AW.go pk_J7_fill_53178 5 9 rfl rfl ?_
    refine And.intro (show Inr i ∧ Inr 8 from ⟨⟨by omega, by omega⟩, ⟨by omega, by omega⟩⟩) (And.intro (fun h_1 => ?_) (fun h_1 => ?_))
    · replace h_1 : (8 : Int) ≤ i := h_1
      change AW ev false 0 t_J7_fill_53178 Q 20 [some (vR 24), some (vI v), some (vI i), some (vI 8)] [] (fillM M 24 i v)
      refine AW.go pk_J7_fill_53178 14 1 rfl rfl ?_
      refine And.intro rfl ?_
      exact Eq.mpr (congrArg (Q _) (show (fillM M 24 i v) = (fillM M 24 8 v) from by rfl)) (hQ)
    · replace h_1 : ¬ ((8 : Int) ≤ i) := h_1
      exfalso; omega
  | succ n ih =>
    intro i hn v0
    refine AW.go pk_J7_fill_53178 5 9 rfl rfl ?_
    refine And.intro (show Inr i ∧ Inr 8 from ⟨⟨by omega, by omega⟩, ⟨by omega, by omega⟩⟩) (And.intro (fun h_1 => ?_) (fun h_1 => ?_))
    · replace h_1 : (8 : Int) ≤ i := h_1
      exfalso; omega
    · replace h_1 : ¬ ((8 : Int) ≤ i) := h_1
      refine And.intro (show ((0 ≤ i ∧ i < 8) ∧ ((0 : Nat) = 0 ∨ v = 0 ∨ v = 1)) from ⟨by omega, Or.inl rfl⟩) ?_
      refine And.intro (show 2 < mL t_J7_fill_53178 from (by decide)) ?_
      change AW ev false 0 t_J7_fill_53178 Q 5 [some (vR 24), some (vI v), some (vI (i + 1)), some (vI 8)] [] (upM (fillM M 24 i v) 24 i v)
      exact AW.mem (show (upM (fillM M 24 i v) 24 i v) = (fillM M 24 (i + 1) v) from by funext k j; simp only [upM, fillM]; grind) (ih (i + 1) (by omega) (by omega))
theorem c_fill24 {ev : Ev} {Q : Out → Mem → Prop} {M : Mem}  (v : Int)  (hQ : Q (.inl none) (fillM M 24 8 v)) : AM ev false 0 t_J7_fill_53178 [vR 24, vI v] M Q := by
  refine AM.of mt_J7_fill_53178 (Nat.le_of_ble_eq_true rfl) ?_
  change AW ev false 0 t_J7_fill_53178 Q 0 [some (vR 24), some (vI v), none, none] [] M
  refine AW.go pk_J7_fill_53178 0 5 rfl rfl ?_
  refine And.intro (show 2 < mL t_J7_fill_53178 from (by decide)) ?_
  refine And.intro (show 3 < mL t_J7_fill_53178 from (by decide)) ?_
  change AW ev false 0 t_J7_fill_53178 Q 5 [some (vR 24), some (vI v), some (vI 0), some (vI 8)] [] M
  exact AW.mem (show M = (fillM M 24 0 v) from by funext k j; simp only [fillM]; grind) (l_fill24 v hQ 8 0 (by omega) (by omega))
