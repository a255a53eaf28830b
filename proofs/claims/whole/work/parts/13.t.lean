theorem c_X5_isCell {ev : Ev} {Q : Out → Mem → Prop} {M : Mem}  (c : Int) (h0 : -2147483648 ≤ c ∧ c < 2147483648) (hQ : ∀ (r : Int), (r = 0 ∨ r = 1) ∧ (r = 1 ↔ 0 ≤ c ∧ c < 144) → Q (.inl (some (vI r))) M) : AM ev false 0 t_X5_isCell [vI c] M Q := by
  refine AM.of mt_X5_isCell (Nat.le_of_ble_eq_true rfl) ?_
  change AW ev false 0 t_X5_isCell Q 0 [some (vI c)] [] M
  refine AW.go pk_X5_isCell 0 7 rfl rfl ?_
  refine And.intro (show Inr c from ⟨by omega, by omega⟩) (And.intro (fun h_1 => ?_) (fun h_1 => ?_))
  · replace h_1 : c < (0 : Int) := h_1
    change AW ev false 0 t_X5_isCell Q 15 [some (vI c)] [] M
    refine AW.go pk_X5_isCell 7 2 rfl rfl ?_
    refine And.intro rfl ?_
    refine And.intro (show ((0 : Int) = 0 ∨ (0 : Int) = 1) from (by omega)) ?_
    exact hQ 0 (by first | rfl | omega)
  · replace h_1 : ¬ (c < (0 : Int)) := h_1
    refine And.intro (show Inr c ∧ Inr 144 from ⟨⟨by omega, by omega⟩, ⟨by omega, by omega⟩⟩) (And.intro (fun h_2 => ?_) (fun h_2 => ?_))
    · replace h_2 : (144 : Int) ≤ c := h_2
      change AW ev false 0 t_X5_isCell Q 15 [some (vI c)] [] M
      refine AW.go pk_X5_isCell 7 2 rfl rfl ?_
      refine And.intro rfl ?_
      refine And.intro (show ((0 : Int) = 0 ∨ (0 : Int) = 1) from (by omega)) ?_
      exact hQ 0 (by first | rfl | omega)
    · replace h_2 : ¬ ((144 : Int) ≤ c) := h_2
      change AW ev false 0 t_X5_isCell Q 16 [some (vI c)] [vI 1] M
      refine AW.go pk_X5_isCell 8 1 rfl rfl ?_
      refine And.intro rfl ?_
      refine And.intro (show ((1 : Int) = 0 ∨ (1 : Int) = 1) from (by omega)) ?_
      exact hQ 1 (by first | rfl | omega)
theorem c_X5_columnOf {ev : Ev} {Q : Out → Mem → Prop} {M : Mem}  (c : Int) (h0 : 0 ≤ c) (h1 : c < 144) (hQ : ∀ (r : Int), r = c % 12 → Q (.inl (some (vI r))) M) : AM ev false 0 t_X5_columnOf [vI c] M Q := by
  refine AM.of mt_X5_columnOf (Nat.le_of_ble_eq_true rfl) ?_
  change AW ev false 0 t_X5_columnOf Q 0 [some (vI c)] [] M
  refine AW.go pk_X5_columnOf 0 4 rfl rfl ?_
  refine And.intro (show ((0 ≤ c ∧ c < 2147483648) ∧ 0 < (12 : Int) ∧ (12 : Int) < 2147483648) from (by omega)) ?_
  refine And.intro rfl ?_
  exact hQ (c % 12) (by first | rfl | omega)
theorem c_X5_rowOf {ev : Ev} {Q : Out → Mem → Prop} {M : Mem}  (c : Int) (h0 : 0 ≤ c) (h1 : c < 144) (hQ : ∀ (r : Int), r = c / 12 → Q (.inl (some (vI r))) M) : AM ev false 0 t_X5_rowOf [vI c] M Q := by
  refine AM.of mt_X5_rowOf (Nat.le_of_ble_eq_true rfl) ?_
  change AW ev false 0 t_X5_rowOf Q 0 [some (vI c)] [] M
  refine AW.go pk_X5_rowOf 0 4 rfl rfl ?_
  refine And.intro (show ((0 ≤ c ∧ c < 2147483648) ∧ 0 < (12 : Int) ∧ (12 : Int) < 2147483648) from (by omega)) ?_
  refine And.intro rfl ?_
  exact hQ (c / 12) (by first | rfl | omega)
theorem c_X5_eastward {ev : Ev} {Q : Out → Mem → Prop} {M : Mem}  (a : Int) (b : Int) (h0 : 0 ≤ a ∧ a < 144) (h1 : 0 ≤ b ∧ b < 144) (hQ : ∀ (r : Int), r = b % 12 - a % 12 → Q (.inl (some (vI r))) M) : AM ev false 1 t_X5_eastward [vI a, vI b] M Q := by
  refine AM.of mt_X5_eastward (Nat.le_of_ble_eq_true rfl) ?_
  change AW ev false 1 t_X5_eastward Q 0 [some (vI a), some (vI b)] [] M
  refine AW.go pk_X5_eastward 0 2 rfl rfl ?_
  change AW ev false 1 t_X5_eastward Q 1 [some (vI a), some (vI b)] [vI b] M
  refine AW.callS (d' := 0) [vI b] [] sm_X5_columnOf hX5_15 (okP_d pk_X5_eastward 1 1 (.invokestatic 15) 3 rfl) (by decide) rfl (Nat.le_of_ble_eq_true rfl) ?_
  refine c_X5_columnOf b (by omega) (by omega) (fun r1 hr1 => ?_)
  change AW ev false 1 t_X5_eastward Q 4 [some (vI a), some (vI b)] [vI r1] M
  refine AW.go pk_X5_eastward 2 2 rfl rfl ?_
  change AW ev false 1 t_X5_eastward Q 5 [some (vI a), some (vI b)] [vI a, vI r1] M
  refine AW.callS (d' := 0) [vI a] [vI r1] sm_X5_columnOf hX5_15 (okP_d pk_X5_eastward 3 5 (.invokestatic 15) 3 rfl) (by decide) rfl (Nat.le_of_ble_eq_true rfl) ?_
  refine c_X5_columnOf a (by omega) (by omega) (fun r2 hr2 => ?_)
  change AW ev false 1 t_X5_eastward Q 8 [some (vI a), some (vI b)] [vI r2, vI r1] M
  refine AW.go pk_X5_eastward 4 2 rfl rfl ?_
  refine And.intro rfl ?_
  exact hQ (r1 - r2) (by first | rfl | omega)
theorem c_X5_southward {ev : Ev} {Q : Out → Mem → Prop} {M : Mem}  (a : Int) (b : Int) (h0 : 0 ≤ a ∧ a < 144) (h1 : 0 ≤ b ∧ b < 144) (hQ : ∀ (r : Int), r = b / 12 - a / 12 → Q (.inl (some (vI r))) M) : AM ev false 1 t_X5_southward [vI a, vI b] M Q := by
  refine AM.of mt_X5_southward (Nat.le_of_ble_eq_true rfl) ?_
  change AW ev false 1 t_X5_southward Q 0 [some (vI a), some (vI b)] [] M
  refine AW.go pk_X5_southward 0 2 rfl rfl ?_
  change AW ev false 1 t_X5_southward Q 1 [some (vI a), some (vI b)] [vI b] M
  refine AW.callS (d' := 0) [vI b] [] sm_X5_rowOf hX5_19 (okP_d pk_X5_southward 1 1 (.invokestatic 19) 3 rfl) (by decide) rfl (Nat.le_of_ble_eq_true rfl) ?_
  refine c_X5_rowOf b (by omega) (by omega) (fun r1 hr1 => ?_)
  change AW ev false 1 t_X5_southward Q 4 [some (vI a), some (vI b)] [vI r1] M
  refine AW.go pk_X5_southward 2 2 rfl rfl ?_
  change AW ev false 1 t_X5_southward Q 5 [some (vI a), some (vI b)] [vI a, vI r1] M
  refine AW.callS (d' := 0) [vI a] [vI r1] sm_X5_rowOf hX5_19 (okP_d pk_X5_southward 3 5 (.invokestatic 19) 3 rfl) (by decide) rfl (Nat.le_of_ble_eq_true rfl) ?_
  refine c_X5_rowOf a (by omega) (by omega) (fun r2 hr2 => ?_)
  change AW ev false 1 t_X5_southward Q 8 [some (vI a), some (vI b)] [vI r2, vI r1] M
  refine AW.go pk_X5_southward 4 2 rfl rfl ?_
  refine And.intro rfl ?_
  exact hQ (r1 - r2) (by first | rfl | omega)
theorem c_X5_reach {ev : Ev} {Q : Out → Mem → Prop} {M : Mem}  (a : Int) (b : Int) (h0 : -11 ≤ a ∧ a ≤ 11) (h1 : -11 ≤ b ∧ b ≤ 11) (hQ : ∀ (r : Int), (a ≤ r ∧ -a ≤ r ∧ b ≤ r ∧ -b ≤ r) ∧ (r = a ∨ r = -a ∨ r = b ∨ r = -b) → Q (.inl (some (vI r))) M) : AM ev false 1 t_X5_reach [vI a, vI b] M Q := by
  refine AM.of mt_X5_reach (Nat.le_of_ble_eq_true rfl) ?_
  change AW ev false 1 t_X5_reach Q 0 [some (vI a), some (vI b)] [] M
  refine AW.go pk_X5_reach 0 2 rfl rfl ?_
  change AW ev false 1 t_X5_reach Q 1 [some (vI a), some (vI b)] [vI a] M
  refine AW.mabs (bm 403 _ (by decide +kernel) (by decide +kernel)) (okP_d pk_X5_reach 1 1 (.invokestatic 22) 3 rfl) (by decide) (Nat.le_of_ble_eq_true rfl) (by omega) (fun r1 hr1 => ?_)
  change AW ev false 1 t_X5_reach Q 4 [some (vI a), some (vI b)] [vI r1] M
  refine AW.go pk_X5_reach 2 2 rfl rfl ?_
  change AW ev false 1 t_X5_reach Q 5 [some (vI a), some (vI b)] [vI b, vI r1] M
  refine AW.mabs (bm 403 _ (by decide +kernel) (by decide +kernel)) (okP_d pk_X5_reach 3 5 (.invokestatic 22) 3 rfl) (by decide) (Nat.le_of_ble_eq_true rfl) (by omega) (fun r2 hr2 => ?_)
  change AW ev false 1 t_X5_reach Q 8 [some (vI a), some (vI b)] [vI r2, vI r1] M
  refine AW.mmax (bm 404 _ (by decide +kernel) (by decide +kernel)) (okP_d pk_X5_reach 4 8 (.invokestatic 27) 3 rfl) (by decide) (Nat.le_of_ble_eq_true rfl) ⟨by omega, by omega⟩ ⟨by omega, by omega⟩ (fun r3 hr3 => ?_)
  change AW ev false 1 t_X5_reach Q 11 [some (vI a), some (vI b)] [vI r3] M
  refine AW.go pk_X5_reach 5 1 rfl rfl ?_
  refine And.intro rfl ?_
  exact hQ r3 (by first | rfl | omega)
