theorem c_X8_thrown {ev : Ev} {Q : Out → Mem → Prop} {M : Mem}    (zQ : ∀ (r : Int), r = M 27 0 → Q (.inl (some (vI r))) M) : AM ev false 0 t_X8_thrown [vR 27] M Q := by
  refine AM.of mt_X8_thrown (Nat.le_of_ble_eq_true rfl) ?_
  change AW ev false 0 t_X8_thrown Q 0 [some (vR 27)] [] M
  refine AW.go pk_X8_thrown 0 3 rfl rfl ?_
  refine And.intro rfl ?_
  exact zQ (M 27 0) (by first | rfl | omega)
theorem c_X8_within {ev : Ev} {Q : Out → Mem → Prop} {M : Mem}  (v : Int) (a : Int) (b : Int) (zp0 : -2147483648 ≤ v ∧ v < 2147483648) (zp1 : -2147483648 ≤ a ∧ a < 2147483648) (zp2 : -2147483648 ≤ b ∧ b < 2147483648) (zQ : ∀ (r : Int), (r = 0 ∨ r = 1) ∧ (r = 1 ↔ a ≤ v ∧ v ≤ b) → Q (.inl (some (vI r))) M) : AM ev false 0 t_X8_within [vI v, vI a, vI b] M Q := by
  refine AM.of mt_X8_within (Nat.le_of_ble_eq_true rfl) ?_
  change AW ev false 0 t_X8_within Q 0 [some (vI v), some (vI a), some (vI b)] [] M
  refine AW.go pk_X8_within 0 8 rfl rfl ?_
  refine And.intro (show Inr v ∧ Inr a from ⟨⟨by omega, by omega⟩, ⟨by omega, by omega⟩⟩) (And.intro (fun zh1 => ?_) (fun zh1 => ?_))
  · replace zh1 : v < a := zh1
    change AW ev false 0 t_X8_within Q 14 [some (vI v), some (vI a), some (vI b)] [] M
    refine AW.go pk_X8_within 8 2 rfl rfl ?_
    refine And.intro rfl ?_
    refine And.intro (show ((0 : Int) = 0 ∨ (0 : Int) = 1) from (by omega)) ?_
    exact zQ 0 (by first | rfl | omega)
  · replace zh1 : ¬ (v < a) := zh1
    refine And.intro (show Inr v ∧ Inr b from ⟨⟨by omega, by omega⟩, ⟨by omega, by omega⟩⟩) (And.intro (fun zh2 => ?_) (fun zh2 => ?_))
    · replace zh2 : b < v := zh2
      change AW ev false 0 t_X8_within Q 14 [some (vI v), some (vI a), some (vI b)] [] M
      refine AW.go pk_X8_within 8 2 rfl rfl ?_
      refine And.intro rfl ?_
      refine And.intro (show ((0 : Int) = 0 ∨ (0 : Int) = 1) from (by omega)) ?_
      exact zQ 0 (by first | rfl | omega)
    · replace zh2 : ¬ (b < v) := zh2
      change AW ev false 0 t_X8_within Q 15 [some (vI v), some (vI a), some (vI b)] [vI 1] M
      refine AW.go pk_X8_within 9 1 rfl rfl ?_
      refine And.intro rfl ?_
      refine And.intro (show ((1 : Int) = 0 ∨ (1 : Int) = 1) from (by omega)) ?_
      exact zQ 1 (by first | rfl | omega)
theorem c_X8_isCell {ev : Ev} {Q : Out → Mem → Prop} {M : Mem}  (c : Int) (zp0 : -2147483648 ≤ c ∧ c < 2147483648) (zQ : ∀ (r : Int), (r = 0 ∨ r = 1) ∧ (r = 1 ↔ 0 ≤ c ∧ c < 144) → Q (.inl (some (vI r))) M) : AM ev false 1 t_X8_isCell [vI c] M Q := by
  refine AM.of mt_X8_isCell (Nat.le_of_ble_eq_true rfl) ?_
  change AW ev false 1 t_X8_isCell Q 0 [some (vI c)] [] M
  refine AW.go pk_X8_isCell 0 4 rfl rfl ?_
  change AW ev false 1 t_X8_isCell Q 5 [some (vI c)] [vI 143, vI 0, vI c] M
  refine AW.callS (d' := 0) [vI c, vI 0, vI 143] [] sm_X8_within hX8_69 (okP_d pk_X8_isCell 3 5 (.invokestatic 69) 3 rfl) (by decide) rfl (Nat.le_of_ble_eq_true rfl) ?_
  refine c_X8_within c 0 143 (by omega) (by omega) (by omega) (fun zr1 zzr1 => ?_)
  change AW ev false 1 t_X8_isCell Q 8 [some (vI c)] [vI zr1] M
  refine AW.go pk_X8_isCell 4 1 rfl rfl ?_
  refine And.intro rfl ?_
  refine And.intro (show (zr1 = 0 ∨ zr1 = 1) from (by omega)) ?_
  exact zQ zr1 (by first | rfl | omega)
theorem c_X8_isStation {ev : Ev} {Q : Out → Mem → Prop} {M : Mem}  (s : Int) (zp0 : 0 ≤ M 27 2 ∧ M 27 2 ≤ 8) (zp1 : -2147483648 ≤ s ∧ s < 2147483648) (zQ : ∀ (r : Int), (r = 0 ∨ r = 1) ∧ (r = 1 ↔ 0 ≤ s ∧ s < M 27 2) → Q (.inl (some (vI r))) M) : AM ev false 1 t_X8_isStation [vR 27, vI s] M Q := by
  refine AM.of mt_X8_isStation (Nat.le_of_ble_eq_true rfl) ?_
  change AW ev false 1 t_X8_isStation Q 0 [some (vR 27), some (vI s)] [] M
  refine AW.go pk_X8_isStation 0 7 rfl rfl ?_
  change AW ev false 1 t_X8_isStation Q 8 [some (vR 27), some (vI s)] [vI ((M 27 2) - 1), vI 0, vI s] M
  refine AW.callS (d' := 0) [vI s, vI 0, vI ((M 27 2) - 1)] [] sm_X8_within hX8_69 (okP_d pk_X8_isStation 6 8 (.invokestatic 69) 3 rfl) (by decide) rfl (Nat.le_of_ble_eq_true rfl) ?_
  refine c_X8_within s 0 ((M 27 2) - 1) (by omega) (by omega) (by omega) (fun zr1 zzr1 => ?_)
  change AW ev false 1 t_X8_isStation Q 11 [some (vR 27), some (vI s)] [vI zr1] M
  refine AW.go pk_X8_isStation 7 1 rfl rfl ?_
  refine And.intro rfl ?_
  refine And.intro (show (zr1 = 0 ∨ zr1 = 1) from (by omega)) ?_
  exact zQ zr1 (by first | rfl | omega)
theorem c_X8_isMessage {ev : Ev} {Q : Out → Mem → Prop} {M : Mem}  (s : Int) (zp0 : 0 ≤ M 27 11 ∧ M 27 11 ≤ 20) (zp1 : -2147483648 ≤ s ∧ s < 2147483648) (zQ : ∀ (r : Int), (r = 0 ∨ r = 1) ∧ (r = 1 ↔ 0 ≤ s ∧ s < M 27 11) → Q (.inl (some (vI r))) M) : AM ev false 1 t_X8_isMessage [vR 27, vI s] M Q := by
  refine AM.of mt_X8_isMessage (Nat.le_of_ble_eq_true rfl) ?_
  change AW ev false 1 t_X8_isMessage Q 0 [some (vR 27), some (vI s)] [] M
  refine AW.go pk_X8_isMessage 0 7 rfl rfl ?_
  change AW ev false 1 t_X8_isMessage Q 8 [some (vR 27), some (vI s)] [vI ((M 27 11) - 1), vI 0, vI s] M
  refine AW.callS (d' := 0) [vI s, vI 0, vI ((M 27 11) - 1)] [] sm_X8_within hX8_69 (okP_d pk_X8_isMessage 6 8 (.invokestatic 69) 3 rfl) (by decide) rfl (Nat.le_of_ble_eq_true rfl) ?_
  refine c_X8_within s 0 ((M 27 11) - 1) (by omega) (by omega) (by omega) (fun zr1 zzr1 => ?_)
  change AW ev false 1 t_X8_isMessage Q 11 [some (vR 27), some (vI s)] [vI zr1] M
  refine AW.go pk_X8_isMessage 7 1 rfl rfl ?_
  refine And.intro rfl ?_
  refine And.intro (show (zr1 = 0 ∨ zr1 = 1) from (by omega)) ?_
  exact zQ zr1 (by first | rfl | omega)
theorem c_X8_isSpan {ev : Ev} {Q : Out → Mem → Prop} {M : Mem}  (l : Int) (t : Int) (zp0 : -2147483648 ≤ l ∧ l < 2147483648) (zp1 : -2147483648 ≤ t ∧ t < 2147483648) (zQ : ∀ (r : Int), (r = 0 ∨ r = 1) ∧ (r = 1 ↔ (1 ≤ l ∧ l ≤ 6) ∧ 0 ≤ t ∧ t ≤ 71) → Q (.inl (some (vI r))) M) : AM ev false 1 t_X8_isSpan [vI l, vI t] M Q := by
  refine AM.of mt_X8_isSpan (Nat.le_of_ble_eq_true rfl) ?_
  change AW ev false 1 t_X8_isSpan Q 0 [some (vI l), some (vI t)] [] M
  refine AW.go pk_X8_isSpan 0 4 rfl rfl ?_
  change AW ev false 1 t_X8_isSpan Q 4 [some (vI l), some (vI t)] [vI 6, vI 1, vI l] M
  refine AW.callS (d' := 0) [vI l, vI 1, vI 6] [] sm_X8_within hX8_69 (okP_d pk_X8_isSpan 3 4 (.invokestatic 69) 3 rfl) (by decide) rfl (Nat.le_of_ble_eq_true rfl) ?_
  refine c_X8_within l 1 6 (by omega) (by omega) (by omega) (fun zr1 zzr1 => ?_)
  change AW ev false 1 t_X8_isSpan Q 7 [some (vI l), some (vI t)] [vI zr1] M
  refine AW.go pk_X8_isSpan 4 5 rfl rfl ?_
  refine And.intro (show Inr zr1 from ⟨by omega, by omega⟩) (And.intro (fun zh2 => ?_) (fun zh2 => ?_))
  · replace zh2 : zr1 = (0 : Int) := zh2
    change AW ev false 1 t_X8_isSpan Q 24 [some (vI l), some (vI t)] [] M
    refine AW.go pk_X8_isSpan 12 2 rfl rfl ?_
    refine And.intro rfl ?_
    refine And.intro (show ((0 : Int) = 0 ∨ (0 : Int) = 1) from (by omega)) ?_
    exact zQ 0 (by first | rfl | omega)
  · replace zh2 : ¬ (zr1 = (0 : Int)) := zh2
    change AW ev false 1 t_X8_isSpan Q 14 [some (vI l), some (vI t)] [vI 71, vI 0, vI t] M
    refine AW.callS (d' := 0) [vI t, vI 0, vI 71] [] sm_X8_within hX8_69 (okP_d pk_X8_isSpan 8 14 (.invokestatic 69) 3 rfl) (by decide) rfl (Nat.le_of_ble_eq_true rfl) ?_
    refine c_X8_within t 0 71 (by omega) (by omega) (by omega) (fun zr3 zzr3 => ?_)
    change AW ev false 1 t_X8_isSpan Q 17 [some (vI l), some (vI t)] [vI zr3] M
    refine AW.go pk_X8_isSpan 9 3 rfl rfl ?_
    refine And.intro (show Inr zr3 from ⟨by omega, by omega⟩) (And.intro (fun zh4 => ?_) (fun zh4 => ?_))
    · replace zh4 : zr3 = (0 : Int) := zh4
      change AW ev false 1 t_X8_isSpan Q 24 [some (vI l), some (vI t)] [] M
      refine AW.go pk_X8_isSpan 12 2 rfl rfl ?_
      refine And.intro rfl ?_
      refine And.intro (show ((0 : Int) = 0 ∨ (0 : Int) = 1) from (by omega)) ?_
      exact zQ 0 (by first | rfl | omega)
    · replace zh4 : ¬ (zr3 = (0 : Int)) := zh4
      change AW ev false 1 t_X8_isSpan Q 25 [some (vI l), some (vI t)] [vI 1] M
      refine AW.go pk_X8_isSpan 13 1 rfl rfl ?_
      refine And.intro rfl ?_
      refine And.intro (show ((1 : Int) = 0 ∨ (1 : Int) = 1) from (by omega)) ?_
      exact zQ 1 (by first | rfl | omega)
theorem c_X8_size {ev : Ev} {Q : Out → Mem → Prop} {M : Mem}  (v : Int) (zp0 : -1000 ≤ v ∧ v ≤ 1000) (zQ : ∀ (r : Int), r = iabs v ∧ 0 ≤ r ∧ (r = v ∨ r = -v) → Q (.inl (some (vI r))) M) : AM ev false 0 t_X8_size [vI v] M Q := by
  refine AM.of mt_X8_size (Nat.le_of_ble_eq_true rfl) ?_
  change AW ev false 0 t_X8_size Q 0 [some (vI v)] [] M
  refine AW.go pk_X8_size 0 5 rfl rfl ?_
  refine And.intro (show Inr v from ⟨by omega, by omega⟩) (And.intro (fun zh1 => ?_) (fun zh1 => ?_))
  · replace zh1 : (0 : Int) ≤ v := zh1
    change AW ev false 0 t_X8_size Q 9 [some (vI v)] [] M
    refine AW.go pk_X8_size 5 2 rfl rfl ?_
    refine And.intro rfl ?_
    exact zQ v (by first | rfl | (unfold iabs; first | (rw [if_pos (by omega)]; omega) | (rw [if_neg (by omega)]; omega)))
  · replace zh1 : ¬ ((0 : Int) ≤ v) := zh1
    change AW ev false 0 t_X8_size Q 10 [some (vI v)] [vI (-v)] M
    refine AW.go pk_X8_size 6 1 rfl rfl ?_
    refine And.intro rfl ?_
    exact zQ (-v) (by first | rfl | (unfold iabs; first | (rw [if_pos (by omega)]; omega) | (rw [if_neg (by omega)]; omega)))
theorem lz_begin8 {ev : Ev} {Q : Out → Mem → Prop} {M : Mem}    (zQ : ∀ (r : Int), r = M 27 2 → Q (.inl (some (vI r))) (fillM (upM (upM (upM (upM M 27 0 0) 27 2 0) 27 6 0) 27 11 0) 28 144 0)) : ∀ (n : Nat) (i : Int), i + n = 144 → (0 ≤ i) → AW ev false 0 t_X8_begin Q 27 [some (vR 27), some (vI (M 27 2)), some (vI i)] [] (fillM (upM (upM (upM (upM M 27 0 0) 27 2 0) 27 6 0) 27 11 0) 28 i 0) := by
  intro n
  induction n with
  | zero =>
    intro i zn zv0
    refine AW.go pk_X8_begin 17 10 rfl rfl ?_
    refine And.intro (show Inr i ∧ Inr 144 from ⟨⟨by omega, by omega⟩, ⟨by omega, by omega⟩⟩) (And.intro (fun zh1 => ?_) (fun zh1 => ?_))
    · replace zh1 : (144 : Int) ≤ i := zh1
      change AW ev false 0 t_X8_begin Q 47 [some (vR 27), some (vI (M 27 2)), some (vI i)] [] (fillM (upM (upM (upM (upM M 27 0 0) 27 2 0) 27 6 0) 27 11 0) 28 i 0)
      refine AW.go pk_X8_begin 27 2 rfl rfl ?_
      refine And.intro rfl ?_
      exact Eq.mpr (congrArg (Q _) (show (fillM (upM (upM (upM (upM M 27 0 0) 27 2 0) 27 6 0) 27 11 0) 28 i 0) = (fillM (upM (upM (upM (upM M 27 0 0) 27 2 0) 27 6 0) 27 11 0) 28 144 0) from by rw [show i = 144 from by omega])) (zQ (M 27 2) (by first | rfl | omega))
    · replace zh1 : ¬ ((144 : Int) ≤ i) := zh1
      exfalso; omega
  | succ n zih =>
    intro i zn zv0
    refine AW.go pk_X8_begin 17 10 rfl rfl ?_
    refine And.intro (show Inr i ∧ Inr 144 from ⟨⟨by omega, by omega⟩, ⟨by omega, by omega⟩⟩) (And.intro (fun zh1 => ?_) (fun zh1 => ?_))
    · replace zh1 : (144 : Int) ≤ i := zh1
      exfalso; omega
    · replace zh1 : ¬ ((144 : Int) ≤ i) := zh1
      refine And.intro (show ((0 ≤ i ∧ i < 144) ∧ ((0 : Nat) = 0 ∨ (0 : Int) = 0 ∨ (0 : Int) = 1)) from ⟨by omega, Or.inl rfl⟩) ?_
      refine And.intro (show 2 < mL t_X8_begin from (by decide)) ?_
      change AW ev false 0 t_X8_begin Q 27 [some (vR 27), some (vI (M 27 2)), some (vI (i + 1))] [] (upM (fillM (upM (upM (upM (upM M 27 0 0) 27 2 0) 27 6 0) 27 11 0) 28 i 0) 28 i 0)
      exact AW.mem (show (upM (fillM (upM (upM (upM (upM M 27 0 0) 27 2 0) 27 6 0) 27 11 0) 28 i 0) 28 i 0) = (fillM (upM (upM (upM (upM M 27 0 0) 27 2 0) 27 6 0) 27 11 0) 28 (i + 1) 0) from by funext k j; simp only [upM, fillM]; grind) (zih (i + 1) (by omega) (by omega))
theorem c_X8_begin {ev : Ev} {Q : Out → Mem → Prop} {M : Mem}    (zQ : ∀ (r : Int), r = M 27 2 → Q (.inl (some (vI r))) (fillM (upM (upM (upM (upM M 27 0 0) 27 2 0) 27 6 0) 27 11 0) 28 144 0)) : AM ev false 0 t_X8_begin [vR 27] M Q := by
  refine AM.of mt_X8_begin (Nat.le_of_ble_eq_true rfl) ?_
  change AW ev false 0 t_X8_begin Q 0 [some (vR 27), none, none] [] M
  refine AW.go pk_X8_begin 0 17 rfl rfl ?_
  refine And.intro (show 1 < mL t_X8_begin from (by decide)) ?_
  refine And.intro (show 2 < mL t_X8_begin from (by decide)) ?_
  change AW ev false 0 t_X8_begin Q 27 [some (vR 27), some (vI (M 27 2)), some (vI 0)] [] (upM (upM (upM (upM M 27 0 0) 27 2 0) 27 6 0) 27 11 0)
  exact AW.mem (show (upM (upM (upM (upM M 27 0 0) 27 2 0) 27 6 0) 27 11 0) = (fillM (upM (upM (upM (upM M 27 0 0) 27 2 0) 27 6 0) 27 11 0) 28 0 0) from by funext k j; simp only [fillM]; grind) (lz_begin8 zQ 144 0 (by omega) (by omega))
theorem c_X8_setHeight {ev : Ev} {Q : Out → Mem → Prop} {M : Mem}  (c : Int) (v : Int) (zp0 : -2147483648 ≤ c ∧ c < 2147483648) (zp1 : -2147483648 ≤ v ∧ v < 2147483648) (zp2 : TJ M) (zQ0 : (0 ≤ c ∧ c < 144) ∧ 0 ≤ v ∧ v ≤ 500 → Q (.inl (some (vI (M 28 c)))) (upM (upM M 27 0 0) 28 c v)) (zQ1 : ¬ (0 ≤ c ∧ c < 144) → Q (.inl (some (vI 0))) (upM M 27 0 1)) (zQ2 : (0 ≤ c ∧ c < 144) ∧ ¬ (0 ≤ v ∧ v ≤ 500) → Q (.inl (some (vI 0))) (upM M 27 0 2)) : AM ev false 2 t_X8_setHeight [vR 27, vI c, vI v] M Q := by
  refine AM.of mt_X8_setHeight (Nat.le_of_ble_eq_true rfl) ?_
  change AW ev false 2 t_X8_setHeight Q 0 [some (vR 27), some (vI c), some (vI v), none] [] M
  refine AW.go pk_X8_setHeight 0 3 rfl rfl ?_
  change AW ev false 2 t_X8_setHeight Q 2 [some (vR 27), some (vI c), some (vI v), none] [vI c, vR 27] M
  refine AW.callS (d' := 1) [vI c] [vR 27] sm_X8_isCell hX8_82 (okP_d pk_X8_setHeight 2 2 (.invokestatic 82) 3 rfl) (by decide) rfl (Nat.le_of_ble_eq_true rfl) ?_
  refine c_X8_isCell c (by omega) (fun zr1 zzr1 => ?_)
  change AW ev false 2 t_X8_setHeight Q 5 [some (vR 27), some (vI c), some (vI v), none] [vI zr1, vR 27] M
  refine AW.go pk_X8_setHeight 3 3 rfl rfl ?_
  refine And.intro (show Inr zr1 from ⟨by omega, by omega⟩) (And.intro (fun zh2 => ?_) (fun zh2 => ?_))
  · replace zh2 : zr1 ≠ (0 : Int) := zh2
    change AW ev false 2 t_X8_setHeight Q 12 [some (vR 27), some (vI c), some (vI v), none] [vR 27] M
    refine AW.go pk_X8_setHeight 6 4 rfl rfl ?_
    change AW ev false 2 t_X8_setHeight Q 17 [some (vR 27), some (vI c), some (vI v), none] [vI 500, vI 0, vI v, vR 27] M
    refine AW.callS (d' := 0) [vI v, vI 0, vI 500] [vR 27] sm_X8_within hX8_69 (okP_d pk_X8_setHeight 9 17 (.invokestatic 69) 3 rfl) (by decide) rfl (Nat.le_of_ble_eq_true rfl) ?_
    refine c_X8_within v 0 500 (by omega) (by omega) (by omega) (fun zr3 zzr3 => ?_)
    change AW ev false 2 t_X8_setHeight Q 20 [some (vR 27), some (vI c), some (vI v), none] [vI zr3, vR 27] M
    refine AW.go pk_X8_setHeight 10 3 rfl rfl ?_
    refine And.intro (show Inr zr3 from ⟨by omega, by omega⟩) (And.intro (fun zh4 => ?_) (fun zh4 => ?_))
    · replace zh4 : zr3 = (0 : Int) := zh4
      change AW ev false 2 t_X8_setHeight Q 27 [some (vR 27), some (vI c), some (vI v), none] [vR 27] M
      refine AW.go pk_X8_setHeight 13 7 rfl rfl ?_
      refine And.intro (show Inr 2 from ⟨by omega, by omega⟩) (And.intro (fun zh5 => ?_) (fun zh5 => ?_))
      · replace zh5 : (2 : Int) ≤ (0 : Int) := zh5
        exfalso; omega
      · replace zh5 : ¬ ((2 : Int) ≤ (0 : Int)) := zh5
        refine And.intro rfl ?_
        first
          | exact QcI (Q := Q) (show (0 : Int) = M 28 c from by first | rfl | omega) (show (upM M 27 0 2) = (upM (upM M 27 0 0) 28 c v) from by rfl) (zQ0 (by omega))
          | exact QcI (Q := Q) (show (0 : Int) = (0 : Int) from by first | rfl | omega) (show (upM M 27 0 2) = (upM M 27 0 1) from by rfl) (zQ1 (by omega))
          | exact QcI (Q := Q) (show (0 : Int) = (0 : Int) from by first | rfl | omega) (show (upM M 27 0 2) = (upM M 27 0 2) from by rfl) (zQ2 (by omega))
    · replace zh4 : ¬ (zr3 = (0 : Int)) := zh4
      change AW ev false 2 t_X8_setHeight Q 28 [some (vR 27), some (vI c), some (vI v), none] [vI 0, vR 27] M
      refine AW.go pk_X8_setHeight 14 6 rfl rfl ?_
      refine And.intro (show Inr 0 from ⟨by omega, by omega⟩) (And.intro (fun zh6 => ?_) (fun zh6 => ?_))
      · replace zh6 : (0 : Int) ≤ (0 : Int) := zh6
        change AW ev false 2 t_X8_setHeight Q 40 [some (vR 27), some (vI c), some (vI v), none] [] (upM M 27 0 0)
        refine AW.go pk_X8_setHeight 20 12 rfl rfl ?_
        refine And.intro (show (0 ≤ c ∧ c < 144) from (by omega)) ?_
        refine And.intro (show 3 < mL t_X8_setHeight from (by decide)) ?_
        refine And.intro (show ((0 ≤ c ∧ c < 144) ∧ ((0 : Nat) = 0 ∨ v = 0 ∨ v = 1)) from ⟨by omega, Or.inl rfl⟩) ?_
        refine And.intro rfl ?_
        first
          | exact QcI (Q := Q) (show M 28 c = M 28 c from by first | rfl | omega) (show (upM (upM M 27 0 0) 28 c v) = (upM (upM M 27 0 0) 28 c v) from by rfl) (zQ0 (by omega))
          | exact QcI (Q := Q) (show M 28 c = (0 : Int) from by first | rfl | omega) (show (upM (upM M 27 0 0) 28 c v) = (upM M 27 0 1) from by rfl) (zQ1 (by omega))
          | exact QcI (Q := Q) (show M 28 c = (0 : Int) from by first | rfl | omega) (show (upM (upM M 27 0 0) 28 c v) = (upM M 27 0 2) from by rfl) (zQ2 (by omega))
      · replace zh6 : ¬ ((0 : Int) ≤ (0 : Int)) := zh6
        exfalso; omega
  · replace zh2 : ¬ (zr1 ≠ (0 : Int)) := zh2
    change AW ev false 2 t_X8_setHeight Q 28 [some (vR 27), some (vI c), some (vI v), none] [vI 1, vR 27] M
    refine AW.go pk_X8_setHeight 14 6 rfl rfl ?_
    refine And.intro (show Inr 1 from ⟨by omega, by omega⟩) (And.intro (fun zh7 => ?_) (fun zh7 => ?_))
    · replace zh7 : (1 : Int) ≤ (0 : Int) := zh7
      exfalso; omega
    · replace zh7 : ¬ ((1 : Int) ≤ (0 : Int)) := zh7
      refine And.intro rfl ?_
      first
        | exact QcI (Q := Q) (show (0 : Int) = M 28 c from by first | rfl | omega) (show (upM M 27 0 1) = (upM (upM M 27 0 0) 28 c v) from by rfl) (zQ0 (by omega))
        | exact QcI (Q := Q) (show (0 : Int) = (0 : Int) from by first | rfl | omega) (show (upM M 27 0 1) = (upM M 27 0 1) from by rfl) (zQ1 (by omega))
        | exact QcI (Q := Q) (show (0 : Int) = (0 : Int) from by first | rfl | omega) (show (upM M 27 0 1) = (upM M 27 0 2) from by rfl) (zQ2 (by omega))
theorem lz_hill8 {ev : Ev} {Q : Out → Mem → Prop} {M : Mem}  (c : Int) (v : Int) (w : Int) (zp0 : -2147483648 ≤ c ∧ c < 2147483648) (zp1 : -2147483648 ≤ v ∧ v < 2147483648) (zp2 : -2147483648 ≤ w ∧ w < 2147483648) (zp3 : TJ M) (zc : 0 ≤ c ∧ c < 144) (zv : 1 ≤ v ∧ v ≤ 500) (zw : 0 ≤ w ∧ w ≤ 11) : ∀ (n : Nat) (i : Int) (s : Int), i + n = 144 → (0 ≤ i) → (∀ r : Int, r = hlC (M 28) c v w n i s → Q (.inl (some (vI r))) (hlM (upM M 27 0 0) 28 c v w 144)) → AW ev false 2 t_X8_hill Q 56 [some (vR 27), some (vI c), some (vI v), some (vI w), some (vI s), some (vI i), none, none, none] [] (hlM (upM M 27 0 0) 28 c v w i) := by
  intro n
  induction n with
  | zero =>
    intro i s zn zv0 zv1
    refine AW.go pk_X8_hill 29 11 rfl rfl ?_
    refine And.intro (show Inr i ∧ Inr 144 from ⟨⟨by omega, by omega⟩, ⟨by omega, by omega⟩⟩) (And.intro (fun zh1 => ?_) (fun zh1 => ?_))
    · replace zh1 : (144 : Int) ≤ i := zh1
      change AW ev false 2 t_X8_hill Q 175 [some (vR 27), some (vI c), some (vI v), some (vI w), some (vI s), some (vI i), none, none, none] [] (hlM (upM M 27 0 0) 28 c v w i)
      refine AW.go pk_X8_hill 95 2 rfl rfl ?_
      refine And.intro rfl ?_
      exact Eq.mpr (congrArg (Q _) (show hlM (upM M 27 0 0) 28 c v w i = hlM (upM M 27 0 0) 28 c v w 144 from by rw [show i = 144 from by omega])) (zv1 _ rfl)
    · replace zh1 : ¬ ((144 : Int) ≤ i) := zh1
      exfalso; omega
  | succ n zih =>
    intro i s zn zv0 zv1
    refine AW.go pk_X8_hill 29 11 rfl rfl ?_
    refine And.intro (show Inr i ∧ Inr 144 from ⟨⟨by omega, by omega⟩, ⟨by omega, by omega⟩⟩) (And.intro (fun zh1 => ?_) (fun zh1 => ?_))
    · replace zh1 : (144 : Int) ≤ i := zh1
      exfalso; omega
    · replace zh1 : ¬ ((144 : Int) ≤ i) := zh1
      refine And.intro (show ((0 ≤ i ∧ i < 2147483648) ∧ 0 < (12 : Int) ∧ (12 : Int) < 2147483648) from (by omega)) ?_
      refine And.intro (show ((0 ≤ c ∧ c < 2147483648) ∧ 0 < (12 : Int) ∧ (12 : Int) < 2147483648) from (by omega)) ?_
      change AW ev false 2 t_X8_hill Q 74 [some (vR 27), some (vI c), some (vI v), some (vI w), some (vI s), some (vI i), none, none, none] [vI ((i % 12) - (c % 12))] (hlM (upM M 27 0 0) 28 c v w i)
      refine AW.callS (d' := 0) [vI ((i % 12) - (c % 12))] [] sm_X8_size hX8_86 (okP_d pk_X8_hill 39 74 (.invokestatic 86) 3 rfl) (by decide) rfl (Nat.le_of_ble_eq_true rfl) ?_
      refine c_X8_size ((i % 12) - (c % 12)) (by omega) (fun a1 za1 => ?_)
      change AW ev false 2 t_X8_hill Q 77 [some (vR 27), some (vI c), some (vI v), some (vI w), some (vI s), some (vI i), none, none, none] [vI a1] (hlM (upM M 27 0 0) 28 c v w i)
      refine AW.go pk_X8_hill 40 8 rfl rfl ?_
      refine And.intro (show ((0 ≤ i ∧ i < 2147483648) ∧ 0 < (12 : Int) ∧ (12 : Int) < 2147483648) from (by omega)) ?_
      refine And.intro (show ((0 ≤ c ∧ c < 2147483648) ∧ 0 < (12 : Int) ∧ (12 : Int) < 2147483648) from (by omega)) ?_
      change AW ev false 2 t_X8_hill Q 87 [some (vR 27), some (vI c), some (vI v), some (vI w), some (vI s), some (vI i), none, none, none] [vI ((i / 12) - (c / 12)), vI a1] (hlM (upM M 27 0 0) 28 c v w i)
      refine AW.callS (d' := 0) [vI ((i / 12) - (c / 12))] [vI a1] sm_X8_size hX8_86 (okP_d pk_X8_hill 47 87 (.invokestatic 86) 3 rfl) (by decide) rfl (Nat.le_of_ble_eq_true rfl) ?_
      refine c_X8_size ((i / 12) - (c / 12)) (by omega) (fun a2 za2 => ?_)
      change AW ev false 2 t_X8_hill Q 90 [some (vR 27), some (vI c), some (vI v), some (vI w), some (vI s), some (vI i), none, none, none] [vI a2, vI a1] (hlM (upM M 27 0 0) 28 c v w i)
      have zd : dist c i = a1 + a2 := by rw [za1.1, za2.1]; rfl
      have zsl : slp c v w i = v - (a1 + a2) * (v / (w + 1)) := by unfold slp; rw [zd]
      have zb := zp3 i (by omega) (by omega)
      have zdr := Int.ediv_nonneg (show 0 ≤ v by omega) (show 0 ≤ w + 1 by omega)
      have zdr2 := Int.ediv_le_self (w + 1) (show 0 ≤ v by omega)
      have zmu := mul_bd (a := a1 + a2) (b := v / (w + 1)) (A := 22) (B := 500) (by omega) (by omega)
      have zrd : hlM (upM M 27 0 0) 28 c v w i 28 i = M 28 i := by unfold hlM; rw [if_neg (by omega)]; rfl
      refine AW.go pk_X8_hill 48 23 rfl rfl ?_
      refine And.intro (show 6 < mL t_X8_hill from (by decide)) ?_
      refine And.intro (show ((0 ≤ v ∧ v < 2147483648) ∧ 0 < w + 1 ∧ w + 1 < 2147483648) from (by omega)) ?_
      refine And.intro (show 7 < mL t_X8_hill from (by decide)) ?_
      refine And.intro (show Inr (a1 + a2) ∧ Inr w from ⟨⟨by omega, by omega⟩, ⟨by omega, by omega⟩⟩) (And.intro (fun zh2 => ?_) (fun zh2 => ?_))
      · replace zh2 : w < a1 + a2 := zh2
        change AW ev false 2 t_X8_hill Q 127 [some (vR 27), some (vI c), some (vI v), some (vI w), some (vI s), some (vI i), some (vI (a1 + a2)), some (vI (v - ((a1 + a2) * (v / (w + 1))))), none] [] (hlM (upM M 27 0 0) 28 c v w i)
        refine AW.go pk_X8_hill 71 9 rfl rfl ?_
        refine And.intro (show 8 < mL t_X8_hill from (by decide)) ?_
        refine And.intro (show Inr 0 from ⟨by omega, by omega⟩) (And.intro (fun zh3 => ?_) (fun zh3 => ?_))
        · replace zh3 : (0 : Int) = (0 : Int) := zh3
          change AW ev false 2 t_X8_hill Q 146 [some (vR 27), some (vI c), some (vI v), some (vI w), some (vI s), some (vI i), some (vI (a1 + a2)), some (vI (v - ((a1 + a2) * (v / (w + 1))))), some (vI 0)] [vI i, vR 28] (hlM (upM M 27 0 0) 28 c v w i)
          refine AW.go pk_X8_hill 80 10 rfl rfl ?_
          refine And.intro (show (0 ≤ i ∧ i < 144) from (by omega)) ?_
          refine And.intro (show ((0 ≤ i ∧ i < 144) ∧ ((0 : Nat) = 0 ∨ (hlM (upM M 27 0 0) 28 c v w i) 28 i = 0 ∨ (hlM (upM M 27 0 0) 28 c v w i) 28 i = 1)) from ⟨by omega, Or.inl rfl⟩) ?_
          refine And.intro (show Inr 0 from ⟨by omega, by omega⟩) (And.intro (fun zh4 => ?_) (fun zh4 => ?_))
          · replace zh4 : (0 : Int) = (0 : Int) := zh4
            change AW ev false 2 t_X8_hill Q 165 [some (vR 27), some (vI c), some (vI v), some (vI w), some (vI s), some (vI i), some (vI (a1 + a2)), some (vI (v - ((a1 + a2) * (v / (w + 1))))), some (vI 0)] [vI s] (upM (hlM (upM M 27 0 0) 28 c v w i) 28 i ((hlM (upM M 27 0 0) 28 c v w i) 28 i))
            refine AW.go pk_X8_hill 90 5 rfl rfl ?_
            refine And.intro (show 4 < mL t_X8_hill from (by decide)) ?_
            refine And.intro (show 5 < mL t_X8_hill from (by decide)) ?_
            change AW ev false 2 t_X8_hill Q 56 [some (vR 27), some (vI c), some (vI v), some (vI w), some (vI (s + 0)), some (vI (i + 1)), some (vI (a1 + a2)), some (vI (v - ((a1 + a2) * (v / (w + 1))))), some (vI 0)] [] (upM (hlM (upM M 27 0 0) 28 c v w i) 28 i ((hlM (upM M 27 0 0) 28 c v w i) 28 i))
            refine AW.sub [some (vR 27), some (vI c), some (vI v), some (vI w), some (vI (s + 0)), some (vI (i + 1)), none, none, none] (by simp [lsub]) ?_
            exact AW.mem (show (upM (hlM (upM M 27 0 0) 28 c v w i) 28 i ((hlM (upM M 27 0 0) 28 c v w i) 28 i)) = (hlM (upM M 27 0 0) 28 c v w (i + 1)) from by first | (rw [← zsl]; exact hl8_y (by omega) (by omega) (by rw [zsl]; omega)) | exact hl8_n (by omega)) (zih (i + 1) (s + 0) (by omega) (by omega) (fun r zr => zv1 r (by rw [zr]; (conv => rhs; unfold hlC; rw [zd, zsl]); first | rw [if_pos (by omega)] | rw [if_neg (by omega), Int.add_zero])))
          · replace zh4 : ¬ ((0 : Int) = (0 : Int)) := zh4
            exfalso; omega
        · replace zh3 : ¬ ((0 : Int) = (0 : Int)) := zh3
          exfalso; omega
      · replace zh2 : ¬ (w < a1 + a2) := zh2
        refine And.intro (show (0 ≤ i ∧ i < 144) from (by omega)) ?_
        refine And.intro (show Inr (v - ((a1 + a2) * (v / (w + 1)))) ∧ Inr ((hlM (upM M 27 0 0) 28 c v w i) 28 i) from ⟨⟨by omega, by omega⟩, ⟨by omega, by omega⟩⟩) (And.intro (fun zh5 => ?_) (fun zh5 => ?_))
        · replace zh5 : v - ((a1 + a2) * (v / (w + 1))) ≤ (hlM (upM M 27 0 0) 28 c v w i) 28 i := zh5
          change AW ev false 2 t_X8_hill Q 127 [some (vR 27), some (vI c), some (vI v), some (vI w), some (vI s), some (vI i), some (vI (a1 + a2)), some (vI (v - ((a1 + a2) * (v / (w + 1))))), none] [] (hlM (upM M 27 0 0) 28 c v w i)
          refine AW.go pk_X8_hill 71 9 rfl rfl ?_
          refine And.intro (show 8 < mL t_X8_hill from (by decide)) ?_
          refine And.intro (show Inr 0 from ⟨by omega, by omega⟩) (And.intro (fun zh6 => ?_) (fun zh6 => ?_))
          · replace zh6 : (0 : Int) = (0 : Int) := zh6
            change AW ev false 2 t_X8_hill Q 146 [some (vR 27), some (vI c), some (vI v), some (vI w), some (vI s), some (vI i), some (vI (a1 + a2)), some (vI (v - ((a1 + a2) * (v / (w + 1))))), some (vI 0)] [vI i, vR 28] (hlM (upM M 27 0 0) 28 c v w i)
            refine AW.go pk_X8_hill 80 10 rfl rfl ?_
            refine And.intro (show (0 ≤ i ∧ i < 144) from (by omega)) ?_
            refine And.intro (show ((0 ≤ i ∧ i < 144) ∧ ((0 : Nat) = 0 ∨ (hlM (upM M 27 0 0) 28 c v w i) 28 i = 0 ∨ (hlM (upM M 27 0 0) 28 c v w i) 28 i = 1)) from ⟨by omega, Or.inl rfl⟩) ?_
            refine And.intro (show Inr 0 from ⟨by omega, by omega⟩) (And.intro (fun zh7 => ?_) (fun zh7 => ?_))
            · replace zh7 : (0 : Int) = (0 : Int) := zh7
              change AW ev false 2 t_X8_hill Q 165 [some (vR 27), some (vI c), some (vI v), some (vI w), some (vI s), some (vI i), some (vI (a1 + a2)), some (vI (v - ((a1 + a2) * (v / (w + 1))))), some (vI 0)] [vI s] (upM (hlM (upM M 27 0 0) 28 c v w i) 28 i ((hlM (upM M 27 0 0) 28 c v w i) 28 i))
              refine AW.go pk_X8_hill 90 5 rfl rfl ?_
              refine And.intro (show 4 < mL t_X8_hill from (by decide)) ?_
              refine And.intro (show 5 < mL t_X8_hill from (by decide)) ?_
              change AW ev false 2 t_X8_hill Q 56 [some (vR 27), some (vI c), some (vI v), some (vI w), some (vI (s + 0)), some (vI (i + 1)), some (vI (a1 + a2)), some (vI (v - ((a1 + a2) * (v / (w + 1))))), some (vI 0)] [] (upM (hlM (upM M 27 0 0) 28 c v w i) 28 i ((hlM (upM M 27 0 0) 28 c v w i) 28 i))
              refine AW.sub [some (vR 27), some (vI c), some (vI v), some (vI w), some (vI (s + 0)), some (vI (i + 1)), none, none, none] (by simp [lsub]) ?_
              exact AW.mem (show (upM (hlM (upM M 27 0 0) 28 c v w i) 28 i ((hlM (upM M 27 0 0) 28 c v w i) 28 i)) = (hlM (upM M 27 0 0) 28 c v w (i + 1)) from by first | (rw [← zsl]; exact hl8_y (by omega) (by omega) (by rw [zsl]; omega)) | exact hl8_n (by omega)) (zih (i + 1) (s + 0) (by omega) (by omega) (fun r zr => zv1 r (by rw [zr]; (conv => rhs; unfold hlC; rw [zd, zsl]); first | rw [if_pos (by omega)] | rw [if_neg (by omega), Int.add_zero])))
            · replace zh7 : ¬ ((0 : Int) = (0 : Int)) := zh7
              exfalso; omega
          · replace zh6 : ¬ ((0 : Int) = (0 : Int)) := zh6
            exfalso; omega
        · replace zh5 : ¬ (v - ((a1 + a2) * (v / (w + 1))) ≤ (hlM (upM M 27 0 0) 28 c v w i) 28 i) := zh5
          change AW ev false 2 t_X8_hill Q 128 [some (vR 27), some (vI c), some (vI v), some (vI w), some (vI s), some (vI i), some (vI (a1 + a2)), some (vI (v - ((a1 + a2) * (v / (w + 1))))), none] [vI 1] (hlM (upM M 27 0 0) 28 c v w i)
          refine AW.go pk_X8_hill 72 8 rfl rfl ?_
          refine And.intro (show 8 < mL t_X8_hill from (by decide)) ?_
          refine And.intro (show Inr 1 from ⟨by omega, by omega⟩) (And.intro (fun zh8 => ?_) (fun zh8 => ?_))
          · replace zh8 : (1 : Int) = (0 : Int) := zh8
            exfalso; omega
          · replace zh8 : ¬ ((1 : Int) = (0 : Int)) := zh8
            change AW ev false 2 t_X8_hill Q 153 [some (vR 27), some (vI c), some (vI v), some (vI w), some (vI s), some (vI i), some (vI (a1 + a2)), some (vI (v - ((a1 + a2) * (v / (w + 1))))), some (vI 1)] [vI (v - ((a1 + a2) * (v / (w + 1)))), vI i, vR 28] (hlM (upM M 27 0 0) 28 c v w i)
            refine AW.go pk_X8_hill 84 6 rfl rfl ?_
            refine And.intro (show ((0 ≤ i ∧ i < 144) ∧ ((0 : Nat) = 0 ∨ v - ((a1 + a2) * (v / (w + 1))) = 0 ∨ v - ((a1 + a2) * (v / (w + 1))) = 1)) from ⟨by omega, Or.inl rfl⟩) ?_
            refine And.intro (show Inr 1 from ⟨by omega, by omega⟩) (And.intro (fun zh9 => ?_) (fun zh9 => ?_))
            · replace zh9 : (1 : Int) = (0 : Int) := zh9
              exfalso; omega
            · replace zh9 : ¬ ((1 : Int) = (0 : Int)) := zh9
              change AW ev false 2 t_X8_hill Q 166 [some (vR 27), some (vI c), some (vI v), some (vI w), some (vI s), some (vI i), some (vI (a1 + a2)), some (vI (v - ((a1 + a2) * (v / (w + 1))))), some (vI 1)] [vI 1, vI s] (upM (hlM (upM M 27 0 0) 28 c v w i) 28 i (v - ((a1 + a2) * (v / (w + 1)))))
              refine AW.go pk_X8_hill 91 4 rfl rfl ?_
              refine And.intro (show 4 < mL t_X8_hill from (by decide)) ?_
              refine And.intro (show 5 < mL t_X8_hill from (by decide)) ?_
              change AW ev false 2 t_X8_hill Q 56 [some (vR 27), some (vI c), some (vI v), some (vI w), some (vI (s + 1)), some (vI (i + 1)), some (vI (a1 + a2)), some (vI (v - ((a1 + a2) * (v / (w + 1))))), some (vI 1)] [] (upM (hlM (upM M 27 0 0) 28 c v w i) 28 i (v - ((a1 + a2) * (v / (w + 1)))))
              refine AW.sub [some (vR 27), some (vI c), some (vI v), some (vI w), some (vI (s + 1)), some (vI (i + 1)), none, none, none] (by simp [lsub]) ?_
              exact AW.mem (show (upM (hlM (upM M 27 0 0) 28 c v w i) 28 i (v - ((a1 + a2) * (v / (w + 1))))) = (hlM (upM M 27 0 0) 28 c v w (i + 1)) from by first | (rw [← zsl]; exact hl8_y (by omega) (by omega) (by rw [zsl]; omega)) | exact hl8_n (by omega)) (zih (i + 1) (s + 1) (by omega) (by omega) (fun r zr => zv1 r (by rw [zr]; (conv => rhs; unfold hlC; rw [zd, zsl]); first | rw [if_pos (by omega)] | rw [if_neg (by omega), Int.add_zero])))
theorem c_X8_hill {ev : Ev} {Q : Out → Mem → Prop} {M : Mem}  (c : Int) (v : Int) (w : Int) (zp0 : -2147483648 ≤ c ∧ c < 2147483648) (zp1 : -2147483648 ≤ v ∧ v < 2147483648) (zp2 : -2147483648 ≤ w ∧ w < 2147483648) (zp3 : TJ M) (zQ0 : (0 ≤ c ∧ c < 144) ∧ (1 ≤ v ∧ v ≤ 500) ∧ 0 ≤ w ∧ w ≤ 11 → Q (.inl (some (vI (hlC (M 28) c v w 144 0 0)))) (hlM (upM M 27 0 0) 28 c v w 144)) (zQ1 : ¬ (0 ≤ c ∧ c < 144) → Q (.inl (some (vI 0))) (upM M 27 0 1)) (zQ2 : (0 ≤ c ∧ c < 144) ∧ ¬ ((1 ≤ v ∧ v ≤ 500) ∧ 0 ≤ w ∧ w ≤ 11) → Q (.inl (some (vI 0))) (upM M 27 0 2)) : AM ev false 2 t_X8_hill [vR 27, vI c, vI v, vI w] M Q := by
  refine AM.of mt_X8_hill (Nat.le_of_ble_eq_true rfl) ?_
  change AW ev false 2 t_X8_hill Q 0 [some (vR 27), some (vI c), some (vI v), some (vI w), none, none, none, none, none] [] M
  refine AW.go pk_X8_hill 0 3 rfl rfl ?_
  change AW ev false 2 t_X8_hill Q 2 [some (vR 27), some (vI c), some (vI v), some (vI w), none, none, none, none, none] [vI c, vR 27] M
  refine AW.callS (d' := 1) [vI c] [vR 27] sm_X8_isCell hX8_82 (okP_d pk_X8_hill 2 2 (.invokestatic 82) 3 rfl) (by decide) rfl (Nat.le_of_ble_eq_true rfl) ?_
  refine c_X8_isCell c (by omega) (fun zr1 zzr1 => ?_)
  change AW ev false 2 t_X8_hill Q 5 [some (vR 27), some (vI c), some (vI v), some (vI w), none, none, none, none, none] [vI zr1, vR 27] M
  refine AW.go pk_X8_hill 3 3 rfl rfl ?_
  refine And.intro (show Inr zr1 from ⟨by omega, by omega⟩) (And.intro (fun zh2 => ?_) (fun zh2 => ?_))
  · replace zh2 : zr1 ≠ (0 : Int) := zh2
    change AW ev false 2 t_X8_hill Q 12 [some (vR 27), some (vI c), some (vI v), some (vI w), none, none, none, none, none] [vR 27] M
    refine AW.go pk_X8_hill 6 4 rfl rfl ?_
    change AW ev false 2 t_X8_hill Q 17 [some (vR 27), some (vI c), some (vI v), some (vI w), none, none, none, none, none] [vI 500, vI 1, vI v, vR 27] M
    refine AW.callS (d' := 0) [vI v, vI 1, vI 500] [vR 27] sm_X8_within hX8_69 (okP_d pk_X8_hill 9 17 (.invokestatic 69) 3 rfl) (by decide) rfl (Nat.le_of_ble_eq_true rfl) ?_
    refine c_X8_within v 1 500 (by omega) (by omega) (by omega) (fun zr3 zzr3 => ?_)
    change AW ev false 2 t_X8_hill Q 20 [some (vR 27), some (vI c), some (vI v), some (vI w), none, none, none, none, none] [vI zr3, vR 27] M
    refine AW.go pk_X8_hill 10 5 rfl rfl ?_
    refine And.intro (show Inr zr3 from ⟨by omega, by omega⟩) (And.intro (fun zh4 => ?_) (fun zh4 => ?_))
    · replace zh4 : zr3 = (0 : Int) := zh4
      change AW ev false 2 t_X8_hill Q 37 [some (vR 27), some (vI c), some (vI v), some (vI w), none, none, none, none, none] [vR 27] M
      refine AW.go pk_X8_hill 18 7 rfl rfl ?_
      refine And.intro (show Inr 2 from ⟨by omega, by omega⟩) (And.intro (fun zh5 => ?_) (fun zh5 => ?_))
      · replace zh5 : (2 : Int) ≤ (0 : Int) := zh5
        exfalso; omega
      · replace zh5 : ¬ ((2 : Int) ≤ (0 : Int)) := zh5
        refine And.intro rfl ?_
        first
          | exact QcI (Q := Q) (show (0 : Int) = hlC (M 28) c v w 144 0 0 from by first | rfl | omega) (show (upM M 27 0 2) = (hlM (upM M 27 0 0) 28 c v w 144) from by rfl) (zQ0 (by omega))
          | exact QcI (Q := Q) (show (0 : Int) = (0 : Int) from by first | rfl | omega) (show (upM M 27 0 2) = (upM M 27 0 1) from by rfl) (zQ1 (by omega))
          | exact QcI (Q := Q) (show (0 : Int) = (0 : Int) from by first | rfl | omega) (show (upM M 27 0 2) = (upM M 27 0 2) from by rfl) (zQ2 (by omega))
    · replace zh4 : ¬ (zr3 = (0 : Int)) := zh4
      change AW ev false 2 t_X8_hill Q 27 [some (vR 27), some (vI c), some (vI v), some (vI w), none, none, none, none, none] [vI 11, vI 0, vI w, vR 27] M
      refine AW.callS (d' := 0) [vI w, vI 0, vI 11] [vR 27] sm_X8_within hX8_69 (okP_d pk_X8_hill 14 27 (.invokestatic 69) 3 rfl) (by decide) rfl (Nat.le_of_ble_eq_true rfl) ?_
      refine c_X8_within w 0 11 (by omega) (by omega) (by omega) (fun zr6 zzr6 => ?_)
      change AW ev false 2 t_X8_hill Q 30 [some (vR 27), some (vI c), some (vI v), some (vI w), none, none, none, none, none] [vI zr6, vR 27] M
      refine AW.go pk_X8_hill 15 3 rfl rfl ?_
      refine And.intro (show Inr zr6 from ⟨by omega, by omega⟩) (And.intro (fun zh7 => ?_) (fun zh7 => ?_))
      · replace zh7 : zr6 = (0 : Int) := zh7
        change AW ev false 2 t_X8_hill Q 37 [some (vR 27), some (vI c), some (vI v), some (vI w), none, none, none, none, none] [vR 27] M
        refine AW.go pk_X8_hill 18 7 rfl rfl ?_
        refine And.intro (show Inr 2 from ⟨by omega, by omega⟩) (And.intro (fun zh8 => ?_) (fun zh8 => ?_))
        · replace zh8 : (2 : Int) ≤ (0 : Int) := zh8
          exfalso; omega
        · replace zh8 : ¬ ((2 : Int) ≤ (0 : Int)) := zh8
          refine And.intro rfl ?_
          first
            | exact QcI (Q := Q) (show (0 : Int) = hlC (M 28) c v w 144 0 0 from by first | rfl | omega) (show (upM M 27 0 2) = (hlM (upM M 27 0 0) 28 c v w 144) from by rfl) (zQ0 (by omega))
            | exact QcI (Q := Q) (show (0 : Int) = (0 : Int) from by first | rfl | omega) (show (upM M 27 0 2) = (upM M 27 0 1) from by rfl) (zQ1 (by omega))
            | exact QcI (Q := Q) (show (0 : Int) = (0 : Int) from by first | rfl | omega) (show (upM M 27 0 2) = (upM M 27 0 2) from by rfl) (zQ2 (by omega))
      · replace zh7 : ¬ (zr6 = (0 : Int)) := zh7
        change AW ev false 2 t_X8_hill Q 38 [some (vR 27), some (vI c), some (vI v), some (vI w), none, none, none, none, none] [vI 0, vR 27] M
        refine AW.go pk_X8_hill 19 6 rfl rfl ?_
        refine And.intro (show Inr 0 from ⟨by omega, by omega⟩) (And.intro (fun zh9 => ?_) (fun zh9 => ?_))
        · replace zh9 : (0 : Int) ≤ (0 : Int) := zh9
          change AW ev false 2 t_X8_hill Q 50 [some (vR 27), some (vI c), some (vI v), some (vI w), none, none, none, none, none] [] (upM M 27 0 0)
          refine AW.go pk_X8_hill 25 4 rfl rfl ?_
          refine And.intro (show 4 < mL t_X8_hill from (by decide)) ?_
          refine And.intro (show 5 < mL t_X8_hill from (by decide)) ?_
          change AW ev false 2 t_X8_hill Q 56 [some (vR 27), some (vI c), some (vI v), some (vI w), some (vI 0), some (vI 0), none, none, none] [] (upM M 27 0 0)
          exact AW.mem (show (upM M 27 0 0) = (hlM (upM M 27 0 0) 28 c v w 0) from by funext k j; simp only [hlM]; grind) (lz_hill8 c v w zp0 zp1 zp2 zp3 (by omega) (by omega) (by omega) 144 0 0 (by omega) (by omega) (fun r zr => by rw [zr]; exact zQ0 (by omega)))
        · replace zh9 : ¬ ((0 : Int) ≤ (0 : Int)) := zh9
          exfalso; omega
  · replace zh2 : ¬ (zr1 ≠ (0 : Int)) := zh2
    change AW ev false 2 t_X8_hill Q 38 [some (vR 27), some (vI c), some (vI v), some (vI w), none, none, none, none, none] [vI 1, vR 27] M
    refine AW.go pk_X8_hill 19 6 rfl rfl ?_
    refine And.intro (show Inr 1 from ⟨by omega, by omega⟩) (And.intro (fun zh10 => ?_) (fun zh10 => ?_))
    · replace zh10 : (1 : Int) ≤ (0 : Int) := zh10
      exfalso; omega
    · replace zh10 : ¬ ((1 : Int) ≤ (0 : Int)) := zh10
      refine And.intro rfl ?_
      first
        | exact QcI (Q := Q) (show (0 : Int) = hlC (M 28) c v w 144 0 0 from by first | rfl | omega) (show (upM M 27 0 1) = (hlM (upM M 27 0 0) 28 c v w 144) from by rfl) (zQ0 (by omega))
        | exact QcI (Q := Q) (show (0 : Int) = (0 : Int) from by first | rfl | omega) (show (upM M 27 0 1) = (upM M 27 0 1) from by rfl) (zQ1 (by omega))
        | exact QcI (Q := Q) (show (0 : Int) = (0 : Int) from by first | rfl | omega) (show (upM M 27 0 1) = (upM M 27 0 2) from by rfl) (zQ2 (by omega))
theorem c_X8_append {ev : Ev} {Q : Out → Mem → Prop} {M : Mem}  (c : Int) (zp0 : -2147483648 ≤ c ∧ c < 2147483648) (zp1 : 0 ≤ M 27 14 ∧ M 27 14 ≤ 40) (zQ0 : (33 ≤ c ∧ c ≤ 126) ∧ M 27 14 < 40 → Q (.inl (some (vI (M 27 14 + 1)))) (upM (upM (upM M 27 0 0) 38 (M 27 14) c) 27 14 ((M 27 14) + 1))) (zQ1 : ¬ (33 ≤ c ∧ c ≤ 126) → Q (.inl (some (vI 0))) (upM M 27 0 1)) (zQ2 : (33 ≤ c ∧ c ≤ 126) ∧ M 27 14 = 40 → Q (.inl (some (vI 0))) (upM M 27 0 2)) : AM ev false 1 t_X8_append [vR 27, vI c] M Q := by
  refine AM.of mt_X8_append (Nat.le_of_ble_eq_true rfl) ?_
  change AW ev false 1 t_X8_append Q 0 [some (vR 27), some (vI c)] [] M
  refine AW.go pk_X8_append 0 5 rfl rfl ?_
  change AW ev false 1 t_X8_append Q 6 [some (vR 27), some (vI c)] [vI 126, vI 33, vI c, vR 27] M
  refine AW.callS (d' := 0) [vI c, vI 33, vI 126] [vR 27] sm_X8_within hX8_69 (okP_d pk_X8_append 4 6 (.invokestatic 69) 3 rfl) (by decide) rfl (Nat.le_of_ble_eq_true rfl) ?_
  refine c_X8_within c 33 126 (by omega) (by omega) (by omega) (fun zr1 zzr1 => ?_)
  change AW ev false 1 t_X8_append Q 9 [some (vR 27), some (vI c)] [vI zr1, vR 27] M
  refine AW.go pk_X8_append 5 3 rfl rfl ?_
  refine And.intro (show Inr zr1 from ⟨by omega, by omega⟩) (And.intro (fun zh2 => ?_) (fun zh2 => ?_))
  · replace zh2 : zr1 ≠ (0 : Int) := zh2
    change AW ev false 1 t_X8_append Q 16 [some (vR 27), some (vI c)] [vR 27] M
    refine AW.go pk_X8_append 8 6 rfl rfl ?_
    refine And.intro (show Inr (M 27 14) ∧ Inr 40 from ⟨⟨by omega, by omega⟩, ⟨by omega, by omega⟩⟩) (And.intro (fun zh3 => ?_) (fun zh3 => ?_))
    · replace zh3 : M 27 14 ≠ (40 : Int) := zh3
      change AW ev false 1 t_X8_append Q 29 [some (vR 27), some (vI c)] [vR 27] M
      refine AW.go pk_X8_append 14 7 rfl rfl ?_
      refine And.intro (show Inr 0 from ⟨by omega, by omega⟩) (And.intro (fun zh4 => ?_) (fun zh4 => ?_))
      · replace zh4 : (0 : Int) ≤ (0 : Int) := zh4
        change AW ev false 1 t_X8_append Q 42 [some (vR 27), some (vI c)] [] (upM M 27 0 0)
        refine AW.go pk_X8_append 21 15 rfl rfl ?_
        refine And.intro (show ((0 ≤ M 27 14 ∧ M 27 14 < 40) ∧ ((0 : Nat) = 0 ∨ c = 0 ∨ c = 1)) from ⟨by omega, Or.inl rfl⟩) ?_
        refine And.intro rfl ?_
        first
          | exact QcI (Q := Q) (show (M 27 14) + 1 = M 27 14 + 1 from by first | rfl | omega) (show (upM (upM (upM M 27 0 0) 38 (M 27 14) c) 27 14 ((M 27 14) + 1)) = (upM (upM (upM M 27 0 0) 38 (M 27 14) c) 27 14 ((M 27 14) + 1)) from by rfl) (zQ0 (by omega))
          | exact QcI (Q := Q) (show (M 27 14) + 1 = (0 : Int) from by first | rfl | omega) (show (upM (upM (upM M 27 0 0) 38 (M 27 14) c) 27 14 ((M 27 14) + 1)) = (upM M 27 0 1) from by rfl) (zQ1 (by omega))
          | exact QcI (Q := Q) (show (M 27 14) + 1 = (0 : Int) from by first | rfl | omega) (show (upM (upM (upM M 27 0 0) 38 (M 27 14) c) 27 14 ((M 27 14) + 1)) = (upM M 27 0 2) from by rfl) (zQ2 (by omega))
      · replace zh4 : ¬ ((0 : Int) ≤ (0 : Int)) := zh4
        exfalso; omega
    · replace zh3 : ¬ (M 27 14 ≠ (40 : Int)) := zh3
      change AW ev false 1 t_X8_append Q 30 [some (vR 27), some (vI c)] [vI 2, vR 27] M
      refine AW.go pk_X8_append 15 6 rfl rfl ?_
      refine And.intro (show Inr 2 from ⟨by omega, by omega⟩) (And.intro (fun zh5 => ?_) (fun zh5 => ?_))
      · replace zh5 : (2 : Int) ≤ (0 : Int) := zh5
        exfalso; omega
      · replace zh5 : ¬ ((2 : Int) ≤ (0 : Int)) := zh5
        refine And.intro rfl ?_
        first
          | exact QcI (Q := Q) (show (0 : Int) = M 27 14 + 1 from by first | rfl | omega) (show (upM M 27 0 2) = (upM (upM (upM M 27 0 0) 38 (M 27 14) c) 27 14 ((M 27 14) + 1)) from by rfl) (zQ0 (by omega))
          | exact QcI (Q := Q) (show (0 : Int) = (0 : Int) from by first | rfl | omega) (show (upM M 27 0 2) = (upM M 27 0 1) from by rfl) (zQ1 (by omega))
          | exact QcI (Q := Q) (show (0 : Int) = (0 : Int) from by first | rfl | omega) (show (upM M 27 0 2) = (upM M 27 0 2) from by rfl) (zQ2 (by omega))
  · replace zh2 : ¬ (zr1 ≠ (0 : Int)) := zh2
    change AW ev false 1 t_X8_append Q 30 [some (vR 27), some (vI c)] [vI 1, vR 27] M
    refine AW.go pk_X8_append 15 6 rfl rfl ?_
    refine And.intro (show Inr 1 from ⟨by omega, by omega⟩) (And.intro (fun zh6 => ?_) (fun zh6 => ?_))
    · replace zh6 : (1 : Int) ≤ (0 : Int) := zh6
      exfalso; omega
    · replace zh6 : ¬ ((1 : Int) ≤ (0 : Int)) := zh6
      refine And.intro rfl ?_
      first
        | exact QcI (Q := Q) (show (0 : Int) = M 27 14 + 1 from by first | rfl | omega) (show (upM M 27 0 1) = (upM (upM (upM M 27 0 0) 38 (M 27 14) c) 27 14 ((M 27 14) + 1)) from by rfl) (zQ0 (by omega))
        | exact QcI (Q := Q) (show (0 : Int) = (0 : Int) from by first | rfl | omega) (show (upM M 27 0 1) = (upM M 27 0 1) from by rfl) (zQ1 (by omega))
        | exact QcI (Q := Q) (show (0 : Int) = (0 : Int) from by first | rfl | omega) (show (upM M 27 0 1) = (upM M 27 0 2) from by rfl) (zQ2 (by omega))
theorem c_X8_clearBuffer {ev : Ev} {Q : Out → Mem → Prop} {M : Mem}    (zQ : ∀ (r : Int), r = M 27 14 → Q (.inl (some (vI r))) (upM (upM M 27 0 0) 27 14 0)) : AM ev false 0 t_X8_clearBuffer [vR 27] M Q := by
  refine AM.of mt_X8_clearBuffer (Nat.le_of_ble_eq_true rfl) ?_
  change AW ev false 0 t_X8_clearBuffer Q 0 [some (vR 27), none] [] M
  refine AW.go pk_X8_clearBuffer 0 11 rfl rfl ?_
  refine And.intro (show 1 < mL t_X8_clearBuffer from (by decide)) ?_
  refine And.intro rfl ?_
  exact zQ (M 27 14) (by first | rfl | omega)
theorem tk_s {f : Int → Int} {i c : Int} (h : (∃ j, 0 ≤ j ∧ j < i ∧ f j = c) ∨ (0 ≤ i ∧ f i = c)) : ∃ j, 0 ≤ j ∧ j < i + 1 ∧ f j = c := by
  rcases h with ⟨j, h0, h1, h2⟩ | ⟨h0, h1⟩
  · exact ⟨j, h0, by omega, h2⟩
  · exact ⟨i, h0, by omega, h1⟩
theorem tk_r {f : Int → Int} {i c : Int} (h : ∃ j, 0 ≤ j ∧ j < i + 1 ∧ f j = c) : (∃ j, 0 ≤ j ∧ j < i ∧ f j = c) ∨ f i = c := by
  obtain ⟨j, h0, h1, h2⟩ := h
  by_cases hj : j = i
  · right; rw [← hj]; exact h2
  · left; exact ⟨j, h0, by omega, h2⟩
theorem lz_isTaken8 {ev : Ev} {Q : Out → Mem → Prop} {M : Mem}  (c : Int) (zp0 : SJ M) (zp1 : -2147483648 ≤ c ∧ c < 2147483648) (zQ : ∀ (r : Int), (r = 0 ∨ r = 1) ∧ (r = 1 ↔ ∃ i, 0 ≤ i ∧ i < M 27 2 ∧ M 29 i = c) → Q (.inl (some (vI r))) M) : ∀ (n : Nat) (i : Int) (b : Int), i + n = M 27 2 → (0 ≤ i) → (b = 0 ∨ b = 1) → (b = 1 ↔ ∃ j, 0 ≤ j ∧ j < i ∧ M 29 j = c) → AW ev false 0 t_X8_isTaken Q 4 [some (vR 27), some (vI c), some (vI b), some (vI i)] [] M := by
  intro n
  induction n with
  | zero =>
    intro i b zn zv0 zv1 zv2
    have zs := zp0.1
    refine AW.go pk_X8_isTaken 4 14 rfl rfl ?_
    refine And.intro (show Inr i ∧ Inr (M 27 2) from ⟨⟨by omega, by omega⟩, ⟨by omega, by omega⟩⟩) (And.intro (fun zh1 => ?_) (fun zh1 => ?_))
    · replace zh1 : M 27 2 ≤ i := zh1
      change AW ev false 0 t_X8_isTaken Q 38 [some (vR 27), some (vI c), some (vI b), some (vI i)] [] M
      refine AW.go pk_X8_isTaken 22 2 rfl rfl ?_
      refine And.intro rfl ?_
      refine And.intro (show (b = 0 ∨ b = 1) from (by omega)) ?_
      exact zQ b ⟨by omega, by rw [zv2]; constructor <;> (rintro ⟨j, q1, q2, q3⟩; exact ⟨j, q1, by omega, q3⟩)⟩
    · replace zh1 : ¬ (M 27 2 ≤ i) := zh1
      exfalso; omega
  | succ n zih =>
    intro i b zn zv0 zv1 zv2
    have zs := zp0.1
    refine AW.go pk_X8_isTaken 4 14 rfl rfl ?_
    refine And.intro (show Inr i ∧ Inr (M 27 2) from ⟨⟨by omega, by omega⟩, ⟨by omega, by omega⟩⟩) (And.intro (fun zh1 => ?_) (fun zh1 => ?_))
    · replace zh1 : M 27 2 ≤ i := zh1
      exfalso; omega
    · replace zh1 : ¬ (M 27 2 ≤ i) := zh1
      refine And.intro (show Inr b from ⟨by omega, by omega⟩) (And.intro (fun zh2 => ?_) (fun zh2 => ?_))
      · replace zh2 : b ≠ (0 : Int) := zh2
        change AW ev false 0 t_X8_isTaken Q 26 [some (vR 27), some (vI c), some (vI b), some (vI i)] [] M
        refine AW.go pk_X8_isTaken 16 2 rfl rfl ?_
        change AW ev false 0 t_X8_isTaken Q 31 [some (vR 27), some (vI c), some (vI b), some (vI i)] [vI 1] M
        refine AW.go pk_X8_isTaken 19 3 rfl rfl ?_
        refine And.intro (show 2 < mL t_X8_isTaken from (by decide)) ?_
        refine And.intro (show 3 < mL t_X8_isTaken from (by decide)) ?_
        change AW ev false 0 t_X8_isTaken Q 4 [some (vR 27), some (vI c), some (vI 1), some (vI (i + 1))] [] M
        exact zih (i + 1) 1 (by omega) (by omega) (by omega) (iff_of_true rfl (tk_s (Classical.byContradiction fun q => by first | exact q (Or.inl (zv2.mp (by omega))) | exact q (Or.inr ⟨zv0, by omega⟩))))
      · replace zh2 : ¬ (b ≠ (0 : Int)) := zh2
        refine And.intro (show (0 ≤ i ∧ i < 8) from (by omega)) ?_
        have zf3 := zp0.2.1 i (by omega) (by omega)
        refine And.intro (show Inr (M 29 i) ∧ Inr c from ⟨⟨by omega, by omega⟩, ⟨by omega, by omega⟩⟩) (And.intro (fun zh4 => ?_) (fun zh4 => ?_))
        · replace zh4 : M 29 i ≠ c := zh4
          change AW ev false 0 t_X8_isTaken Q 30 [some (vR 27), some (vI c), some (vI b), some (vI i)] [] M
          refine AW.go pk_X8_isTaken 18 4 rfl rfl ?_
          refine And.intro (show 2 < mL t_X8_isTaken from (by decide)) ?_
          refine And.intro (show 3 < mL t_X8_isTaken from (by decide)) ?_
          change AW ev false 0 t_X8_isTaken Q 4 [some (vR 27), some (vI c), some (vI 0), some (vI (i + 1))] [] M
          exact zih (i + 1) 0 (by omega) (by omega) (by omega) (iff_of_false (by omega) (fun q => by rcases tk_r q with q | q; have := zv2.mpr q; omega; omega))
        · replace zh4 : ¬ (M 29 i ≠ c) := zh4
          change AW ev false 0 t_X8_isTaken Q 31 [some (vR 27), some (vI c), some (vI b), some (vI i)] [vI 1] M
          refine AW.go pk_X8_isTaken 19 3 rfl rfl ?_
          refine And.intro (show 2 < mL t_X8_isTaken from (by decide)) ?_
          refine And.intro (show 3 < mL t_X8_isTaken from (by decide)) ?_
          change AW ev false 0 t_X8_isTaken Q 4 [some (vR 27), some (vI c), some (vI 1), some (vI (i + 1))] [] M
          exact zih (i + 1) 1 (by omega) (by omega) (by omega) (iff_of_true rfl (tk_s (Classical.byContradiction fun q => by first | exact q (Or.inl (zv2.mp (by omega))) | exact q (Or.inr ⟨zv0, by omega⟩))))
theorem c_X8_isTaken {ev : Ev} {Q : Out → Mem → Prop} {M : Mem}  (c : Int) (zp0 : SJ M) (zp1 : -2147483648 ≤ c ∧ c < 2147483648) (zQ : ∀ (r : Int), (r = 0 ∨ r = 1) ∧ (r = 1 ↔ ∃ i, 0 ≤ i ∧ i < M 27 2 ∧ M 29 i = c) → Q (.inl (some (vI r))) M) : AM ev false 0 t_X8_isTaken [vR 27, vI c] M Q := by
  have zs := zp0.1
  refine AM.of mt_X8_isTaken (Nat.le_of_ble_eq_true rfl) ?_
  change AW ev false 0 t_X8_isTaken Q 0 [some (vR 27), some (vI c), none, none] [] M
  refine AW.go pk_X8_isTaken 0 4 rfl rfl ?_
  refine And.intro (show 2 < mL t_X8_isTaken from (by decide)) ?_
  refine And.intro (show 3 < mL t_X8_isTaken from (by decide)) ?_
  change AW ev false 0 t_X8_isTaken Q 4 [some (vR 27), some (vI c), some (vI 0), some (vI 0)] [] M
  exact lz_isTaken8 c zp0 zp1 zQ (M 27 2).toNat 0 0 (by omega) (by omega) (by omega) (iff_of_false (by omega) (fun ⟨j, q0, q1, q2⟩ => by omega))
theorem c_X8_addStation {ev : Ev} {Q : Out → Mem → Prop} {M : Mem}  (c : Int) (v : Int) (w : Int) (zp0 : SJ M) (zp1 : -2147483648 ≤ c ∧ c < 2147483648) (zp2 : -2147483648 ≤ v ∧ v < 2147483648) (zp3 : -2147483648 ≤ w ∧ w < 2147483648) (zQ0 : ((0 ≤ c ∧ c < 144) ∧ (0 ≤ v ∧ v ≤ 50) ∧ 1 ≤ w ∧ w ≤ 2) ∧ ¬ (∃ i, 0 ≤ i ∧ i < M 27 2 ∧ M 29 i = c) ∧ M 27 2 < 8 → Q (.inl (some (vI (M 27 2)))) (upM (upM (upM (upM (upM M 27 0 0) 29 (M 27 2) c) 30 (M 27 2) v) 31 (M 27 2) w) 27 2 ((M 27 2) + 1))) (zQ1 : ¬ (0 ≤ c ∧ c < 144) → Q (.inl (some (vI 0))) (upM M 27 0 1)) (zQ2 : (0 ≤ c ∧ c < 144) ∧ ¬ ((0 ≤ v ∧ v ≤ 50) ∧ 1 ≤ w ∧ w ≤ 2) → Q (.inl (some (vI 0))) (upM M 27 0 2)) (zQ3 : ((0 ≤ c ∧ c < 144) ∧ (0 ≤ v ∧ v ≤ 50) ∧ 1 ≤ w ∧ w ≤ 2) ∧ ((∃ i, 0 ≤ i ∧ i < M 27 2 ∧ M 29 i = c) ∨ M 27 2 = 8) → Q (.inl (some (vI 0))) (upM M 27 0 3)) : AM ev false 2 t_X8_addStation [vR 27, vI c, vI v, vI w] M Q := by
  have zs := zp0.1
  refine AM.of mt_X8_addStation (Nat.le_of_ble_eq_true rfl) ?_
  change AW ev false 2 t_X8_addStation Q 0 [some (vR 27), some (vI c), some (vI v), some (vI w)] [] M
  refine AW.go pk_X8_addStation 0 3 rfl rfl ?_
  change AW ev false 2 t_X8_addStation Q 2 [some (vR 27), some (vI c), some (vI v), some (vI w)] [vI c, vR 27] M
  refine AW.callS (d' := 1) [vI c] [vR 27] sm_X8_isCell hX8_82 (okP_d pk_X8_addStation 2 2 (.invokestatic 82) 3 rfl) (by decide) rfl (Nat.le_of_ble_eq_true rfl) ?_
  refine c_X8_isCell c (by omega) (fun zr1 zzr1 => ?_)
  change AW ev false 2 t_X8_addStation Q 5 [some (vR 27), some (vI c), some (vI v), some (vI w)] [vI zr1, vR 27] M
  refine AW.go pk_X8_addStation 3 3 rfl rfl ?_
  refine And.intro (show Inr zr1 from ⟨by omega, by omega⟩) (And.intro (fun zh2 => ?_) (fun zh2 => ?_))
  · replace zh2 : zr1 ≠ (0 : Int) := zh2
    change AW ev false 2 t_X8_addStation Q 12 [some (vR 27), some (vI c), some (vI v), some (vI w)] [vR 27] M
    refine AW.go pk_X8_addStation 6 4 rfl rfl ?_
    change AW ev false 2 t_X8_addStation Q 16 [some (vR 27), some (vI c), some (vI v), some (vI w)] [vI 50, vI 0, vI v, vR 27] M
    refine AW.callS (d' := 0) [vI v, vI 0, vI 50] [vR 27] sm_X8_within hX8_69 (okP_d pk_X8_addStation 9 16 (.invokestatic 69) 3 rfl) (by decide) rfl (Nat.le_of_ble_eq_true rfl) ?_
    refine c_X8_within v 0 50 (by omega) (by omega) (by omega) (fun zr3 zzr3 => ?_)
    change AW ev false 2 t_X8_addStation Q 19 [some (vR 27), some (vI c), some (vI v), some (vI w)] [vI zr3, vR 27] M
    refine AW.go pk_X8_addStation 10 5 rfl rfl ?_
    refine And.intro (show Inr zr3 from ⟨by omega, by omega⟩) (And.intro (fun zh4 => ?_) (fun zh4 => ?_))
    · replace zh4 : zr3 = (0 : Int) := zh4
      change AW ev false 2 t_X8_addStation Q 31 [some (vR 27), some (vI c), some (vI v), some (vI w)] [vR 27] M
      refine AW.go pk_X8_addStation 16 2 rfl rfl ?_
      change AW ev false 2 t_X8_addStation Q 57 [some (vR 27), some (vI c), some (vI v), some (vI w)] [vI 2, vR 27] M
      refine AW.go pk_X8_addStation 29 6 rfl rfl ?_
      refine And.intro (show Inr 2 from ⟨by omega, by omega⟩) (And.intro (fun zh5 => ?_) (fun zh5 => ?_))
      · replace zh5 : (2 : Int) ≤ (0 : Int) := zh5
        exfalso; omega
      · replace zh5 : ¬ ((2 : Int) ≤ (0 : Int)) := zh5
        refine And.intro rfl ?_
        first
          | exact QcI (Q := Q) (show (0 : Int) = M 27 2 from by first | rfl | omega) (show (upM M 27 0 2) = (upM (upM (upM (upM (upM M 27 0 0) 29 (M 27 2) c) 30 (M 27 2) v) 31 (M 27 2) w) 27 2 ((M 27 2) + 1)) from by rfl) (zQ0 (by first | omega | exact ⟨(by clear zk1 zk2; omega), fun q => by have := zk2 q; clear zk1 zk2 q; omega, (by clear zk1 zk2; omega)⟩ | exact ⟨(by clear zk1 zk2; omega), Or.inl (zk1 (by clear zk1 zk2; omega))⟩ | exact ⟨(by clear zk1 zk2; omega), Or.inr (by clear zk1 zk2; omega)⟩))
          | exact QcI (Q := Q) (show (0 : Int) = (0 : Int) from by first | rfl | omega) (show (upM M 27 0 2) = (upM M 27 0 1) from by rfl) (zQ1 (by first | omega | exact ⟨(by clear zk1 zk2; omega), fun q => by have := zk2 q; clear zk1 zk2 q; omega, (by clear zk1 zk2; omega)⟩ | exact ⟨(by clear zk1 zk2; omega), Or.inl (zk1 (by clear zk1 zk2; omega))⟩ | exact ⟨(by clear zk1 zk2; omega), Or.inr (by clear zk1 zk2; omega)⟩))
          | exact QcI (Q := Q) (show (0 : Int) = (0 : Int) from by first | rfl | omega) (show (upM M 27 0 2) = (upM M 27 0 2) from by rfl) (zQ2 (by first | omega | exact ⟨(by clear zk1 zk2; omega), fun q => by have := zk2 q; clear zk1 zk2 q; omega, (by clear zk1 zk2; omega)⟩ | exact ⟨(by clear zk1 zk2; omega), Or.inl (zk1 (by clear zk1 zk2; omega))⟩ | exact ⟨(by clear zk1 zk2; omega), Or.inr (by clear zk1 zk2; omega)⟩))
          | exact QcI (Q := Q) (show (0 : Int) = (0 : Int) from by first | rfl | omega) (show (upM M 27 0 2) = (upM M 27 0 3) from by rfl) (zQ3 (by first | omega | exact ⟨(by clear zk1 zk2; omega), fun q => by have := zk2 q; clear zk1 zk2 q; omega, (by clear zk1 zk2; omega)⟩ | exact ⟨(by clear zk1 zk2; omega), Or.inl (zk1 (by clear zk1 zk2; omega))⟩ | exact ⟨(by clear zk1 zk2; omega), Or.inr (by clear zk1 zk2; omega)⟩))
    · replace zh4 : ¬ (zr3 = (0 : Int)) := zh4
      change AW ev false 2 t_X8_addStation Q 25 [some (vR 27), some (vI c), some (vI v), some (vI w)] [vI 2, vI 1, vI w, vR 27] M
      refine AW.callS (d' := 0) [vI w, vI 1, vI 2] [vR 27] sm_X8_within hX8_69 (okP_d pk_X8_addStation 14 25 (.invokestatic 69) 3 rfl) (by decide) rfl (Nat.le_of_ble_eq_true rfl) ?_
      refine c_X8_within w 1 2 (by omega) (by omega) (by omega) (fun zr6 zzr6 => ?_)
      change AW ev false 2 t_X8_addStation Q 28 [some (vR 27), some (vI c), some (vI v), some (vI w)] [vI zr6, vR 27] M
      refine AW.go pk_X8_addStation 15 3 rfl rfl ?_
      refine And.intro (show Inr zr6 from ⟨by omega, by omega⟩) (And.intro (fun zh7 => ?_) (fun zh7 => ?_))
      · replace zh7 : zr6 ≠ (0 : Int) := zh7
        change AW ev false 2 t_X8_addStation Q 35 [some (vR 27), some (vI c), some (vI v), some (vI w)] [vR 27] M
        refine AW.go pk_X8_addStation 18 3 rfl rfl ?_
        change AW ev false 2 t_X8_addStation Q 37 [some (vR 27), some (vI c), some (vI v), some (vI w)] [vI c, vR 27, vR 27] M
        refine AW.callV (d' := 0) [vI c] [vR 27] vm_X8_isTaken rfl hX8_155 (okP_d pk_X8_addStation 20 37 (.invokevirtual 155) 3 rfl) (by decide) rfl (Nat.le_of_ble_eq_true rfl) ?_
        refine c_X8_isTaken c zp0 (by omega) (fun w1 zw1 => ?_)
        have zk1 : w1 = 1 → (∃ i, 0 ≤ i ∧ i < M 27 2 ∧ M 29 i = c) := zw1.2.mp
        have zk2 : (∃ i, 0 ≤ i ∧ i < M 27 2 ∧ M 29 i = c) → w1 = 1 := zw1.2.mpr
        replace zw1 : w1 = 0 ∨ w1 = 1 := zw1.1
        change AW ev false 2 t_X8_addStation Q 40 [some (vR 27), some (vI c), some (vI v), some (vI w)] [vI w1, vR 27] M
        refine AW.go pk_X8_addStation 21 7 rfl rfl ?_
        refine And.intro (show Inr w1 from ⟨by omega, by omega⟩) (And.intro (fun zh8 => ?_) (fun zh8 => ?_))
        · replace zh8 : w1 ≠ (0 : Int) := zh8
          change AW ev false 2 t_X8_addStation Q 52 [some (vR 27), some (vI c), some (vI v), some (vI w)] [vR 27] M
          refine AW.go pk_X8_addStation 26 2 rfl rfl ?_
          change AW ev false 2 t_X8_addStation Q 57 [some (vR 27), some (vI c), some (vI v), some (vI w)] [vI 3, vR 27] M
          refine AW.go pk_X8_addStation 29 6 rfl rfl ?_
          refine And.intro (show Inr 3 from ⟨by omega, by omega⟩) (And.intro (fun zh9 => ?_) (fun zh9 => ?_))
          · replace zh9 : (3 : Int) ≤ (0 : Int) := zh9
            exfalso; omega
          · replace zh9 : ¬ ((3 : Int) ≤ (0 : Int)) := zh9
            refine And.intro rfl ?_
            first
              | exact QcI (Q := Q) (show (0 : Int) = M 27 2 from by first | rfl | omega) (show (upM M 27 0 3) = (upM (upM (upM (upM (upM M 27 0 0) 29 (M 27 2) c) 30 (M 27 2) v) 31 (M 27 2) w) 27 2 ((M 27 2) + 1)) from by rfl) (zQ0 (by first | omega | exact ⟨(by clear zk1 zk2; omega), fun q => by have := zk2 q; clear zk1 zk2 q; omega, (by clear zk1 zk2; omega)⟩ | exact ⟨(by clear zk1 zk2; omega), Or.inl (zk1 (by clear zk1 zk2; omega))⟩ | exact ⟨(by clear zk1 zk2; omega), Or.inr (by clear zk1 zk2; omega)⟩))
              | exact QcI (Q := Q) (show (0 : Int) = (0 : Int) from by first | rfl | omega) (show (upM M 27 0 3) = (upM M 27 0 1) from by rfl) (zQ1 (by first | omega | exact ⟨(by clear zk1 zk2; omega), fun q => by have := zk2 q; clear zk1 zk2 q; omega, (by clear zk1 zk2; omega)⟩ | exact ⟨(by clear zk1 zk2; omega), Or.inl (zk1 (by clear zk1 zk2; omega))⟩ | exact ⟨(by clear zk1 zk2; omega), Or.inr (by clear zk1 zk2; omega)⟩))
              | exact QcI (Q := Q) (show (0 : Int) = (0 : Int) from by first | rfl | omega) (show (upM M 27 0 3) = (upM M 27 0 2) from by rfl) (zQ2 (by first | omega | exact ⟨(by clear zk1 zk2; omega), fun q => by have := zk2 q; clear zk1 zk2 q; omega, (by clear zk1 zk2; omega)⟩ | exact ⟨(by clear zk1 zk2; omega), Or.inl (zk1 (by clear zk1 zk2; omega))⟩ | exact ⟨(by clear zk1 zk2; omega), Or.inr (by clear zk1 zk2; omega)⟩))
              | exact QcI (Q := Q) (show (0 : Int) = (0 : Int) from by first | rfl | omega) (show (upM M 27 0 3) = (upM M 27 0 3) from by rfl) (zQ3 (by first | omega | exact ⟨(by clear zk1 zk2; omega), fun q => by have := zk2 q; clear zk1 zk2 q; omega, (by clear zk1 zk2; omega)⟩ | exact ⟨(by clear zk1 zk2; omega), Or.inl (zk1 (by clear zk1 zk2; omega))⟩ | exact ⟨(by clear zk1 zk2; omega), Or.inr (by clear zk1 zk2; omega)⟩))
        · replace zh8 : ¬ (w1 ≠ (0 : Int)) := zh8
          refine And.intro (show Inr (M 27 2) ∧ Inr 8 from ⟨⟨by omega, by omega⟩, ⟨by omega, by omega⟩⟩) (And.intro (fun zh10 => ?_) (fun zh10 => ?_))
          · replace zh10 : M 27 2 ≠ (8 : Int) := zh10
            change AW ev false 2 t_X8_addStation Q 56 [some (vR 27), some (vI c), some (vI v), some (vI w)] [vR 27] M
            refine AW.go pk_X8_addStation 28 7 rfl rfl ?_
            refine And.intro (show Inr 0 from ⟨by omega, by omega⟩) (And.intro (fun zh11 => ?_) (fun zh11 => ?_))
            · replace zh11 : (0 : Int) ≤ (0 : Int) := zh11
              change AW ev false 2 t_X8_addStation Q 69 [some (vR 27), some (vI c), some (vI v), some (vI w)] [] (upM M 27 0 0)
              refine AW.go pk_X8_addStation 35 29 rfl rfl ?_
              refine And.intro (show ((0 ≤ M 27 2 ∧ M 27 2 < 8) ∧ ((0 : Nat) = 0 ∨ c = 0 ∨ c = 1)) from ⟨by omega, Or.inl rfl⟩) ?_
              refine And.intro (show ((0 ≤ M 27 2 ∧ M 27 2 < 8) ∧ ((0 : Nat) = 0 ∨ v = 0 ∨ v = 1)) from ⟨by omega, Or.inl rfl⟩) ?_
              refine And.intro (show ((0 ≤ M 27 2 ∧ M 27 2 < 8) ∧ ((0 : Nat) = 0 ∨ w = 0 ∨ w = 1)) from ⟨by omega, Or.inl rfl⟩) ?_
              refine And.intro rfl ?_
              first
                | exact QcI (Q := Q) (show ((M 27 2) + 1) - 1 = M 27 2 from by first | rfl | omega) (show (upM (upM (upM (upM (upM M 27 0 0) 29 (M 27 2) c) 30 (M 27 2) v) 31 (M 27 2) w) 27 2 ((M 27 2) + 1)) = (upM (upM (upM (upM (upM M 27 0 0) 29 (M 27 2) c) 30 (M 27 2) v) 31 (M 27 2) w) 27 2 ((M 27 2) + 1)) from by rfl) (zQ0 (by first | omega | exact ⟨(by clear zk1 zk2; omega), fun q => by have := zk2 q; clear zk1 zk2 q; omega, (by clear zk1 zk2; omega)⟩ | exact ⟨(by clear zk1 zk2; omega), Or.inl (zk1 (by clear zk1 zk2; omega))⟩ | exact ⟨(by clear zk1 zk2; omega), Or.inr (by clear zk1 zk2; omega)⟩))
                | exact QcI (Q := Q) (show ((M 27 2) + 1) - 1 = (0 : Int) from by first | rfl | omega) (show (upM (upM (upM (upM (upM M 27 0 0) 29 (M 27 2) c) 30 (M 27 2) v) 31 (M 27 2) w) 27 2 ((M 27 2) + 1)) = (upM M 27 0 1) from by rfl) (zQ1 (by first | omega | exact ⟨(by clear zk1 zk2; omega), fun q => by have := zk2 q; clear zk1 zk2 q; omega, (by clear zk1 zk2; omega)⟩ | exact ⟨(by clear zk1 zk2; omega), Or.inl (zk1 (by clear zk1 zk2; omega))⟩ | exact ⟨(by clear zk1 zk2; omega), Or.inr (by clear zk1 zk2; omega)⟩))
                | exact QcI (Q := Q) (show ((M 27 2) + 1) - 1 = (0 : Int) from by first | rfl | omega) (show (upM (upM (upM (upM (upM M 27 0 0) 29 (M 27 2) c) 30 (M 27 2) v) 31 (M 27 2) w) 27 2 ((M 27 2) + 1)) = (upM M 27 0 2) from by rfl) (zQ2 (by first | omega | exact ⟨(by clear zk1 zk2; omega), fun q => by have := zk2 q; clear zk1 zk2 q; omega, (by clear zk1 zk2; omega)⟩ | exact ⟨(by clear zk1 zk2; omega), Or.inl (zk1 (by clear zk1 zk2; omega))⟩ | exact ⟨(by clear zk1 zk2; omega), Or.inr (by clear zk1 zk2; omega)⟩))
                | exact QcI (Q := Q) (show ((M 27 2) + 1) - 1 = (0 : Int) from by first | rfl | omega) (show (upM (upM (upM (upM (upM M 27 0 0) 29 (M 27 2) c) 30 (M 27 2) v) 31 (M 27 2) w) 27 2 ((M 27 2) + 1)) = (upM M 27 0 3) from by rfl) (zQ3 (by first | omega | exact ⟨(by clear zk1 zk2; omega), fun q => by have := zk2 q; clear zk1 zk2 q; omega, (by clear zk1 zk2; omega)⟩ | exact ⟨(by clear zk1 zk2; omega), Or.inl (zk1 (by clear zk1 zk2; omega))⟩ | exact ⟨(by clear zk1 zk2; omega), Or.inr (by clear zk1 zk2; omega)⟩))
            · replace zh11 : ¬ ((0 : Int) ≤ (0 : Int)) := zh11
              exfalso; omega
          · replace zh10 : ¬ (M 27 2 ≠ (8 : Int)) := zh10
            change AW ev false 2 t_X8_addStation Q 57 [some (vR 27), some (vI c), some (vI v), some (vI w)] [vI 3, vR 27] M
            refine AW.go pk_X8_addStation 29 6 rfl rfl ?_
            refine And.intro (show Inr 3 from ⟨by omega, by omega⟩) (And.intro (fun zh12 => ?_) (fun zh12 => ?_))
            · replace zh12 : (3 : Int) ≤ (0 : Int) := zh12
              exfalso; omega
            · replace zh12 : ¬ ((3 : Int) ≤ (0 : Int)) := zh12
              refine And.intro rfl ?_
              first
                | exact QcI (Q := Q) (show (0 : Int) = M 27 2 from by first | rfl | omega) (show (upM M 27 0 3) = (upM (upM (upM (upM (upM M 27 0 0) 29 (M 27 2) c) 30 (M 27 2) v) 31 (M 27 2) w) 27 2 ((M 27 2) + 1)) from by rfl) (zQ0 (by first | omega | exact ⟨(by clear zk1 zk2; omega), fun q => by have := zk2 q; clear zk1 zk2 q; omega, (by clear zk1 zk2; omega)⟩ | exact ⟨(by clear zk1 zk2; omega), Or.inl (zk1 (by clear zk1 zk2; omega))⟩ | exact ⟨(by clear zk1 zk2; omega), Or.inr (by clear zk1 zk2; omega)⟩))
                | exact QcI (Q := Q) (show (0 : Int) = (0 : Int) from by first | rfl | omega) (show (upM M 27 0 3) = (upM M 27 0 1) from by rfl) (zQ1 (by first | omega | exact ⟨(by clear zk1 zk2; omega), fun q => by have := zk2 q; clear zk1 zk2 q; omega, (by clear zk1 zk2; omega)⟩ | exact ⟨(by clear zk1 zk2; omega), Or.inl (zk1 (by clear zk1 zk2; omega))⟩ | exact ⟨(by clear zk1 zk2; omega), Or.inr (by clear zk1 zk2; omega)⟩))
                | exact QcI (Q := Q) (show (0 : Int) = (0 : Int) from by first | rfl | omega) (show (upM M 27 0 3) = (upM M 27 0 2) from by rfl) (zQ2 (by first | omega | exact ⟨(by clear zk1 zk2; omega), fun q => by have := zk2 q; clear zk1 zk2 q; omega, (by clear zk1 zk2; omega)⟩ | exact ⟨(by clear zk1 zk2; omega), Or.inl (zk1 (by clear zk1 zk2; omega))⟩ | exact ⟨(by clear zk1 zk2; omega), Or.inr (by clear zk1 zk2; omega)⟩))
                | exact QcI (Q := Q) (show (0 : Int) = (0 : Int) from by first | rfl | omega) (show (upM M 27 0 3) = (upM M 27 0 3) from by rfl) (zQ3 (by first | omega | exact ⟨(by clear zk1 zk2; omega), fun q => by have := zk2 q; clear zk1 zk2 q; omega, (by clear zk1 zk2; omega)⟩ | exact ⟨(by clear zk1 zk2; omega), Or.inl (zk1 (by clear zk1 zk2; omega))⟩ | exact ⟨(by clear zk1 zk2; omega), Or.inr (by clear zk1 zk2; omega)⟩))
      · replace zh7 : ¬ (zr6 ≠ (0 : Int)) := zh7
        change AW ev false 2 t_X8_addStation Q 57 [some (vR 27), some (vI c), some (vI v), some (vI w)] [vI 2, vR 27] M
        refine AW.go pk_X8_addStation 29 6 rfl rfl ?_
        refine And.intro (show Inr 2 from ⟨by omega, by omega⟩) (And.intro (fun zh13 => ?_) (fun zh13 => ?_))
        · replace zh13 : (2 : Int) ≤ (0 : Int) := zh13
          exfalso; omega
        · replace zh13 : ¬ ((2 : Int) ≤ (0 : Int)) := zh13
          refine And.intro rfl ?_
          first
            | exact QcI (Q := Q) (show (0 : Int) = M 27 2 from by first | rfl | omega) (show (upM M 27 0 2) = (upM (upM (upM (upM (upM M 27 0 0) 29 (M 27 2) c) 30 (M 27 2) v) 31 (M 27 2) w) 27 2 ((M 27 2) + 1)) from by rfl) (zQ0 (by first | omega | exact ⟨(by clear zk1 zk2; omega), fun q => by have := zk2 q; clear zk1 zk2 q; omega, (by clear zk1 zk2; omega)⟩ | exact ⟨(by clear zk1 zk2; omega), Or.inl (zk1 (by clear zk1 zk2; omega))⟩ | exact ⟨(by clear zk1 zk2; omega), Or.inr (by clear zk1 zk2; omega)⟩))
            | exact QcI (Q := Q) (show (0 : Int) = (0 : Int) from by first | rfl | omega) (show (upM M 27 0 2) = (upM M 27 0 1) from by rfl) (zQ1 (by first | omega | exact ⟨(by clear zk1 zk2; omega), fun q => by have := zk2 q; clear zk1 zk2 q; omega, (by clear zk1 zk2; omega)⟩ | exact ⟨(by clear zk1 zk2; omega), Or.inl (zk1 (by clear zk1 zk2; omega))⟩ | exact ⟨(by clear zk1 zk2; omega), Or.inr (by clear zk1 zk2; omega)⟩))
            | exact QcI (Q := Q) (show (0 : Int) = (0 : Int) from by first | rfl | omega) (show (upM M 27 0 2) = (upM M 27 0 2) from by rfl) (zQ2 (by first | omega | exact ⟨(by clear zk1 zk2; omega), fun q => by have := zk2 q; clear zk1 zk2 q; omega, (by clear zk1 zk2; omega)⟩ | exact ⟨(by clear zk1 zk2; omega), Or.inl (zk1 (by clear zk1 zk2; omega))⟩ | exact ⟨(by clear zk1 zk2; omega), Or.inr (by clear zk1 zk2; omega)⟩))
            | exact QcI (Q := Q) (show (0 : Int) = (0 : Int) from by first | rfl | omega) (show (upM M 27 0 2) = (upM M 27 0 3) from by rfl) (zQ3 (by first | omega | exact ⟨(by clear zk1 zk2; omega), fun q => by have := zk2 q; clear zk1 zk2 q; omega, (by clear zk1 zk2; omega)⟩ | exact ⟨(by clear zk1 zk2; omega), Or.inl (zk1 (by clear zk1 zk2; omega))⟩ | exact ⟨(by clear zk1 zk2; omega), Or.inr (by clear zk1 zk2; omega)⟩))
  · replace zh2 : ¬ (zr1 ≠ (0 : Int)) := zh2
    change AW ev false 2 t_X8_addStation Q 57 [some (vR 27), some (vI c), some (vI v), some (vI w)] [vI 1, vR 27] M
    refine AW.go pk_X8_addStation 29 6 rfl rfl ?_
    refine And.intro (show Inr 1 from ⟨by omega, by omega⟩) (And.intro (fun zh14 => ?_) (fun zh14 => ?_))
    · replace zh14 : (1 : Int) ≤ (0 : Int) := zh14
      exfalso; omega
    · replace zh14 : ¬ ((1 : Int) ≤ (0 : Int)) := zh14
      refine And.intro rfl ?_
      first
        | exact QcI (Q := Q) (show (0 : Int) = M 27 2 from by first | rfl | omega) (show (upM M 27 0 1) = (upM (upM (upM (upM (upM M 27 0 0) 29 (M 27 2) c) 30 (M 27 2) v) 31 (M 27 2) w) 27 2 ((M 27 2) + 1)) from by rfl) (zQ0 (by first | omega | exact ⟨(by clear zk1 zk2; omega), fun q => by have := zk2 q; clear zk1 zk2 q; omega, (by clear zk1 zk2; omega)⟩ | exact ⟨(by clear zk1 zk2; omega), Or.inl (zk1 (by clear zk1 zk2; omega))⟩ | exact ⟨(by clear zk1 zk2; omega), Or.inr (by clear zk1 zk2; omega)⟩))
        | exact QcI (Q := Q) (show (0 : Int) = (0 : Int) from by first | rfl | omega) (show (upM M 27 0 1) = (upM M 27 0 1) from by rfl) (zQ1 (by first | omega | exact ⟨(by clear zk1 zk2; omega), fun q => by have := zk2 q; clear zk1 zk2 q; omega, (by clear zk1 zk2; omega)⟩ | exact ⟨(by clear zk1 zk2; omega), Or.inl (zk1 (by clear zk1 zk2; omega))⟩ | exact ⟨(by clear zk1 zk2; omega), Or.inr (by clear zk1 zk2; omega)⟩))
        | exact QcI (Q := Q) (show (0 : Int) = (0 : Int) from by first | rfl | omega) (show (upM M 27 0 1) = (upM M 27 0 2) from by rfl) (zQ2 (by first | omega | exact ⟨(by clear zk1 zk2; omega), fun q => by have := zk2 q; clear zk1 zk2 q; omega, (by clear zk1 zk2; omega)⟩ | exact ⟨(by clear zk1 zk2; omega), Or.inl (zk1 (by clear zk1 zk2; omega))⟩ | exact ⟨(by clear zk1 zk2; omega), Or.inr (by clear zk1 zk2; omega)⟩))
        | exact QcI (Q := Q) (show (0 : Int) = (0 : Int) from by first | rfl | omega) (show (upM M 27 0 1) = (upM M 27 0 3) from by rfl) (zQ3 (by first | omega | exact ⟨(by clear zk1 zk2; omega), fun q => by have := zk2 q; clear zk1 zk2 q; omega, (by clear zk1 zk2; omega)⟩ | exact ⟨(by clear zk1 zk2; omega), Or.inl (zk1 (by clear zk1 zk2; omega))⟩ | exact ⟨(by clear zk1 zk2; omega), Or.inr (by clear zk1 zk2; omega)⟩))
theorem c_X8_setMast {ev : Ev} {Q : Out → Mem → Prop} {M : Mem}  (s : Int) (v : Int) (zp0 : SJ M) (zp1 : -2147483648 ≤ s ∧ s < 2147483648) (zp2 : -2147483648 ≤ v ∧ v < 2147483648) (zQ0 : (0 ≤ s ∧ s < M 27 2) ∧ 0 ≤ v ∧ v ≤ 50 → Q (.inl (some (vI (M 30 s)))) (upM (upM M 27 0 0) 30 s v)) (zQ1 : ¬ (0 ≤ s ∧ s < M 27 2) → Q (.inl (some (vI 0))) (upM M 27 0 1)) (zQ2 : (0 ≤ s ∧ s < M 27 2) ∧ ¬ (0 ≤ v ∧ v ≤ 50) → Q (.inl (some (vI 0))) (upM M 27 0 2)) : AM ev false 2 t_X8_setMast [vR 27, vI s, vI v] M Q := by
  have zs := zp0.1
  refine AM.of mt_X8_setMast (Nat.le_of_ble_eq_true rfl) ?_
  change AW ev false 2 t_X8_setMast Q 0 [some (vR 27), some (vI s), some (vI v), none] [] M
  refine AW.go pk_X8_setMast 0 4 rfl rfl ?_
  change AW ev false 2 t_X8_setMast Q 3 [some (vR 27), some (vI s), some (vI v), none] [vI s, vR 27, vR 27] M
  refine AW.callV (d' := 1) [vI s] [vR 27] vm_X8_isStation rfl hX8_158 (okP_d pk_X8_setMast 3 3 (.invokevirtual 158) 3 rfl) (by decide) rfl (Nat.le_of_ble_eq_true rfl) ?_
  refine c_X8_isStation s (by omega) (by omega) (fun zr1 zzr1 => ?_)
  change AW ev false 2 t_X8_setMast Q 6 [some (vR 27), some (vI s), some (vI v), none] [vI zr1, vR 27] M
  refine AW.go pk_X8_setMast 4 3 rfl rfl ?_
  refine And.intro (show Inr zr1 from ⟨by omega, by omega⟩) (And.intro (fun zh2 => ?_) (fun zh2 => ?_))
  · replace zh2 : zr1 ≠ (0 : Int) := zh2
    change AW ev false 2 t_X8_setMast Q 13 [some (vR 27), some (vI s), some (vI v), none] [vR 27] M
    refine AW.go pk_X8_setMast 7 4 rfl rfl ?_
    change AW ev false 2 t_X8_setMast Q 17 [some (vR 27), some (vI s), some (vI v), none] [vI 50, vI 0, vI v, vR 27] M
    refine AW.callS (d' := 0) [vI v, vI 0, vI 50] [vR 27] sm_X8_within hX8_69 (okP_d pk_X8_setMast 10 17 (.invokestatic 69) 3 rfl) (by decide) rfl (Nat.le_of_ble_eq_true rfl) ?_
    refine c_X8_within v 0 50 (by omega) (by omega) (by omega) (fun zr3 zzr3 => ?_)
    change AW ev false 2 t_X8_setMast Q 20 [some (vR 27), some (vI s), some (vI v), none] [vI zr3, vR 27] M
    refine AW.go pk_X8_setMast 11 3 rfl rfl ?_
    refine And.intro (show Inr zr3 from ⟨by omega, by omega⟩) (And.intro (fun zh4 => ?_) (fun zh4 => ?_))
    · replace zh4 : zr3 = (0 : Int) := zh4
      change AW ev false 2 t_X8_setMast Q 27 [some (vR 27), some (vI s), some (vI v), none] [vR 27] M
      refine AW.go pk_X8_setMast 14 7 rfl rfl ?_
      refine And.intro (show Inr 2 from ⟨by omega, by omega⟩) (And.intro (fun zh5 => ?_) (fun zh5 => ?_))
      · replace zh5 : (2 : Int) ≤ (0 : Int) := zh5
        exfalso; omega
      · replace zh5 : ¬ ((2 : Int) ≤ (0 : Int)) := zh5
        refine And.intro rfl ?_
        first
          | exact QcI (Q := Q) (show (0 : Int) = M 30 s from by first | rfl | omega) (show (upM M 27 0 2) = (upM (upM M 27 0 0) 30 s v) from by rfl) (zQ0 (by omega))
          | exact QcI (Q := Q) (show (0 : Int) = (0 : Int) from by first | rfl | omega) (show (upM M 27 0 2) = (upM M 27 0 1) from by rfl) (zQ1 (by omega))
          | exact QcI (Q := Q) (show (0 : Int) = (0 : Int) from by first | rfl | omega) (show (upM M 27 0 2) = (upM M 27 0 2) from by rfl) (zQ2 (by omega))
    · replace zh4 : ¬ (zr3 = (0 : Int)) := zh4
      change AW ev false 2 t_X8_setMast Q 28 [some (vR 27), some (vI s), some (vI v), none] [vI 0, vR 27] M
      refine AW.go pk_X8_setMast 15 6 rfl rfl ?_
      refine And.intro (show Inr 0 from ⟨by omega, by omega⟩) (And.intro (fun zh6 => ?_) (fun zh6 => ?_))
      · replace zh6 : (0 : Int) ≤ (0 : Int) := zh6
        change AW ev false 2 t_X8_setMast Q 40 [some (vR 27), some (vI s), some (vI v), none] [] (upM M 27 0 0)
        refine AW.go pk_X8_setMast 21 12 rfl rfl ?_
        refine And.intro (show (0 ≤ s ∧ s < 8) from (by omega)) ?_
        refine And.intro (show 3 < mL t_X8_setMast from (by decide)) ?_
        refine And.intro (show ((0 ≤ s ∧ s < 8) ∧ ((0 : Nat) = 0 ∨ v = 0 ∨ v = 1)) from ⟨by omega, Or.inl rfl⟩) ?_
        refine And.intro rfl ?_
        first
          | exact QcI (Q := Q) (show M 30 s = M 30 s from by first | rfl | omega) (show (upM (upM M 27 0 0) 30 s v) = (upM (upM M 27 0 0) 30 s v) from by rfl) (zQ0 (by omega))
          | exact QcI (Q := Q) (show M 30 s = (0 : Int) from by first | rfl | omega) (show (upM (upM M 27 0 0) 30 s v) = (upM M 27 0 1) from by rfl) (zQ1 (by omega))
          | exact QcI (Q := Q) (show M 30 s = (0 : Int) from by first | rfl | omega) (show (upM (upM M 27 0 0) 30 s v) = (upM M 27 0 2) from by rfl) (zQ2 (by omega))
      · replace zh6 : ¬ ((0 : Int) ≤ (0 : Int)) := zh6
        exfalso; omega
  · replace zh2 : ¬ (zr1 ≠ (0 : Int)) := zh2
    change AW ev false 2 t_X8_setMast Q 28 [some (vR 27), some (vI s), some (vI v), none] [vI 1, vR 27] M
    refine AW.go pk_X8_setMast 15 6 rfl rfl ?_
    refine And.intro (show Inr 1 from ⟨by omega, by omega⟩) (And.intro (fun zh7 => ?_) (fun zh7 => ?_))
    · replace zh7 : (1 : Int) ≤ (0 : Int) := zh7
      exfalso; omega
    · replace zh7 : ¬ ((1 : Int) ≤ (0 : Int)) := zh7
      refine And.intro rfl ?_
      first
        | exact QcI (Q := Q) (show (0 : Int) = M 30 s from by first | rfl | omega) (show (upM M 27 0 1) = (upM (upM M 27 0 0) 30 s v) from by rfl) (zQ0 (by omega))
        | exact QcI (Q := Q) (show (0 : Int) = (0 : Int) from by first | rfl | omega) (show (upM M 27 0 1) = (upM M 27 0 1) from by rfl) (zQ1 (by omega))
        | exact QcI (Q := Q) (show (0 : Int) = (0 : Int) from by first | rfl | omega) (show (upM M 27 0 1) = (upM M 27 0 2) from by rfl) (zQ2 (by omega))
theorem lz_doubles {ev : Ev} {Q : Out → Mem → Prop} {M : Mem}   (zp0 : SJ M)  : ∀ (n : Nat) (i : Int) (s : Int), i + n = M 27 2 → (0 ≤ i) → (∀ r : Int, r = itT (fun j s => s + (M 31 j - 1)) n i s → Q (.inl (some (vI r))) M) → AW ev false 0 t_X8_doubles Q 4 [some (vR 27), some (vI s), some (vI i)] [] M := by
  intro n
  induction n with
  | zero =>
    intro i s zn zv0 zv1
    have zs := zp0.1
    refine AW.go pk_X8_doubles 4 15 rfl rfl ?_
    refine And.intro (show Inr i ∧ Inr (M 27 2) from ⟨⟨by omega, by omega⟩, ⟨by omega, by omega⟩⟩) (And.intro (fun zh1 => ?_) (fun zh1 => ?_))
    · replace zh1 : M 27 2 ≤ i := zh1
      change AW ev false 0 t_X8_doubles Q 29 [some (vR 27), some (vI s), some (vI i)] [] M
      refine AW.go pk_X8_doubles 19 2 rfl rfl ?_
      refine And.intro rfl ?_
      exact zv1 _ rfl
    · replace zh1 : ¬ (M 27 2 ≤ i) := zh1
      exfalso; omega
  | succ n zih =>
    intro i s zn zv0 zv1
    have zs := zp0.1
    refine AW.go pk_X8_doubles 4 15 rfl rfl ?_
    refine And.intro (show Inr i ∧ Inr (M 27 2) from ⟨⟨by omega, by omega⟩, ⟨by omega, by omega⟩⟩) (And.intro (fun zh1 => ?_) (fun zh1 => ?_))
    · replace zh1 : M 27 2 ≤ i := zh1
      exfalso; omega
    · replace zh1 : ¬ (M 27 2 ≤ i) := zh1
      refine And.intro (show (0 ≤ i ∧ i < 8) from (by omega)) ?_
      refine And.intro (show 1 < mL t_X8_doubles from (by decide)) ?_
      refine And.intro (show 2 < mL t_X8_doubles from (by decide)) ?_
      change AW ev false 0 t_X8_doubles Q 4 [some (vR 27), some (vI (s + ((M 31 i) - 1))), some (vI (i + 1))] [] M
      exact zih (i + 1) (s + ((M 31 i) - 1)) (by omega) (by omega) (fun r zr => zv1 r (itT_step (rfl) zr))
theorem c_X8_doubles {ev : Ev} {Q : Out → Mem → Prop} {M : Mem}   (zp0 : SJ M) (zQ : ∀ (r : Int), r = c2T (M 31) (M 27 2).toNat 0 0 → Q (.inl (some (vI r))) M) : AM ev false 0 t_X8_doubles [vR 27] M Q := by
  have zs := zp0.1
  refine AM.of mt_X8_doubles (Nat.le_of_ble_eq_true rfl) ?_
  change AW ev false 0 t_X8_doubles Q 0 [some (vR 27), none, none] [] M
  refine AW.go pk_X8_doubles 0 4 rfl rfl ?_
  refine And.intro (show 1 < mL t_X8_doubles from (by decide)) ?_
  refine And.intro (show 2 < mL t_X8_doubles from (by decide)) ?_
  change AW ev false 0 t_X8_doubles Q 4 [some (vR 27), some (vI 0), some (vI 0)] [] M
  exact lz_doubles zp0 (M 27 2).toNat 0 0 (by omega) (by omega) (fun r zr => zQ r (by rw [zr, c2T_add _ _ _ (fun j q0 q1 => (zp0.2.1 j q0 (by omega)).2.2)]))
theorem c_X8_lend {ev : Ev} {Q : Out → Mem → Prop} {M : Mem}  (a : Int) (b : Int) (zp0 : SJ M) (zp1 : -2147483648 ≤ a ∧ a < 2147483648) (zp2 : -2147483648 ≤ b ∧ b < 2147483648) (zQ0 : ((0 ≤ a ∧ a < M 27 2) ∧ 0 ≤ b ∧ b < M 27 2) ∧ M 31 a = 2 ∧ M 31 b = 1 → Q (.inl (some (vI (c2T (upM (upM (upM M 27 0 0) 31 a 1) 31 b 2 31) (M 27 2).toNat 0 0)))) (upM (upM (upM M 27 0 0) 31 a 1) 31 b 2)) (zQ1 : ¬ ((0 ≤ a ∧ a < M 27 2) ∧ 0 ≤ b ∧ b < M 27 2) → Q (.inl (some (vI 0))) (upM M 27 0 1)) (zQ2 : ((0 ≤ a ∧ a < M 27 2) ∧ 0 ≤ b ∧ b < M 27 2) ∧ ¬ (M 31 a = 2 ∧ M 31 b = 1) → Q (.inl (some (vI 0))) (upM M 27 0 2)) : AM ev false 2 t_X8_lend [vR 27, vI a, vI b] M Q := by
  have zs := zp0.1
  have zfa := fun (q : 0 ≤ a ∧ a < M 27 2) => (zp0.2.1 a q.1 q.2).2.2
  have zfb := fun (q : 0 ≤ b ∧ b < M 27 2) => (zp0.2.1 b q.1 q.2).2.2
  refine AM.of mt_X8_lend (Nat.le_of_ble_eq_true rfl) ?_
  change AW ev false 2 t_X8_lend Q 0 [some (vR 27), some (vI a), some (vI b)] [] M
  refine AW.go pk_X8_lend 0 4 rfl rfl ?_
  change AW ev false 2 t_X8_lend Q 3 [some (vR 27), some (vI a), some (vI b)] [vI a, vR 27, vR 27] M
  refine AW.callV (d' := 1) [vI a] [vR 27] vm_X8_isStation rfl hX8_158 (okP_d pk_X8_lend 3 3 (.invokevirtual 158) 3 rfl) (by decide) rfl (Nat.le_of_ble_eq_true rfl) ?_
  refine c_X8_isStation a (by omega) (by omega) (fun zr1 zzr1 => ?_)
  change AW ev false 2 t_X8_lend Q 6 [some (vR 27), some (vI a), some (vI b)] [vI zr1, vR 27] M
  refine AW.go pk_X8_lend 4 4 rfl rfl ?_
  refine And.intro (show Inr zr1 from ⟨by omega, by omega⟩) (And.intro (fun zh2 => ?_) (fun zh2 => ?_))
  · replace zh2 : zr1 = (0 : Int) := zh2
    change AW ev false 2 t_X8_lend Q 17 [some (vR 27), some (vI a), some (vI b)] [vR 27] M
    refine AW.go pk_X8_lend 9 2 rfl rfl ?_
    change AW ev false 2 t_X8_lend Q 46 [some (vR 27), some (vI a), some (vI b)] [vI 1, vR 27] M
    refine AW.go pk_X8_lend 26 6 rfl rfl ?_
    refine And.intro (show Inr 1 from ⟨by omega, by omega⟩) (And.intro (fun zh3 => ?_) (fun zh3 => ?_))
    · replace zh3 : (1 : Int) ≤ (0 : Int) := zh3
      exfalso; omega
    · replace zh3 : ¬ ((1 : Int) ≤ (0 : Int)) := zh3
      refine And.intro rfl ?_
      first
        | exact QcI (Q := Q) (show (0 : Int) = c2T (upM (upM (upM M 27 0 0) 31 a 1) 31 b 2 31) (M 27 2).toNat 0 0 from by first | rfl | omega) (show (upM M 27 0 1) = (upM (upM (upM M 27 0 0) 31 a 1) 31 b 2) from by rfl) (zQ0 (by omega))
        | exact QcI (Q := Q) (show (0 : Int) = (0 : Int) from by first | rfl | omega) (show (upM M 27 0 1) = (upM M 27 0 1) from by rfl) (zQ1 (by omega))
        | exact QcI (Q := Q) (show (0 : Int) = (0 : Int) from by first | rfl | omega) (show (upM M 27 0 1) = (upM M 27 0 2) from by rfl) (zQ2 (by omega))
  · replace zh2 : ¬ (zr1 = (0 : Int)) := zh2
    change AW ev false 2 t_X8_lend Q 11 [some (vR 27), some (vI a), some (vI b)] [vI b, vR 27, vR 27] M
    refine AW.callV (d' := 1) [vI b] [vR 27] vm_X8_isStation rfl hX8_158 (okP_d pk_X8_lend 7 11 (.invokevirtual 158) 3 rfl) (by decide) rfl (Nat.le_of_ble_eq_true rfl) ?_
    refine c_X8_isStation b (by omega) (by omega) (fun zr4 zzr4 => ?_)
    change AW ev false 2 t_X8_lend Q 14 [some (vR 27), some (vI a), some (vI b)] [vI zr4, vR 27] M
    refine AW.go pk_X8_lend 8 3 rfl rfl ?_
    refine And.intro (show Inr zr4 from ⟨by omega, by omega⟩) (And.intro (fun zh5 => ?_) (fun zh5 => ?_))
    · replace zh5 : zr4 ≠ (0 : Int) := zh5
      change AW ev false 2 t_X8_lend Q 21 [some (vR 27), some (vI a), some (vI b)] [vR 27] M
      have zga := zfa (by omega)
      have zgb := zfb (by omega)
      refine AW.go pk_X8_lend 11 14 rfl rfl ?_
      refine And.intro (show (0 ≤ a ∧ a < 8) from (by omega)) ?_
      refine And.intro (show Inr (M 31 a) ∧ Inr 1 from ⟨⟨by omega, by omega⟩, ⟨by omega, by omega⟩⟩) (And.intro (fun zh6 => ?_) (fun zh6 => ?_))
      · replace zh6 : M 31 a = (1 : Int) := zh6
        change AW ev false 2 t_X8_lend Q 41 [some (vR 27), some (vI a), some (vI b)] [vR 27] M
        refine AW.go pk_X8_lend 23 2 rfl rfl ?_
        change AW ev false 2 t_X8_lend Q 46 [some (vR 27), some (vI a), some (vI b)] [vI 2, vR 27] M
        refine AW.go pk_X8_lend 26 6 rfl rfl ?_
        refine And.intro (show Inr 2 from ⟨by omega, by omega⟩) (And.intro (fun zh7 => ?_) (fun zh7 => ?_))
        · replace zh7 : (2 : Int) ≤ (0 : Int) := zh7
          exfalso; omega
        · replace zh7 : ¬ ((2 : Int) ≤ (0 : Int)) := zh7
          refine And.intro rfl ?_
          first
            | exact QcI (Q := Q) (show (0 : Int) = c2T (upM (upM (upM M 27 0 0) 31 a 1) 31 b 2 31) (M 27 2).toNat 0 0 from by first | rfl | omega) (show (upM M 27 0 2) = (upM (upM (upM M 27 0 0) 31 a 1) 31 b 2) from by rfl) (zQ0 (by omega))
            | exact QcI (Q := Q) (show (0 : Int) = (0 : Int) from by first | rfl | omega) (show (upM M 27 0 2) = (upM M 27 0 1) from by rfl) (zQ1 (by omega))
            | exact QcI (Q := Q) (show (0 : Int) = (0 : Int) from by first | rfl | omega) (show (upM M 27 0 2) = (upM M 27 0 2) from by rfl) (zQ2 (by omega))
      · replace zh6 : ¬ (M 31 a = (1 : Int)) := zh6
        refine And.intro (show (0 ≤ b ∧ b < 8) from (by omega)) ?_
        refine And.intro (show Inr (M 31 b) ∧ Inr 2 from ⟨⟨by omega, by omega⟩, ⟨by omega, by omega⟩⟩) (And.intro (fun zh8 => ?_) (fun zh8 => ?_))
        · replace zh8 : M 31 b ≠ (2 : Int) := zh8
          change AW ev false 2 t_X8_lend Q 45 [some (vR 27), some (vI a), some (vI b)] [vR 27] M
          refine AW.go pk_X8_lend 25 7 rfl rfl ?_
          refine And.intro (show Inr 0 from ⟨by omega, by omega⟩) (And.intro (fun zh9 => ?_) (fun zh9 => ?_))
          · replace zh9 : (0 : Int) ≤ (0 : Int) := zh9
            change AW ev false 2 t_X8_lend Q 58 [some (vR 27), some (vI a), some (vI b)] [] (upM M 27 0 0)
            refine AW.go pk_X8_lend 32 12 rfl rfl ?_
            refine And.intro (show ((0 ≤ a ∧ a < 8) ∧ ((0 : Nat) = 0 ∨ (1 : Int) = 0 ∨ (1 : Int) = 1)) from ⟨by omega, Or.inl rfl⟩) ?_
            refine And.intro (show ((0 ≤ b ∧ b < 8) ∧ ((0 : Nat) = 0 ∨ (2 : Int) = 0 ∨ (2 : Int) = 1)) from ⟨by omega, Or.inl rfl⟩) ?_
            change AW ev false 2 t_X8_lend Q 73 [some (vR 27), some (vI a), some (vI b)] [vR 27] (upM (upM (upM M 27 0 0) 31 a 1) 31 b 2)
            refine AW.callV (d' := 0) [] [] vm_X8_doubles rfl hX8_161 (okP_d pk_X8_lend 43 73 (.invokevirtual 161) 3 rfl) (by decide) rfl (Nat.le_of_ble_eq_true rfl) ?_
            refine c_X8_doubles  ((zp0.mir (by omega)).mir (by omega)) (fun w3 zw3 => ?_)
            change AW ev false 2 t_X8_lend Q 76 [some (vR 27), some (vI a), some (vI b)] [vI w3] (upM (upM (upM M 27 0 0) 31 a 1) 31 b 2)
            refine AW.go pk_X8_lend 44 1 rfl rfl ?_
            refine And.intro rfl ?_
            rw [zw3]
            exact zQ0 (by omega)
          · replace zh9 : ¬ ((0 : Int) ≤ (0 : Int)) := zh9
            exfalso; omega
        · replace zh8 : ¬ (M 31 b ≠ (2 : Int)) := zh8
          change AW ev false 2 t_X8_lend Q 46 [some (vR 27), some (vI a), some (vI b)] [vI 2, vR 27] M
          refine AW.go pk_X8_lend 26 6 rfl rfl ?_
          refine And.intro (show Inr 2 from ⟨by omega, by omega⟩) (And.intro (fun zh10 => ?_) (fun zh10 => ?_))
          · replace zh10 : (2 : Int) ≤ (0 : Int) := zh10
            exfalso; omega
          · replace zh10 : ¬ ((2 : Int) ≤ (0 : Int)) := zh10
            refine And.intro rfl ?_
            first
              | exact QcI (Q := Q) (show (0 : Int) = c2T (upM (upM (upM M 27 0 0) 31 a 1) 31 b 2 31) (M 27 2).toNat 0 0 from by first | rfl | omega) (show (upM M 27 0 2) = (upM (upM (upM M 27 0 0) 31 a 1) 31 b 2) from by rfl) (zQ0 (by omega))
              | exact QcI (Q := Q) (show (0 : Int) = (0 : Int) from by first | rfl | omega) (show (upM M 27 0 2) = (upM M 27 0 1) from by rfl) (zQ1 (by omega))
              | exact QcI (Q := Q) (show (0 : Int) = (0 : Int) from by first | rfl | omega) (show (upM M 27 0 2) = (upM M 27 0 2) from by rfl) (zQ2 (by omega))
    · replace zh5 : ¬ (zr4 ≠ (0 : Int)) := zh5
      change AW ev false 2 t_X8_lend Q 46 [some (vR 27), some (vI a), some (vI b)] [vI 1, vR 27] M
      refine AW.go pk_X8_lend 26 6 rfl rfl ?_
      refine And.intro (show Inr 1 from ⟨by omega, by omega⟩) (And.intro (fun zh11 => ?_) (fun zh11 => ?_))
      · replace zh11 : (1 : Int) ≤ (0 : Int) := zh11
        exfalso; omega
      · replace zh11 : ¬ ((1 : Int) ≤ (0 : Int)) := zh11
        refine And.intro rfl ?_
        first
          | exact QcI (Q := Q) (show (0 : Int) = c2T (upM (upM (upM M 27 0 0) 31 a 1) 31 b 2 31) (M 27 2).toNat 0 0 from by first | rfl | omega) (show (upM M 27 0 1) = (upM (upM (upM M 27 0 0) 31 a 1) 31 b 2) from by rfl) (zQ0 (by omega))
          | exact QcI (Q := Q) (show (0 : Int) = (0 : Int) from by first | rfl | omega) (show (upM M 27 0 1) = (upM M 27 0 1) from by rfl) (zQ1 (by omega))
          | exact QcI (Q := Q) (show (0 : Int) = (0 : Int) from by first | rfl | omega) (show (upM M 27 0 1) = (upM M 27 0 2) from by rfl) (zQ2 (by omega))
theorem c_X8_addCloud {ev : Ev} {Q : Out → Mem → Prop} {M : Mem}  (a : Int) (b : Int) (f : Int) (t : Int) (zp0 : -2147483648 ≤ a ∧ a < 2147483648) (zp1 : -2147483648 ≤ b ∧ b < 2147483648) (zp2 : -2147483648 ≤ f ∧ f < 2147483648) (zp3 : -2147483648 ≤ t ∧ t < 2147483648) (zp4 : 0 ≤ M 27 6 ∧ M 27 6 ≤ 6) (zQ0 : ((0 ≤ a ∧ a < 144) ∧ (0 ≤ b ∧ b < 144) ∧ (6 ≤ f ∧ f ≤ 17) ∧ f ≤ t ∧ t ≤ 17) ∧ M 27 6 < 6 → Q (.inl (some (vI (M 27 6)))) (upM (upM (upM (upM (upM (upM M 27 0 0) 32 (M 27 6) a) 33 (M 27 6) b) 34 (M 27 6) f) 35 (M 27 6) t) 27 6 ((M 27 6) + 1))) (zQ1 : ¬ ((0 ≤ a ∧ a < 144) ∧ 0 ≤ b ∧ b < 144) → Q (.inl (some (vI 0))) (upM M 27 0 1)) (zQ2 : ((0 ≤ a ∧ a < 144) ∧ 0 ≤ b ∧ b < 144) ∧ ¬ ((6 ≤ f ∧ f ≤ 17) ∧ f ≤ t ∧ t ≤ 17) → Q (.inl (some (vI 0))) (upM M 27 0 2)) (zQ3 : ((0 ≤ a ∧ a < 144) ∧ (0 ≤ b ∧ b < 144) ∧ (6 ≤ f ∧ f ≤ 17) ∧ f ≤ t ∧ t ≤ 17) ∧ M 27 6 = 6 → Q (.inl (some (vI 0))) (upM M 27 0 3)) : AM ev false 2 t_X8_addCloud [vR 27, vI a, vI b, vI f, vI t] M Q := by
  refine AM.of mt_X8_addCloud (Nat.le_of_ble_eq_true rfl) ?_
  change AW ev false 2 t_X8_addCloud Q 0 [some (vR 27), some (vI a), some (vI b), some (vI f), some (vI t)] [] M
  refine AW.go pk_X8_addCloud 0 3 rfl rfl ?_
  change AW ev false 2 t_X8_addCloud Q 2 [some (vR 27), some (vI a), some (vI b), some (vI f), some (vI t)] [vI a, vR 27] M
  refine AW.callS (d' := 1) [vI a] [vR 27] sm_X8_isCell hX8_82 (okP_d pk_X8_addCloud 2 2 (.invokestatic 82) 3 rfl) (by decide) rfl (Nat.le_of_ble_eq_true rfl) ?_
  refine c_X8_isCell a (by omega) (fun zr1 zzr1 => ?_)
  change AW ev false 2 t_X8_addCloud Q 5 [some (vR 27), some (vI a), some (vI b), some (vI f), some (vI t)] [vI zr1, vR 27] M
  refine AW.go pk_X8_addCloud 3 3 rfl rfl ?_
  refine And.intro (show Inr zr1 from ⟨by omega, by omega⟩) (And.intro (fun zh2 => ?_) (fun zh2 => ?_))
  · replace zh2 : zr1 = (0 : Int) := zh2
    change AW ev false 2 t_X8_addCloud Q 15 [some (vR 27), some (vI a), some (vI b), some (vI f), some (vI t)] [vR 27] M
    refine AW.go pk_X8_addCloud 7 2 rfl rfl ?_
    change AW ev false 2 t_X8_addCloud Q 59 [some (vR 27), some (vI a), some (vI b), some (vI f), some (vI t)] [vI 1, vR 27] M
    refine AW.go pk_X8_addCloud 28 6 rfl rfl ?_
    refine And.intro (show Inr 1 from ⟨by omega, by omega⟩) (And.intro (fun zh3 => ?_) (fun zh3 => ?_))
    · replace zh3 : (1 : Int) ≤ (0 : Int) := zh3
      exfalso; omega
    · replace zh3 : ¬ ((1 : Int) ≤ (0 : Int)) := zh3
      refine And.intro rfl ?_
      first
        | exact QcI (Q := Q) (show (0 : Int) = M 27 6 from by first | rfl | omega) (show (upM M 27 0 1) = (upM (upM (upM (upM (upM (upM M 27 0 0) 32 (M 27 6) a) 33 (M 27 6) b) 34 (M 27 6) f) 35 (M 27 6) t) 27 6 ((M 27 6) + 1)) from by rfl) (zQ0 (by omega))
        | exact QcI (Q := Q) (show (0 : Int) = (0 : Int) from by first | rfl | omega) (show (upM M 27 0 1) = (upM M 27 0 1) from by rfl) (zQ1 (by omega))
        | exact QcI (Q := Q) (show (0 : Int) = (0 : Int) from by first | rfl | omega) (show (upM M 27 0 1) = (upM M 27 0 2) from by rfl) (zQ2 (by omega))
        | exact QcI (Q := Q) (show (0 : Int) = (0 : Int) from by first | rfl | omega) (show (upM M 27 0 1) = (upM M 27 0 3) from by rfl) (zQ3 (by omega))
  · replace zh2 : ¬ (zr1 = (0 : Int)) := zh2
    change AW ev false 2 t_X8_addCloud Q 9 [some (vR 27), some (vI a), some (vI b), some (vI f), some (vI t)] [vI b, vR 27] M
    refine AW.callS (d' := 1) [vI b] [vR 27] sm_X8_isCell hX8_82 (okP_d pk_X8_addCloud 5 9 (.invokestatic 82) 3 rfl) (by decide) rfl (Nat.le_of_ble_eq_true rfl) ?_
    refine c_X8_isCell b (by omega) (fun zr4 zzr4 => ?_)
    change AW ev false 2 t_X8_addCloud Q 12 [some (vR 27), some (vI a), some (vI b), some (vI f), some (vI t)] [vI zr4, vR 27] M
    refine AW.go pk_X8_addCloud 6 3 rfl rfl ?_
    refine And.intro (show Inr zr4 from ⟨by omega, by omega⟩) (And.intro (fun zh5 => ?_) (fun zh5 => ?_))
    · replace zh5 : zr4 ≠ (0 : Int) := zh5
      change AW ev false 2 t_X8_addCloud Q 19 [some (vR 27), some (vI a), some (vI b), some (vI f), some (vI t)] [vR 27] M
      refine AW.go pk_X8_addCloud 9 4 rfl rfl ?_
      change AW ev false 2 t_X8_addCloud Q 24 [some (vR 27), some (vI a), some (vI b), some (vI f), some (vI t)] [vI 17, vI 6, vI f, vR 27] M
      refine AW.callS (d' := 0) [vI f, vI 6, vI 17] [vR 27] sm_X8_within hX8_69 (okP_d pk_X8_addCloud 12 24 (.invokestatic 69) 3 rfl) (by decide) rfl (Nat.le_of_ble_eq_true rfl) ?_
      refine c_X8_within f 6 17 (by omega) (by omega) (by omega) (fun zr6 zzr6 => ?_)
      change AW ev false 2 t_X8_addCloud Q 27 [some (vR 27), some (vI a), some (vI b), some (vI f), some (vI t)] [vI zr6, vR 27] M
      refine AW.go pk_X8_addCloud 13 5 rfl rfl ?_
      refine And.intro (show Inr zr6 from ⟨by omega, by omega⟩) (And.intro (fun zh7 => ?_) (fun zh7 => ?_))
      · replace zh7 : zr6 = (0 : Int) := zh7
        change AW ev false 2 t_X8_addCloud Q 41 [some (vR 27), some (vI a), some (vI b), some (vI f), some (vI t)] [vR 27] M
        refine AW.go pk_X8_addCloud 19 2 rfl rfl ?_
        change AW ev false 2 t_X8_addCloud Q 59 [some (vR 27), some (vI a), some (vI b), some (vI f), some (vI t)] [vI 2, vR 27] M
        refine AW.go pk_X8_addCloud 28 6 rfl rfl ?_
        refine And.intro (show Inr 2 from ⟨by omega, by omega⟩) (And.intro (fun zh8 => ?_) (fun zh8 => ?_))
        · replace zh8 : (2 : Int) ≤ (0 : Int) := zh8
          exfalso; omega
        · replace zh8 : ¬ ((2 : Int) ≤ (0 : Int)) := zh8
          refine And.intro rfl ?_
          first
            | exact QcI (Q := Q) (show (0 : Int) = M 27 6 from by first | rfl | omega) (show (upM M 27 0 2) = (upM (upM (upM (upM (upM (upM M 27 0 0) 32 (M 27 6) a) 33 (M 27 6) b) 34 (M 27 6) f) 35 (M 27 6) t) 27 6 ((M 27 6) + 1)) from by rfl) (zQ0 (by omega))
            | exact QcI (Q := Q) (show (0 : Int) = (0 : Int) from by first | rfl | omega) (show (upM M 27 0 2) = (upM M 27 0 1) from by rfl) (zQ1 (by omega))
            | exact QcI (Q := Q) (show (0 : Int) = (0 : Int) from by first | rfl | omega) (show (upM M 27 0 2) = (upM M 27 0 2) from by rfl) (zQ2 (by omega))
            | exact QcI (Q := Q) (show (0 : Int) = (0 : Int) from by first | rfl | omega) (show (upM M 27 0 2) = (upM M 27 0 3) from by rfl) (zQ3 (by omega))
      · replace zh7 : ¬ (zr6 = (0 : Int)) := zh7
        change AW ev false 2 t_X8_addCloud Q 35 [some (vR 27), some (vI a), some (vI b), some (vI f), some (vI t)] [vI 17, vI f, vI t, vR 27] M
        refine AW.callS (d' := 0) [vI t, vI f, vI 17] [vR 27] sm_X8_within hX8_69 (okP_d pk_X8_addCloud 17 35 (.invokestatic 69) 3 rfl) (by decide) rfl (Nat.le_of_ble_eq_true rfl) ?_
        refine c_X8_within t f 17 (by omega) (by omega) (by omega) (fun zr9 zzr9 => ?_)
        change AW ev false 2 t_X8_addCloud Q 38 [some (vR 27), some (vI a), some (vI b), some (vI f), some (vI t)] [vI zr9, vR 27] M
        refine AW.go pk_X8_addCloud 18 3 rfl rfl ?_
        refine And.intro (show Inr zr9 from ⟨by omega, by omega⟩) (And.intro (fun zh10 => ?_) (fun zh10 => ?_))
        · replace zh10 : zr9 ≠ (0 : Int) := zh10
          change AW ev false 2 t_X8_addCloud Q 45 [some (vR 27), some (vI a), some (vI b), some (vI f), some (vI t)] [vR 27] M
          refine AW.go pk_X8_addCloud 21 6 rfl rfl ?_
          refine And.intro (show Inr (M 27 6) ∧ Inr 6 from ⟨⟨by omega, by omega⟩, ⟨by omega, by omega⟩⟩) (And.intro (fun zh11 => ?_) (fun zh11 => ?_))
          · replace zh11 : M 27 6 ≠ (6 : Int) := zh11
            change AW ev false 2 t_X8_addCloud Q 58 [some (vR 27), some (vI a), some (vI b), some (vI f), some (vI t)] [vR 27] M
            refine AW.go pk_X8_addCloud 27 7 rfl rfl ?_
            refine And.intro (show Inr 0 from ⟨by omega, by omega⟩) (And.intro (fun zh12 => ?_) (fun zh12 => ?_))
            · replace zh12 : (0 : Int) ≤ (0 : Int) := zh12
              change AW ev false 2 t_X8_addCloud Q 71 [some (vR 27), some (vI a), some (vI b), some (vI f), some (vI t)] [] (upM M 27 0 0)
              refine AW.go pk_X8_addCloud 34 35 rfl rfl ?_
              refine And.intro (show ((0 ≤ M 27 6 ∧ M 27 6 < 6) ∧ ((0 : Nat) = 0 ∨ a = 0 ∨ a = 1)) from ⟨by omega, Or.inl rfl⟩) ?_
              refine And.intro (show ((0 ≤ M 27 6 ∧ M 27 6 < 6) ∧ ((0 : Nat) = 0 ∨ b = 0 ∨ b = 1)) from ⟨by omega, Or.inl rfl⟩) ?_
              refine And.intro (show ((0 ≤ M 27 6 ∧ M 27 6 < 6) ∧ ((0 : Nat) = 0 ∨ f = 0 ∨ f = 1)) from ⟨by omega, Or.inl rfl⟩) ?_
              refine And.intro (show ((0 ≤ M 27 6 ∧ M 27 6 < 6) ∧ ((0 : Nat) = 0 ∨ t = 0 ∨ t = 1)) from ⟨by omega, Or.inl rfl⟩) ?_
              refine And.intro rfl ?_
              first
                | exact QcI (Q := Q) (show ((M 27 6) + 1) - 1 = M 27 6 from by first | rfl | omega) (show (upM (upM (upM (upM (upM (upM M 27 0 0) 32 (M 27 6) a) 33 (M 27 6) b) 34 (M 27 6) f) 35 (M 27 6) t) 27 6 ((M 27 6) + 1)) = (upM (upM (upM (upM (upM (upM M 27 0 0) 32 (M 27 6) a) 33 (M 27 6) b) 34 (M 27 6) f) 35 (M 27 6) t) 27 6 ((M 27 6) + 1)) from by rfl) (zQ0 (by omega))
                | exact QcI (Q := Q) (show ((M 27 6) + 1) - 1 = (0 : Int) from by first | rfl | omega) (show (upM (upM (upM (upM (upM (upM M 27 0 0) 32 (M 27 6) a) 33 (M 27 6) b) 34 (M 27 6) f) 35 (M 27 6) t) 27 6 ((M 27 6) + 1)) = (upM M 27 0 1) from by rfl) (zQ1 (by omega))
                | exact QcI (Q := Q) (show ((M 27 6) + 1) - 1 = (0 : Int) from by first | rfl | omega) (show (upM (upM (upM (upM (upM (upM M 27 0 0) 32 (M 27 6) a) 33 (M 27 6) b) 34 (M 27 6) f) 35 (M 27 6) t) 27 6 ((M 27 6) + 1)) = (upM M 27 0 2) from by rfl) (zQ2 (by omega))
                | exact QcI (Q := Q) (show ((M 27 6) + 1) - 1 = (0 : Int) from by first | rfl | omega) (show (upM (upM (upM (upM (upM (upM M 27 0 0) 32 (M 27 6) a) 33 (M 27 6) b) 34 (M 27 6) f) 35 (M 27 6) t) 27 6 ((M 27 6) + 1)) = (upM M 27 0 3) from by rfl) (zQ3 (by omega))
            · replace zh12 : ¬ ((0 : Int) ≤ (0 : Int)) := zh12
              exfalso; omega
          · replace zh11 : ¬ (M 27 6 ≠ (6 : Int)) := zh11
            change AW ev false 2 t_X8_addCloud Q 59 [some (vR 27), some (vI a), some (vI b), some (vI f), some (vI t)] [vI 3, vR 27] M
            refine AW.go pk_X8_addCloud 28 6 rfl rfl ?_
            refine And.intro (show Inr 3 from ⟨by omega, by omega⟩) (And.intro (fun zh13 => ?_) (fun zh13 => ?_))
            · replace zh13 : (3 : Int) ≤ (0 : Int) := zh13
              exfalso; omega
            · replace zh13 : ¬ ((3 : Int) ≤ (0 : Int)) := zh13
              refine And.intro rfl ?_
              first
                | exact QcI (Q := Q) (show (0 : Int) = M 27 6 from by first | rfl | omega) (show (upM M 27 0 3) = (upM (upM (upM (upM (upM (upM M 27 0 0) 32 (M 27 6) a) 33 (M 27 6) b) 34 (M 27 6) f) 35 (M 27 6) t) 27 6 ((M 27 6) + 1)) from by rfl) (zQ0 (by omega))
                | exact QcI (Q := Q) (show (0 : Int) = (0 : Int) from by first | rfl | omega) (show (upM M 27 0 3) = (upM M 27 0 1) from by rfl) (zQ1 (by omega))
                | exact QcI (Q := Q) (show (0 : Int) = (0 : Int) from by first | rfl | omega) (show (upM M 27 0 3) = (upM M 27 0 2) from by rfl) (zQ2 (by omega))
                | exact QcI (Q := Q) (show (0 : Int) = (0 : Int) from by first | rfl | omega) (show (upM M 27 0 3) = (upM M 27 0 3) from by rfl) (zQ3 (by omega))
        · replace zh10 : ¬ (zr9 ≠ (0 : Int)) := zh10
          change AW ev false 2 t_X8_addCloud Q 59 [some (vR 27), some (vI a), some (vI b), some (vI f), some (vI t)] [vI 2, vR 27] M
          refine AW.go pk_X8_addCloud 28 6 rfl rfl ?_
          refine And.intro (show Inr 2 from ⟨by omega, by omega⟩) (And.intro (fun zh14 => ?_) (fun zh14 => ?_))
          · replace zh14 : (2 : Int) ≤ (0 : Int) := zh14
            exfalso; omega
          · replace zh14 : ¬ ((2 : Int) ≤ (0 : Int)) := zh14
            refine And.intro rfl ?_
            first
              | exact QcI (Q := Q) (show (0 : Int) = M 27 6 from by first | rfl | omega) (show (upM M 27 0 2) = (upM (upM (upM (upM (upM (upM M 27 0 0) 32 (M 27 6) a) 33 (M 27 6) b) 34 (M 27 6) f) 35 (M 27 6) t) 27 6 ((M 27 6) + 1)) from by rfl) (zQ0 (by omega))
              | exact QcI (Q := Q) (show (0 : Int) = (0 : Int) from by first | rfl | omega) (show (upM M 27 0 2) = (upM M 27 0 1) from by rfl) (zQ1 (by omega))
              | exact QcI (Q := Q) (show (0 : Int) = (0 : Int) from by first | rfl | omega) (show (upM M 27 0 2) = (upM M 27 0 2) from by rfl) (zQ2 (by omega))
              | exact QcI (Q := Q) (show (0 : Int) = (0 : Int) from by first | rfl | omega) (show (upM M 27 0 2) = (upM M 27 0 3) from by rfl) (zQ3 (by omega))
    · replace zh5 : ¬ (zr4 ≠ (0 : Int)) := zh5
      change AW ev false 2 t_X8_addCloud Q 59 [some (vR 27), some (vI a), some (vI b), some (vI f), some (vI t)] [vI 1, vR 27] M
      refine AW.go pk_X8_addCloud 28 6 rfl rfl ?_
      refine And.intro (show Inr 1 from ⟨by omega, by omega⟩) (And.intro (fun zh15 => ?_) (fun zh15 => ?_))
      · replace zh15 : (1 : Int) ≤ (0 : Int) := zh15
        exfalso; omega
      · replace zh15 : ¬ ((1 : Int) ≤ (0 : Int)) := zh15
        refine And.intro rfl ?_
        first
          | exact QcI (Q := Q) (show (0 : Int) = M 27 6 from by first | rfl | omega) (show (upM M 27 0 1) = (upM (upM (upM (upM (upM (upM M 27 0 0) 32 (M 27 6) a) 33 (M 27 6) b) 34 (M 27 6) f) 35 (M 27 6) t) 27 6 ((M 27 6) + 1)) from by rfl) (zQ0 (by omega))
          | exact QcI (Q := Q) (show (0 : Int) = (0 : Int) from by first | rfl | omega) (show (upM M 27 0 1) = (upM M 27 0 1) from by rfl) (zQ1 (by omega))
          | exact QcI (Q := Q) (show (0 : Int) = (0 : Int) from by first | rfl | omega) (show (upM M 27 0 1) = (upM M 27 0 2) from by rfl) (zQ2 (by omega))
          | exact QcI (Q := Q) (show (0 : Int) = (0 : Int) from by first | rfl | omega) (show (upM M 27 0 1) = (upM M 27 0 3) from by rfl) (zQ3 (by omega))
theorem c_X8_clearClouds {ev : Ev} {Q : Out → Mem → Prop} {M : Mem}    (zQ : ∀ (r : Int), r = M 27 6 → Q (.inl (some (vI r))) (upM (upM M 27 0 0) 27 6 0)) : AM ev false 0 t_X8_clearClouds [vR 27] M Q := by
  refine AM.of mt_X8_clearClouds (Nat.le_of_ble_eq_true rfl) ?_
  change AW ev false 0 t_X8_clearClouds Q 0 [some (vR 27), none] [] M
  refine AW.go pk_X8_clearClouds 0 11 rfl rfl ?_
  refine And.intro (show 1 < mL t_X8_clearClouds from (by decide)) ?_
  refine And.intro rfl ?_
  exact zQ (M 27 6) (by first | rfl | omega)
theorem lz_highest {ev : Ev} {Q : Out → Mem → Prop} {M : Mem}   (zp0 : TJ M)  : ∀ (n : Nat) (i : Int) (s : Int), i + n = 144 → (0 ≤ i) → (0 ≤ s ∧ s ≤ 500) → (∀ r : Int, r = grT (M 28) n i s → Q (.inl (some (vI r))) M) → AW ev false 0 t_X8_highest Q 4 [some (vR 27), some (vI s), some (vI i)] [] M := by
  intro n
  induction n with
  | zero =>
    intro i s zn zv0 zv1 zv2
    refine AW.go pk_X8_highest 4 14 rfl rfl ?_
    refine And.intro (show Inr i ∧ Inr 144 from ⟨⟨by omega, by omega⟩, ⟨by omega, by omega⟩⟩) (And.intro (fun zh1 => ?_) (fun zh1 => ?_))
    · replace zh1 : (144 : Int) ≤ i := zh1
      change AW ev false 0 t_X8_highest Q 38 [some (vR 27), some (vI s), some (vI i)] [] M
      refine AW.go pk_X8_highest 22 2 rfl rfl ?_
      refine And.intro rfl ?_
      exact zv2 _ rfl
    · replace zh1 : ¬ ((144 : Int) ≤ i) := zh1
      exfalso; omega
  | succ n zih =>
    intro i s zn zv0 zv1 zv2
    refine AW.go pk_X8_highest 4 14 rfl rfl ?_
    refine And.intro (show Inr i ∧ Inr 144 from ⟨⟨by omega, by omega⟩, ⟨by omega, by omega⟩⟩) (And.intro (fun zh1 => ?_) (fun zh1 => ?_))
    · replace zh1 : (144 : Int) ≤ i := zh1
      exfalso; omega
    · replace zh1 : ¬ ((144 : Int) ≤ i) := zh1
      refine And.intro (show (0 ≤ i ∧ i < 144) from (by omega)) ?_
      have zf2 := zp0 i (by omega) (by omega)
      refine And.intro (show Inr (M 28 i) ∧ Inr s from ⟨⟨by omega, by omega⟩, ⟨by omega, by omega⟩⟩) (And.intro (fun zh3 => ?_) (fun zh3 => ?_))
      · replace zh3 : M 28 i ≤ s := zh3
        change AW ev false 0 t_X8_highest Q 30 [some (vR 27), some (vI s), some (vI i)] [] M
        refine AW.go pk_X8_highest 18 4 rfl rfl ?_
        refine And.intro (show 1 < mL t_X8_highest from (by decide)) ?_
        refine And.intro (show 2 < mL t_X8_highest from (by decide)) ?_
        change AW ev false 0 t_X8_highest Q 4 [some (vR 27), some (vI s), some (vI (i + 1))] [] M
        exact zih (i + 1) s (by omega) (by omega) (by omega) (fun r zr => zv2 r (by rw [zr]; conv => rhs; unfold grT; first | rw [if_pos (by omega)] | rw [if_neg (by omega)]))
      · replace zh3 : ¬ (M 28 i ≤ s) := zh3
        refine And.intro (show (0 ≤ i ∧ i < 144) from (by omega)) ?_
        have zf4 := zp0 i (by omega) (by omega)
        change AW ev false 0 t_X8_highest Q 31 [some (vR 27), some (vI s), some (vI i)] [vI (M 28 i)] M
        refine AW.go pk_X8_highest 19 3 rfl rfl ?_
        refine And.intro (show 1 < mL t_X8_highest from (by decide)) ?_
        refine And.intro (show 2 < mL t_X8_highest from (by decide)) ?_
        change AW ev false 0 t_X8_highest Q 4 [some (vR 27), some (vI (M 28 i)), some (vI (i + 1))] [] M
        exact zih (i + 1) (M 28 i) (by omega) (by omega) (by omega) (fun r zr => zv2 r (by rw [zr]; conv => rhs; unfold grT; first | rw [if_pos (by omega)] | rw [if_neg (by omega)]))
theorem c_X8_highest {ev : Ev} {Q : Out → Mem → Prop} {M : Mem}   (zp0 : TJ M) (zQ : ∀ (r : Int), r = grT (M 28) 144 0 0 → Q (.inl (some (vI r))) M) : AM ev false 0 t_X8_highest [vR 27] M Q := by
  refine AM.of mt_X8_highest (Nat.le_of_ble_eq_true rfl) ?_
  change AW ev false 0 t_X8_highest Q 0 [some (vR 27), none, none] [] M
  refine AW.go pk_X8_highest 0 4 rfl rfl ?_
  refine And.intro (show 1 < mL t_X8_highest from (by decide)) ?_
  refine And.intro (show 2 < mL t_X8_highest from (by decide)) ?_
  change AW ev false 0 t_X8_highest Q 4 [some (vR 27), some (vI 0), some (vI 0)] [] M
  exact lz_highest zp0 144 0 0 (by omega) (by omega) (by omega) zQ
theorem lz_heights {ev : Ev} {Q : Out → Mem → Prop} {M : Mem}     : ∀ (n : Nat) (i : Int) (s : Int), i + n = 144 → (0 ≤ i) → (∀ r : Int, r = smT (M 28) n i s → Q (.inl (some (vI r))) M) → AW ev false 0 t_X8_heights Q 4 [some (vR 27), some (vI s), some (vI i)] [] M := by
  intro n
  induction n with
  | zero =>
    intro i s zn zv0 zv1
    refine AW.go pk_X8_heights 4 12 rfl rfl ?_
    refine And.intro (show Inr i ∧ Inr 144 from ⟨⟨by omega, by omega⟩, ⟨by omega, by omega⟩⟩) (And.intro (fun zh1 => ?_) (fun zh1 => ?_))
    · replace zh1 : (144 : Int) ≤ i := zh1
      change AW ev false 0 t_X8_heights Q 26 [some (vR 27), some (vI s), some (vI i)] [] M
      refine AW.go pk_X8_heights 16 2 rfl rfl ?_
      refine And.intro rfl ?_
      exact zv1 _ rfl
    · replace zh1 : ¬ ((144 : Int) ≤ i) := zh1
      exfalso; omega
  | succ n zih =>
    intro i s zn zv0 zv1
    refine AW.go pk_X8_heights 4 12 rfl rfl ?_
    refine And.intro (show Inr i ∧ Inr 144 from ⟨⟨by omega, by omega⟩, ⟨by omega, by omega⟩⟩) (And.intro (fun zh1 => ?_) (fun zh1 => ?_))
    · replace zh1 : (144 : Int) ≤ i := zh1
      exfalso; omega
    · replace zh1 : ¬ ((144 : Int) ≤ i) := zh1
      refine And.intro (show (0 ≤ i ∧ i < 144) from (by omega)) ?_
      refine And.intro (show 1 < mL t_X8_heights from (by decide)) ?_
      refine And.intro (show 2 < mL t_X8_heights from (by decide)) ?_
      change AW ev false 0 t_X8_heights Q 4 [some (vR 27), some (vI (s + (M 28 i))), some (vI (i + 1))] [] M
      exact zih (i + 1) (s + (M 28 i)) (by omega) (by omega) (fun r zr => zv1 r zr)
theorem c_X8_heights {ev : Ev} {Q : Out → Mem → Prop} {M : Mem}    (zQ : ∀ (r : Int), r = smT (M 28) 144 0 0 → Q (.inl (some (vI r))) M) : AM ev false 0 t_X8_heights [vR 27] M Q := by
  refine AM.of mt_X8_heights (Nat.le_of_ble_eq_true rfl) ?_
  change AW ev false 0 t_X8_heights Q 0 [some (vR 27), none, none] [] M
  refine AW.go pk_X8_heights 0 4 rfl rfl ?_
  refine And.intro (show 1 < mL t_X8_heights from (by decide)) ?_
  refine And.intro (show 2 < mL t_X8_heights from (by decide)) ?_
  change AW ev false 0 t_X8_heights Q 4 [some (vR 27), some (vI 0), some (vI 0)] [] M
  exact lz_heights 144 0 0 (by omega) (by omega) zQ
theorem lz_latest8 {ev : Ev} {Q : Out → Mem → Prop} {M : Mem}   (zp0 : GJ M)  : ∀ (n : Nat) (i : Int) (c : Int), i + n = M 27 11 → (0 ≤ i) → (-1 ≤ c ∧ c ≤ 72) → (∀ r : Int, r = laT (fun m => M 36 (6 * m + 4)) n i c → Q (.inl (some (vI r))) M) → AW ev false 0 t_X8_latest Q 4 [some (vR 27), some (vI c), some (vI i)] [] M := by
  intro n
  induction n with
  | zero =>
    intro i c zn zv0 zv1 zv2
    have zs := zp0.1
    refine AW.go pk_X8_latest 4 23 rfl rfl ?_
    refine And.intro (show Inr i ∧ Inr (M 27 11) from ⟨⟨by omega, by omega⟩, ⟨by omega, by omega⟩⟩) (And.intro (fun zh1 => ?_) (fun zh1 => ?_))
    · replace zh1 : M 27 11 ≤ i := zh1
      change AW ev false 0 t_X8_latest Q 49 [some (vR 27), some (vI c), some (vI i)] [] M
      refine AW.go pk_X8_latest 31 2 rfl rfl ?_
      refine And.intro rfl ?_
      exact zv2 _ rfl
    · replace zh1 : ¬ (M 27 11 ≤ i) := zh1
      exfalso; omega
  | succ n zih =>
    intro i c zn zv0 zv1 zv2
    have zs := zp0.1
    have zb := zp0.2.1 i (by omega) (by omega)
    refine AW.go pk_X8_latest 4 23 rfl rfl ?_
    refine And.intro (show Inr i ∧ Inr (M 27 11) from ⟨⟨by omega, by omega⟩, ⟨by omega, by omega⟩⟩) (And.intro (fun zh1 => ?_) (fun zh1 => ?_))
    · replace zh1 : M 27 11 ≤ i := zh1
      exfalso; omega
    · replace zh1 : ¬ (M 27 11 ≤ i) := zh1
      refine And.intro (show (0 ≤ (6 * i) + 4 ∧ (6 * i) + 4 < 120) from (by omega)) ?_
      refine And.intro (show Inr (M 36 ((6 * i) + 4)) ∧ Inr c from ⟨⟨by omega, by omega⟩, ⟨by omega, by omega⟩⟩) (And.intro (fun zh2 => ?_) (fun zh2 => ?_))
      · replace zh2 : M 36 ((6 * i) + 4) ≤ c := zh2
        change AW ev false 0 t_X8_latest Q 41 [some (vR 27), some (vI c), some (vI i)] [] M
        refine AW.go pk_X8_latest 27 4 rfl rfl ?_
        refine And.intro (show 1 < mL t_X8_latest from (by decide)) ?_
        refine And.intro (show 2 < mL t_X8_latest from (by decide)) ?_
        change AW ev false 0 t_X8_latest Q 4 [some (vR 27), some (vI c), some (vI (i + 1))] [] M
        exact zih (i + 1) c (by omega) (by omega) (by omega) (fun r zr => zv2 r (by rw [zr]; conv => rhs; unfold laT; first | rw [if_pos (by omega)] | rw [if_neg (by omega)]))
      · replace zh2 : ¬ (M 36 ((6 * i) + 4) ≤ c) := zh2
        refine And.intro (show (0 ≤ (6 * i) + 4 ∧ (6 * i) + 4 < 120) from (by omega)) ?_
        change AW ev false 0 t_X8_latest Q 42 [some (vR 27), some (vI c), some (vI i)] [vI (M 36 ((6 * i) + 4))] M
        refine AW.go pk_X8_latest 28 3 rfl rfl ?_
        refine And.intro (show 1 < mL t_X8_latest from (by decide)) ?_
        refine And.intro (show 2 < mL t_X8_latest from (by decide)) ?_
        change AW ev false 0 t_X8_latest Q 4 [some (vR 27), some (vI (M 36 ((6 * i) + 4))), some (vI (i + 1))] [] M
        exact zih (i + 1) (M 36 ((6 * i) + 4)) (by omega) (by omega) (by omega) (fun r zr => zv2 r (by rw [zr]; conv => rhs; unfold laT; first | rw [if_pos (by omega)] | rw [if_neg (by omega)]))
theorem c_X8_latest {ev : Ev} {Q : Out → Mem → Prop} {M : Mem}   (zp0 : GJ M) (zQ : ∀ (r : Int), r = laT (fun m => M 36 (6 * m + 4)) (M 27 11).toNat 0 (-1) → Q (.inl (some (vI r))) M) : AM ev false 0 t_X8_latest [vR 27] M Q := by
  have zs := zp0.1
  refine AM.of mt_X8_latest (Nat.le_of_ble_eq_true rfl) ?_
  change AW ev false 0 t_X8_latest Q 0 [some (vR 27), none, none] [] M
  refine AW.go pk_X8_latest 0 4 rfl rfl ?_
  refine And.intro (show 1 < mL t_X8_latest from (by decide)) ?_
  refine And.intro (show 2 < mL t_X8_latest from (by decide)) ?_
  change AW ev false 0 t_X8_latest Q 4 [some (vR 27), some (vI (-1)), some (vI 0)] [] M
  exact lz_latest8 zp0 (M 27 11).toNat 0 (-1) (by omega) (by omega) (by omega) zQ
theorem c_X8_pairWrong {ev : Ev} {Q : Out → Mem → Prop} {M : Mem}  (a : Int) (b : Int) (zp0 : 0 ≤ M 27 2 ∧ M 27 2 ≤ 8) (zp1 : -2147483648 ≤ a ∧ a < 2147483648) (zp2 : -2147483648 ≤ b ∧ b < 2147483648) (zQ : ∀ (r : Int), (r = 1 ∧ ¬ ((0 ≤ a ∧ a < M 27 2) ∧ 0 ≤ b ∧ b < M 27 2)) ∨ (r = 2 ∧ ((0 ≤ a ∧ a < M 27 2) ∧ 0 ≤ b ∧ b < M 27 2) ∧ a = b) ∨ (r = 0 ∧ ((0 ≤ a ∧ a < M 27 2) ∧ 0 ≤ b ∧ b < M 27 2) ∧ a ≠ b) → Q (.inl (some (vI r))) M) : AM ev false 2 t_X8_pairWrong [vR 27, vI a, vI b] M Q := by
  refine AM.of mt_X8_pairWrong (Nat.le_of_ble_eq_true rfl) ?_
  change AW ev false 2 t_X8_pairWrong Q 0 [some (vR 27), some (vI a), some (vI b)] [] M
  refine AW.go pk_X8_pairWrong 0 3 rfl rfl ?_
  change AW ev false 2 t_X8_pairWrong Q 2 [some (vR 27), some (vI a), some (vI b)] [vI a, vR 27] M
  refine AW.callV (d' := 1) [vI a] [] vm_X8_isStation rfl hX8_158 (okP_d pk_X8_pairWrong 2 2 (.invokevirtual 158) 3 rfl) (by decide) rfl (Nat.le_of_ble_eq_true rfl) ?_
  refine c_X8_isStation a (by omega) (by omega) (fun zr1 zzr1 => ?_)
  change AW ev false 2 t_X8_pairWrong Q 5 [some (vR 27), some (vI a), some (vI b)] [vI zr1] M
  refine AW.go pk_X8_pairWrong 3 4 rfl rfl ?_
  refine And.intro (show Inr zr1 from ⟨by omega, by omega⟩) (And.intro (fun zh2 => ?_) (fun zh2 => ?_))
  · replace zh2 : zr1 = (0 : Int) := zh2
    change AW ev false 2 t_X8_pairWrong Q 16 [some (vR 27), some (vI a), some (vI b)] [] M
    refine AW.go pk_X8_pairWrong 8 2 rfl rfl ?_
    change AW ev false 2 t_X8_pairWrong Q 30 [some (vR 27), some (vI a), some (vI b)] [vI 1] M
    refine AW.go pk_X8_pairWrong 16 1 rfl rfl ?_
    refine And.intro rfl ?_
    exact zQ 1 (by first | rfl | omega)
  · replace zh2 : ¬ (zr1 = (0 : Int)) := zh2
    change AW ev false 2 t_X8_pairWrong Q 10 [some (vR 27), some (vI a), some (vI b)] [vI b, vR 27] M
    refine AW.callV (d' := 1) [vI b] [] vm_X8_isStation rfl hX8_158 (okP_d pk_X8_pairWrong 6 10 (.invokevirtual 158) 3 rfl) (by decide) rfl (Nat.le_of_ble_eq_true rfl) ?_
    refine c_X8_isStation b (by omega) (by omega) (fun zr3 zzr3 => ?_)
    change AW ev false 2 t_X8_pairWrong Q 13 [some (vR 27), some (vI a), some (vI b)] [vI zr3] M
    refine AW.go pk_X8_pairWrong 7 3 rfl rfl ?_
    refine And.intro (show Inr zr3 from ⟨by omega, by omega⟩) (And.intro (fun zh4 => ?_) (fun zh4 => ?_))
    · replace zh4 : zr3 ≠ (0 : Int) := zh4
      change AW ev false 2 t_X8_pairWrong Q 20 [some (vR 27), some (vI a), some (vI b)] [] M
      refine AW.go pk_X8_pairWrong 10 5 rfl rfl ?_
      refine And.intro (show Inr a ∧ Inr b from ⟨⟨by omega, by omega⟩, ⟨by omega, by omega⟩⟩) (And.intro (fun zh5 => ?_) (fun zh5 => ?_))
      · replace zh5 : a ≠ b := zh5
        change AW ev false 2 t_X8_pairWrong Q 29 [some (vR 27), some (vI a), some (vI b)] [] M
        refine AW.go pk_X8_pairWrong 15 2 rfl rfl ?_
        refine And.intro rfl ?_
        exact zQ 0 (by first | rfl | omega)
      · replace zh5 : ¬ (a ≠ b) := zh5
        change AW ev false 2 t_X8_pairWrong Q 30 [some (vR 27), some (vI a), some (vI b)] [vI 2] M
        refine AW.go pk_X8_pairWrong 16 1 rfl rfl ?_
        refine And.intro rfl ?_
        exact zQ 2 (by first | rfl | omega)
    · replace zh4 : ¬ (zr3 ≠ (0 : Int)) := zh4
      change AW ev false 2 t_X8_pairWrong Q 30 [some (vR 27), some (vI a), some (vI b)] [vI 1] M
      refine AW.go pk_X8_pairWrong 16 1 rfl rfl ?_
      refine And.intro rfl ?_
      exact zQ 1 (by first | rfl | omega)
