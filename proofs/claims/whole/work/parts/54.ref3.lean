theorem c_X8_rounded {ev : Ev} {Q : Out → Mem → Prop} {M : Mem}  (v : Int) (m : Int) (zp0 : -1000 ≤ v ∧ v ≤ 1000) (zp1 : 1 ≤ m ∧ m ≤ 1000) (zQ : ∀ (r : Int), r = rq v m ∧ (-3000 ≤ r ∧ r ≤ 3000) → Q (.inl (some (vI r))) M) : AM ev false 0 t_X8_rounded [vI v, vI m] M Q := by
  refine AM.of mt_X8_rounded (Nat.le_of_ble_eq_true rfl) ?_
  change AW ev false 0 t_X8_rounded Q 0 [some (vI v), some (vI m)] [] M
  refine AW.go pk_X8_rounded 0 14 rfl rfl ?_
  refine And.intro (show Inr v from ⟨by omega, by omega⟩) (And.intro (fun zh1 => ?_) (fun zh1 => ?_))
  · replace zh1 : (0 : Int) ≤ v := zh1
    change AW ev false 0 t_X8_rounded Q 18 [some (vI v), some (vI m)] [] M
    refine AW.go pk_X8_rounded 14 10 rfl rfl ?_
    refine And.intro (show ((0 ≤ (2 * v) + m ∧ (2 * v) + m < 2147483648) ∧ 0 < 2 * m ∧ 2 * m < 2147483648) from (by omega)) ?_
    refine And.intro rfl ?_
    have zrb := rq_bd zp0 zp1
    exact zQ _ ⟨by unfold rq; first | rw [if_pos (by omega)] | rw [if_neg (by omega)], by unfold rq at zrb; first | (rw [if_pos (by omega)] at zrb; exact zrb) | (rw [if_neg (by omega)] at zrb; exact zrb)⟩
  · replace zh1 : ¬ ((0 : Int) ≤ v) := zh1
    refine And.intro (show ((0 ≤ (2 * (-v)) + m ∧ (2 * (-v)) + m < 2147483648) ∧ 0 < 2 * m ∧ 2 * m < 2147483648) from (by omega)) ?_
    change AW ev false 0 t_X8_rounded Q 27 [some (vI v), some (vI m)] [vI (-(((2 * (-v)) + m) / (2 * m)))] M
    refine AW.go pk_X8_rounded 23 1 rfl rfl ?_
    refine And.intro rfl ?_
    have zrb := rq_bd zp0 zp1
    exact zQ _ ⟨by unfold rq; first | rw [if_pos (by omega)] | rw [if_neg (by omega)], by unfold rq at zrb; first | (rw [if_pos (by omega)] at zrb; exact zrb) | (rw [if_neg (by omega)] at zrb; exact zrb)⟩
theorem c_X8_along {ev : Ev} {Q : Out → Mem → Prop} {M : Mem}  (c : Int) (dx : Int) (dy : Int) (k : Int) (zp0 : 0 ≤ c ∧ c < 144) (zp1 : -11 ≤ dx ∧ dx ≤ 11) (zp2 : -11 ≤ dy ∧ dy ≤ 11) (zp3 : dx ≠ 0 ∨ dy ≠ 0) (zp4 : 0 ≤ k ∧ k ≤ 12) (zQ : ∀ (r : Int), r = alo c dx dy (mxa dx dy) k ∧ (-1 ≤ r ∧ r < 144) → Q (.inl (some (vI r))) M) : AM ev false 1 t_X8_along [vI c, vI dx, vI dy, vI k] M Q := by
  refine AM.of mt_X8_along (Nat.le_of_ble_eq_true rfl) ?_
  change AW ev false 1 t_X8_along Q 0 [some (vI c), some (vI dx), some (vI dy), some (vI k), none, none, none] [] M
  refine AW.go pk_X8_along 0 2 rfl rfl ?_
  change AW ev false 1 t_X8_along Q 1 [some (vI c), some (vI dx), some (vI dy), some (vI k), none, none, none] [vI dx] M
  refine AW.callS (d' := 0) [vI dx] [] sm_X8_size hX8_86 (okP_d pk_X8_along 1 1 (.invokestatic 86) 3 rfl) (by decide) rfl (Nat.le_of_ble_eq_true rfl) ?_
  refine c_X8_size dx (by omega) (fun a1 za1 => ?_)
  change AW ev false 1 t_X8_along Q 4 [some (vI c), some (vI dx), some (vI dy), some (vI k), none, none, none] [vI a1] M
  refine AW.go pk_X8_along 2 2 rfl rfl ?_
  change AW ev false 1 t_X8_along Q 5 [some (vI c), some (vI dx), some (vI dy), some (vI k), none, none, none] [vI dy, vI a1] M
  refine AW.callS (d' := 0) [vI dy] [vI a1] sm_X8_size hX8_86 (okP_d pk_X8_along 3 5 (.invokestatic 86) 3 rfl) (by decide) rfl (Nat.le_of_ble_eq_true rfl) ?_
  refine c_X8_size dy (by omega) (fun a2 za2 => ?_)
  change AW ev false 1 t_X8_along Q 8 [some (vI c), some (vI dx), some (vI dy), some (vI k), none, none, none] [vI a2, vI a1] M
  refine AW.go pk_X8_along 4 3 rfl rfl ?_
  refine And.intro (show Inr a1 ∧ Inr a2 from ⟨⟨by omega, by omega⟩, ⟨by omega, by omega⟩⟩) (And.intro (fun zh1 => ?_) (fun zh1 => ?_))
  · replace zh1 : a1 ≤ a2 := zh1
    change AW ev false 1 t_X8_along Q 18 [some (vI c), some (vI dx), some (vI dy), some (vI k), none, none, none] [] M
    refine AW.go pk_X8_along 8 2 rfl rfl ?_
    change AW ev false 1 t_X8_along Q 19 [some (vI c), some (vI dx), some (vI dy), some (vI k), none, none, none] [vI dy] M
    refine AW.callS (d' := 0) [vI dy] [] sm_X8_size hX8_86 (okP_d pk_X8_along 9 19 (.invokestatic 86) 3 rfl) (by decide) rfl (Nat.le_of_ble_eq_true rfl) ?_
    refine c_X8_size dy (by omega) (fun a3 za3 => ?_)
    change AW ev false 1 t_X8_along Q 22 [some (vI c), some (vI dx), some (vI dy), some (vI k), none, none, none] [vI a3] M
    have zm : a3 = mxa dx dy := mxa_of (by omega)
    refine AW.st (show [vI a3] = [vI (mxa dx dy)] from by rw [← zm]) ?_
    have zms := mxa_spec dx dy
    refine AW.go pk_X8_along 10 9 rfl rfl ?_
    refine And.intro (show 4 < mL t_X8_along from (by decide)) ?_
    refine And.intro (show ((0 ≤ c ∧ c < 2147483648) ∧ 0 < (12 : Int) ∧ (12 : Int) < 2147483648) from (by omega)) ?_
    change AW ev false 1 t_X8_along Q 33 [some (vI c), some (vI dx), some (vI dy), some (vI k), some (vI (mxa dx dy)), none, none] [vI (mxa dx dy), vI (k * dx), vI (c % 12)] M
    refine AW.callS (d' := 0) [vI (k * dx), vI (mxa dx dy)] [vI (c % 12)] sm_X8_rounded hX8_119 (okP_d pk_X8_along 18 33 (.invokestatic 119) 3 rfl) (by decide) rfl (Nat.le_of_ble_eq_true rfl) ?_
    refine c_X8_rounded (k * dx) (mxa dx dy) (by have := mul_bd (a := k) (b := dx) (A := 12) (B := 11) (by omega) (by omega); omega) (by omega) (fun w1 zw1 => ?_)
    change AW ev false 1 t_X8_along Q 36 [some (vI c), some (vI dx), some (vI dy), some (vI k), some (vI (mxa dx dy)), none, none] [vI w1, vI (c % 12)] M
    refine AW.go pk_X8_along 19 10 rfl rfl ?_
    refine And.intro (show 5 < mL t_X8_along from (by decide)) ?_
    refine And.intro (show ((0 ≤ c ∧ c < 2147483648) ∧ 0 < (12 : Int) ∧ (12 : Int) < 2147483648) from (by omega)) ?_
    change AW ev false 1 t_X8_along Q 48 [some (vI c), some (vI dx), some (vI dy), some (vI k), some (vI (mxa dx dy)), some (vI ((c % 12) + w1)), none] [vI (mxa dx dy), vI (k * dy), vI (c / 12)] M
    refine AW.callS (d' := 0) [vI (k * dy), vI (mxa dx dy)] [vI (c / 12)] sm_X8_rounded hX8_119 (okP_d pk_X8_along 28 48 (.invokestatic 119) 3 rfl) (by decide) rfl (Nat.le_of_ble_eq_true rfl) ?_
    refine c_X8_rounded (k * dy) (mxa dx dy) (by have := mul_bd (a := k) (b := dy) (A := 12) (B := 11) (by omega) (by omega); omega) (by omega) (fun w2 zw2 => ?_)
    change AW ev false 1 t_X8_along Q 51 [some (vI c), some (vI dx), some (vI dy), some (vI k), some (vI (mxa dx dy)), some (vI ((c % 12) + w1)), none] [vI w2, vI (c / 12)] M
    refine AW.go pk_X8_along 29 6 rfl rfl ?_
    refine And.intro (show 6 < mL t_X8_along from (by decide)) ?_
    change AW ev false 1 t_X8_along Q 59 [some (vI c), some (vI dx), some (vI dy), some (vI k), some (vI (mxa dx dy)), some (vI ((c % 12) + w1)), some (vI ((c / 12) + w2))] [vI 11, vI 0, vI ((c % 12) + w1)] M
    refine AW.callS (d' := 0) [vI ((c % 12) + w1), vI 0, vI 11] [] sm_X8_within hX8_69 (okP_d pk_X8_along 34 59 (.invokestatic 69) 3 rfl) (by decide) rfl (Nat.le_of_ble_eq_true rfl) ?_
    refine c_X8_within ((c % 12) + w1) 0 11 (by omega) (by omega) (by omega) (fun w3 zw3 => ?_)
    change AW ev false 1 t_X8_along Q 62 [some (vI c), some (vI dx), some (vI dy), some (vI k), some (vI (mxa dx dy)), some (vI ((c % 12) + w1)), some (vI ((c / 12) + w2))] [vI w3] M
    refine AW.go pk_X8_along 35 5 rfl rfl ?_
    refine And.intro (show Inr w3 from ⟨by omega, by omega⟩) (And.intro (fun zh2 => ?_) (fun zh2 => ?_))
    · replace zh2 : w3 = (0 : Int) := zh2
      change AW ev false 1 t_X8_along Q 87 [some (vI c), some (vI dx), some (vI dy), some (vI k), some (vI (mxa dx dy)), some (vI ((c % 12) + w1)), some (vI ((c / 12) + w2))] [] M
      refine AW.go pk_X8_along 47 2 rfl rfl ?_
      refine And.intro rfl ?_
      exact zQ _ ⟨by unfold alo; rw [← zw1.1, ← zw2.1]; first | rw [if_pos (by omega)] | rw [if_neg (by omega)], by omega⟩
    · replace zh2 : ¬ (w3 = (0 : Int)) := zh2
      change AW ev false 1 t_X8_along Q 70 [some (vI c), some (vI dx), some (vI dy), some (vI k), some (vI (mxa dx dy)), some (vI ((c % 12) + w1)), some (vI ((c / 12) + w2))] [vI 11, vI 0, vI ((c / 12) + w2)] M
      refine AW.callS (d' := 0) [vI ((c / 12) + w2), vI 0, vI 11] [] sm_X8_within hX8_69 (okP_d pk_X8_along 39 70 (.invokestatic 69) 3 rfl) (by decide) rfl (Nat.le_of_ble_eq_true rfl) ?_
      refine c_X8_within ((c / 12) + w2) 0 11 (by omega) (by omega) (by omega) (fun w4 zw4 => ?_)
      change AW ev false 1 t_X8_along Q 73 [some (vI c), some (vI dx), some (vI dy), some (vI k), some (vI (mxa dx dy)), some (vI ((c % 12) + w1)), some (vI ((c / 12) + w2))] [vI w4] M
      refine AW.go pk_X8_along 40 7 rfl rfl ?_
      refine And.intro (show Inr w4 from ⟨by omega, by omega⟩) (And.intro (fun zh3 => ?_) (fun zh3 => ?_))
      · replace zh3 : w4 = (0 : Int) := zh3
        change AW ev false 1 t_X8_along Q 87 [some (vI c), some (vI dx), some (vI dy), some (vI k), some (vI (mxa dx dy)), some (vI ((c % 12) + w1)), some (vI ((c / 12) + w2))] [] M
        refine AW.go pk_X8_along 47 2 rfl rfl ?_
        refine And.intro rfl ?_
        exact zQ _ ⟨by unfold alo; rw [← zw1.1, ← zw2.1]; first | rw [if_pos (by omega)] | rw [if_neg (by omega)], by omega⟩
      · replace zh3 : ¬ (w4 = (0 : Int)) := zh3
        change AW ev false 1 t_X8_along Q 88 [some (vI c), some (vI dx), some (vI dy), some (vI k), some (vI (mxa dx dy)), some (vI ((c % 12) + w1)), some (vI ((c / 12) + w2))] [vI ((12 * ((c / 12) + w2)) + ((c % 12) + w1))] M
        refine AW.go pk_X8_along 48 1 rfl rfl ?_
        refine And.intro rfl ?_
        exact zQ _ ⟨by unfold alo; rw [← zw1.1, ← zw2.1]; first | rw [if_pos (by omega)] | rw [if_neg (by omega)], by omega⟩
  · replace zh1 : ¬ (a1 ≤ a2) := zh1
    change AW ev false 1 t_X8_along Q 12 [some (vI c), some (vI dx), some (vI dy), some (vI k), none, none, none] [vI dx] M
    refine AW.callS (d' := 0) [vI dx] [] sm_X8_size hX8_86 (okP_d pk_X8_along 6 12 (.invokestatic 86) 3 rfl) (by decide) rfl (Nat.le_of_ble_eq_true rfl) ?_
    refine c_X8_size dx (by omega) (fun a3 za3 => ?_)
    change AW ev false 1 t_X8_along Q 15 [some (vI c), some (vI dx), some (vI dy), some (vI k), none, none, none] [vI a3] M
    refine AW.go pk_X8_along 7 1 rfl rfl ?_
    change AW ev false 1 t_X8_along Q 22 [some (vI c), some (vI dx), some (vI dy), some (vI k), none, none, none] [vI a3] M
    have zm : a3 = mxa dx dy := mxa_of (by omega)
    refine AW.st (show [vI a3] = [vI (mxa dx dy)] from by rw [← zm]) ?_
    have zms := mxa_spec dx dy
    refine AW.go pk_X8_along 10 9 rfl rfl ?_
    refine And.intro (show 4 < mL t_X8_along from (by decide)) ?_
    refine And.intro (show ((0 ≤ c ∧ c < 2147483648) ∧ 0 < (12 : Int) ∧ (12 : Int) < 2147483648) from (by omega)) ?_
    change AW ev false 1 t_X8_along Q 33 [some (vI c), some (vI dx), some (vI dy), some (vI k), some (vI (mxa dx dy)), none, none] [vI (mxa dx dy), vI (k * dx), vI (c % 12)] M
    refine AW.callS (d' := 0) [vI (k * dx), vI (mxa dx dy)] [vI (c % 12)] sm_X8_rounded hX8_119 (okP_d pk_X8_along 18 33 (.invokestatic 119) 3 rfl) (by decide) rfl (Nat.le_of_ble_eq_true rfl) ?_
    refine c_X8_rounded (k * dx) (mxa dx dy) (by have := mul_bd (a := k) (b := dx) (A := 12) (B := 11) (by omega) (by omega); omega) (by omega) (fun w1 zw1 => ?_)
    change AW ev false 1 t_X8_along Q 36 [some (vI c), some (vI dx), some (vI dy), some (vI k), some (vI (mxa dx dy)), none, none] [vI w1, vI (c % 12)] M
    refine AW.go pk_X8_along 19 10 rfl rfl ?_
    refine And.intro (show 5 < mL t_X8_along from (by decide)) ?_
    refine And.intro (show ((0 ≤ c ∧ c < 2147483648) ∧ 0 < (12 : Int) ∧ (12 : Int) < 2147483648) from (by omega)) ?_
    change AW ev false 1 t_X8_along Q 48 [some (vI c), some (vI dx), some (vI dy), some (vI k), some (vI (mxa dx dy)), some (vI ((c % 12) + w1)), none] [vI (mxa dx dy), vI (k * dy), vI (c / 12)] M
    refine AW.callS (d' := 0) [vI (k * dy), vI (mxa dx dy)] [vI (c / 12)] sm_X8_rounded hX8_119 (okP_d pk_X8_along 28 48 (.invokestatic 119) 3 rfl) (by decide) rfl (Nat.le_of_ble_eq_true rfl) ?_
    refine c_X8_rounded (k * dy) (mxa dx dy) (by have := mul_bd (a := k) (b := dy) (A := 12) (B := 11) (by omega) (by omega); omega) (by omega) (fun w2 zw2 => ?_)
    change AW ev false 1 t_X8_along Q 51 [some (vI c), some (vI dx), some (vI dy), some (vI k), some (vI (mxa dx dy)), some (vI ((c % 12) + w1)), none] [vI w2, vI (c / 12)] M
    refine AW.go pk_X8_along 29 6 rfl rfl ?_
    refine And.intro (show 6 < mL t_X8_along from (by decide)) ?_
    change AW ev false 1 t_X8_along Q 59 [some (vI c), some (vI dx), some (vI dy), some (vI k), some (vI (mxa dx dy)), some (vI ((c % 12) + w1)), some (vI ((c / 12) + w2))] [vI 11, vI 0, vI ((c % 12) + w1)] M
    refine AW.callS (d' := 0) [vI ((c % 12) + w1), vI 0, vI 11] [] sm_X8_within hX8_69 (okP_d pk_X8_along 34 59 (.invokestatic 69) 3 rfl) (by decide) rfl (Nat.le_of_ble_eq_true rfl) ?_
    refine c_X8_within ((c % 12) + w1) 0 11 (by omega) (by omega) (by omega) (fun w3 zw3 => ?_)
    change AW ev false 1 t_X8_along Q 62 [some (vI c), some (vI dx), some (vI dy), some (vI k), some (vI (mxa dx dy)), some (vI ((c % 12) + w1)), some (vI ((c / 12) + w2))] [vI w3] M
    refine AW.go pk_X8_along 35 5 rfl rfl ?_
    refine And.intro (show Inr w3 from ⟨by omega, by omega⟩) (And.intro (fun zh4 => ?_) (fun zh4 => ?_))
    · replace zh4 : w3 = (0 : Int) := zh4
      change AW ev false 1 t_X8_along Q 87 [some (vI c), some (vI dx), some (vI dy), some (vI k), some (vI (mxa dx dy)), some (vI ((c % 12) + w1)), some (vI ((c / 12) + w2))] [] M
      refine AW.go pk_X8_along 47 2 rfl rfl ?_
      refine And.intro rfl ?_
      exact zQ _ ⟨by unfold alo; rw [← zw1.1, ← zw2.1]; first | rw [if_pos (by omega)] | rw [if_neg (by omega)], by omega⟩
    · replace zh4 : ¬ (w3 = (0 : Int)) := zh4
      change AW ev false 1 t_X8_along Q 70 [some (vI c), some (vI dx), some (vI dy), some (vI k), some (vI (mxa dx dy)), some (vI ((c % 12) + w1)), some (vI ((c / 12) + w2))] [vI 11, vI 0, vI ((c / 12) + w2)] M
      refine AW.callS (d' := 0) [vI ((c / 12) + w2), vI 0, vI 11] [] sm_X8_within hX8_69 (okP_d pk_X8_along 39 70 (.invokestatic 69) 3 rfl) (by decide) rfl (Nat.le_of_ble_eq_true rfl) ?_
      refine c_X8_within ((c / 12) + w2) 0 11 (by omega) (by omega) (by omega) (fun w4 zw4 => ?_)
      change AW ev false 1 t_X8_along Q 73 [some (vI c), some (vI dx), some (vI dy), some (vI k), some (vI (mxa dx dy)), some (vI ((c % 12) + w1)), some (vI ((c / 12) + w2))] [vI w4] M
      refine AW.go pk_X8_along 40 7 rfl rfl ?_
      refine And.intro (show Inr w4 from ⟨by omega, by omega⟩) (And.intro (fun zh5 => ?_) (fun zh5 => ?_))
      · replace zh5 : w4 = (0 : Int) := zh5
        change AW ev false 1 t_X8_along Q 87 [some (vI c), some (vI dx), some (vI dy), some (vI k), some (vI (mxa dx dy)), some (vI ((c % 12) + w1)), some (vI ((c / 12) + w2))] [] M
        refine AW.go pk_X8_along 47 2 rfl rfl ?_
        refine And.intro rfl ?_
        exact zQ _ ⟨by unfold alo; rw [← zw1.1, ← zw2.1]; first | rw [if_pos (by omega)] | rw [if_neg (by omega)], by omega⟩
      · replace zh5 : ¬ (w4 = (0 : Int)) := zh5
        change AW ev false 1 t_X8_along Q 88 [some (vI c), some (vI dx), some (vI dy), some (vI k), some (vI (mxa dx dy)), some (vI ((c % 12) + w1)), some (vI ((c / 12) + w2))] [vI ((12 * ((c / 12) + w2)) + ((c % 12) + w1))] M
        refine AW.go pk_X8_along 48 1 rfl rfl ?_
        refine And.intro rfl ?_
        exact zQ _ ⟨by unfold alo; rw [← zw1.1, ← zw2.1]; first | rw [if_pos (by omega)] | rw [if_neg (by omega)], by omega⟩
theorem c_X8_eyeOf {ev : Ev} {Q : Out → Mem → Prop} {M : Mem}  (s : Int) (zp0 : TJ M) (zp1 : SJ M) (zp2 : 0 ≤ s ∧ s < M 27 2) (zQ : ∀ (r : Int), r = eyeF (M 28) (M 29) (M 30) s ∧ (0 ≤ r ∧ r ≤ 550) → Q (.inl (some (vI r))) M) : AM ev false 0 t_X8_eyeOf [vR 27, vI s] M Q := by
  have zs := zp1.1
  have zf := zp1.2.1 s (by omega) (by omega)
  have zg := zp0 (M 29 s) (by omega) (by omega)
  refine AM.of mt_X8_eyeOf (Nat.le_of_ble_eq_true rfl) ?_
  change AW ev false 0 t_X8_eyeOf Q 0 [some (vR 27), some (vI s)] [] M
  refine AW.go pk_X8_eyeOf 0 13 rfl rfl ?_
  refine And.intro (show (0 ≤ s ∧ s < 8) from (by omega)) ?_
  refine And.intro (show (0 ≤ M 29 s ∧ M 29 s < 144) from (by omega)) ?_
  refine And.intro (show (0 ≤ s ∧ s < 8) from (by omega)) ?_
  refine And.intro rfl ?_
  exact zQ (M 28 (M 29 s) + M 30 s) ⟨rfl, by omega⟩
theorem lz_blk8 {ev : Ev} {Q : Out → Mem → Prop} {M : Mem}  (c : Int) (e : Int) (t : Int) (o : Int) (zp0 : TJ M) (zp1 : 0 ≤ c ∧ c < 144) (zp2 : 0 ≤ e ∧ e ≤ 600) (zp3 : 0 ≤ t ∧ t < 144) (zp4 : 0 ≤ o ∧ o ≤ 600) (zp5 : c ≠ t) (dx dy m : Int) (zdx : dx = t % 12 - c % 12) (zdy : dy = t / 12 - c / 12) (zm : m = mxa dx dy) (zm1 : 1 ≤ m ∧ m ≤ 11) : ∀ (n : Nat) (k : Int), k + n = m → (1 ≤ k) → (∀ r : Int, r = fa (M 28) c dx dy m e (o - e) n k → Q (.inl (some (vI r))) M) → AW ev false 2 t_X8_blockerOf Q 53 [some (vR 27), some (vI c), some (vI e), some (vI t), some (vI o), some (vI dx), some (vI dy), some (vI m), some (vI k)] [] M := by
  intro n
  induction n with
  | zero =>
    intro k zn zv0 zv1
    refine AW.go pk_X8_blockerOf 29 10 rfl rfl ?_
    refine And.intro (show Inr k ∧ Inr m from ⟨⟨by omega, by omega⟩, ⟨by omega, by omega⟩⟩) (And.intro (fun zh1 => ?_) (fun zh1 => ?_))
    · replace zh1 : m ≤ k := zh1
      change AW ev false 2 t_X8_blockerOf Q 99 [some (vR 27), some (vI c), some (vI e), some (vI t), some (vI o), some (vI dx), some (vI dy), some (vI m), some (vI k)] [] M
      refine AW.go pk_X8_blockerOf 54 8 rfl rfl ?_
      refine And.intro (show Inr k ∧ Inr m from ⟨⟨by omega, by omega⟩, ⟨by omega, by omega⟩⟩) (And.intro (fun zh2 => ?_) (fun zh2 => ?_))
      · replace zh2 : m ≤ k := zh2
        change AW ev false 2 t_X8_blockerOf Q 119 [some (vR 27), some (vI c), some (vI e), some (vI t), some (vI o), some (vI dx), some (vI dy), some (vI m), some (vI k)] [] M
        refine AW.go pk_X8_blockerOf 63 2 rfl rfl ?_
        refine And.intro rfl ?_
        exact zv1 _ rfl
      · replace zh2 : ¬ (m ≤ k) := zh2
        exfalso; omega
    · replace zh1 : ¬ (m ≤ k) := zh1
      exfalso; omega
  | succ n zih =>
    intro k zn zv0 zv1
    refine AW.go pk_X8_blockerOf 29 10 rfl rfl ?_
    refine And.intro (show Inr k ∧ Inr m from ⟨⟨by omega, by omega⟩, ⟨by omega, by omega⟩⟩) (And.intro (fun zh1 => ?_) (fun zh1 => ?_))
    · replace zh1 : m ≤ k := zh1
      exfalso; omega
    · replace zh1 : ¬ (m ≤ k) := zh1
      change AW ev false 2 t_X8_blockerOf Q 71 [some (vR 27), some (vI c), some (vI e), some (vI t), some (vI o), some (vI dx), some (vI dy), some (vI m), some (vI k)] [vI k, vI dy, vI dx, vI c, vR 28] M
      refine AW.callS (d' := 1) [vI c, vI dx, vI dy, vI k] [vR 28] sm_X8_along hX8_123 (okP_d pk_X8_blockerOf 38 71 (.invokestatic 123) 3 rfl) (by decide) rfl (Nat.le_of_ble_eq_true rfl) ?_
      refine c_X8_along c dx dy k (by omega) (by omega) (by omega) (by omega) (by omega) (fun w1 zw1 => ?_)
      rw [← zm] at zw1
      have zin := alo_in (k := k) (m := m) zp1 zp3 zdx zdy (by omega) (by omega) (by omega)
      rw [← zw1.1] at zin
      have zg := zp0 w1 (by omega) (by omega)
      have zb1 := mul_bd (a := M 28 w1) (b := m) (A := 500) (B := 11) (by omega) (by omega)
      have zb2 := mul_bd (a := e) (b := m) (A := 600) (B := 11) (by omega) (by omega)
      have zb3 := mul_bd (a := o - e) (b := k) (A := 600) (B := 11) (by omega) (by omega)
      change AW ev false 2 t_X8_blockerOf Q 74 [some (vR 27), some (vI c), some (vI e), some (vI t), some (vI o), some (vI dx), some (vI dy), some (vI m), some (vI k)] [vI w1, vR 28] M
      refine AW.go pk_X8_blockerOf 39 15 rfl rfl ?_
      refine And.intro (show (0 ≤ w1 ∧ w1 < 144) from (by omega)) ?_
      refine And.intro (show Inr ((M 28 w1) * m) ∧ Inr ((e * m) + ((o - e) * k)) from ⟨⟨by omega, by omega⟩, ⟨by omega, by omega⟩⟩) (And.intro (fun zh2 => ?_) (fun zh2 => ?_))
      · replace zh2 : (e * m) + ((o - e) * k) < (M 28 w1) * m := zh2
        change AW ev false 2 t_X8_blockerOf Q 99 [some (vR 27), some (vI c), some (vI e), some (vI t), some (vI o), some (vI dx), some (vI dy), some (vI m), some (vI k)] [] M
        refine AW.go pk_X8_blockerOf 54 8 rfl rfl ?_
        refine And.intro (show Inr k ∧ Inr m from ⟨⟨by omega, by omega⟩, ⟨by omega, by omega⟩⟩) (And.intro (fun zh3 => ?_) (fun zh3 => ?_))
        · replace zh3 : m ≤ k := zh3
          exfalso; omega
        · replace zh3 : ¬ (m ≤ k) := zh3
          change AW ev false 2 t_X8_blockerOf Q 113 [some (vR 27), some (vI c), some (vI e), some (vI t), some (vI o), some (vI dx), some (vI dy), some (vI m), some (vI k)] [vI k, vI dy, vI dx, vI c] M
          refine AW.callS (d' := 1) [vI c, vI dx, vI dy, vI k] [] sm_X8_along hX8_123 (okP_d pk_X8_blockerOf 61 113 (.invokestatic 123) 3 rfl) (by decide) rfl (Nat.le_of_ble_eq_true rfl) ?_
          refine c_X8_along c dx dy k (by omega) (by omega) (by omega) (by omega) (by omega) (fun w2 zw2 => ?_)
          rw [← zm] at zw2
          change AW ev false 2 t_X8_blockerOf Q 116 [some (vR 27), some (vI c), some (vI e), some (vI t), some (vI o), some (vI dx), some (vI dy), some (vI m), some (vI k)] [vI w2] M
          refine AW.go pk_X8_blockerOf 62 1 rfl rfl ?_
          change AW ev false 2 t_X8_blockerOf Q 120 [some (vR 27), some (vI c), some (vI e), some (vI t), some (vI o), some (vI dx), some (vI dy), some (vI m), some (vI k)] [vI w2] M
          refine AW.go pk_X8_blockerOf 64 1 rfl rfl ?_
          refine And.intro rfl ?_
          exact zv1 _ (by rw [fa_yes (by rw [← zw1.1]; omega) (by rw [← zw1.1]; omega)]; exact zw2.1)
      · replace zh2 : ¬ ((e * m) + ((o - e) * k) < (M 28 w1) * m) := zh2
        refine And.intro (show 8 < mL t_X8_blockerOf from (by decide)) ?_
        change AW ev false 2 t_X8_blockerOf Q 53 [some (vR 27), some (vI c), some (vI e), some (vI t), some (vI o), some (vI dx), some (vI dy), some (vI m), some (vI (k + 1))] [] M
        exact zih (k + 1) (by omega) (by omega) (fun r zr => zv1 r (by rw [zr, fa_no (by rw [← zw1.1]; omega) (by rw [← zw1.1]; omega)]))
theorem c_X8_blockerOf {ev : Ev} {Q : Out → Mem → Prop} {M : Mem}  (c : Int) (e : Int) (t : Int) (o : Int) (zp0 : TJ M) (zp1 : 0 ≤ c ∧ c < 144) (zp2 : 0 ≤ e ∧ e ≤ 600) (zp3 : 0 ≤ t ∧ t < 144) (zp4 : 0 ≤ o ∧ o ≤ 600) (zp5 : c ≠ t) (zQ : ∀ (r : Int), r = blkF (M 28) c e t o ∧ (-1 ≤ r ∧ r < 144) → Q (.inl (some (vI r))) M) : AM ev false 2 t_X8_blockerOf [vR 27, vI c, vI e, vI t, vI o] M Q := by
  refine AM.of mt_X8_blockerOf (Nat.le_of_ble_eq_true rfl) ?_
  change AW ev false 2 t_X8_blockerOf Q 0 [some (vR 27), some (vI c), some (vI e), some (vI t), some (vI o), none, none, none, none] [] M
  refine AW.go pk_X8_blockerOf 0 18 rfl rfl ?_
  refine And.intro (show ((0 ≤ t ∧ t < 2147483648) ∧ 0 < (12 : Int) ∧ (12 : Int) < 2147483648) from (by omega)) ?_
  refine And.intro (show ((0 ≤ c ∧ c < 2147483648) ∧ 0 < (12 : Int) ∧ (12 : Int) < 2147483648) from (by omega)) ?_
  refine And.intro (show 5 < mL t_X8_blockerOf from (by decide)) ?_
  refine And.intro (show ((0 ≤ t ∧ t < 2147483648) ∧ 0 < (12 : Int) ∧ (12 : Int) < 2147483648) from (by omega)) ?_
  refine And.intro (show ((0 ≤ c ∧ c < 2147483648) ∧ 0 < (12 : Int) ∧ (12 : Int) < 2147483648) from (by omega)) ?_
  refine And.intro (show 6 < mL t_X8_blockerOf from (by decide)) ?_
  change AW ev false 2 t_X8_blockerOf Q 24 [some (vR 27), some (vI c), some (vI e), some (vI t), some (vI o), some (vI ((t % 12) - (c % 12))), some (vI ((t / 12) - (c / 12))), none, none] [vI ((t % 12) - (c % 12))] M
  refine AW.callS (d' := 0) [vI ((t % 12) - (c % 12))] [] sm_X8_size hX8_86 (okP_d pk_X8_blockerOf 17 24 (.invokestatic 86) 3 rfl) (by decide) rfl (Nat.le_of_ble_eq_true rfl) ?_
  refine c_X8_size ((t % 12) - (c % 12)) (by omega) (fun a1 za1 => ?_)
  change AW ev false 2 t_X8_blockerOf Q 27 [some (vR 27), some (vI c), some (vI e), some (vI t), some (vI o), some (vI ((t % 12) - (c % 12))), some (vI ((t / 12) - (c / 12))), none, none] [vI a1] M
  refine AW.go pk_X8_blockerOf 18 2 rfl rfl ?_
  change AW ev false 2 t_X8_blockerOf Q 29 [some (vR 27), some (vI c), some (vI e), some (vI t), some (vI o), some (vI ((t % 12) - (c % 12))), some (vI ((t / 12) - (c / 12))), none, none] [vI ((t / 12) - (c / 12)), vI a1] M
  refine AW.callS (d' := 0) [vI ((t / 12) - (c / 12))] [vI a1] sm_X8_size hX8_86 (okP_d pk_X8_blockerOf 19 29 (.invokestatic 86) 3 rfl) (by decide) rfl (Nat.le_of_ble_eq_true rfl) ?_
  refine c_X8_size ((t / 12) - (c / 12)) (by omega) (fun a2 za2 => ?_)
  change AW ev false 2 t_X8_blockerOf Q 32 [some (vR 27), some (vI c), some (vI e), some (vI t), some (vI o), some (vI ((t % 12) - (c % 12))), some (vI ((t / 12) - (c / 12))), none, none] [vI a2, vI a1] M
  refine AW.go pk_X8_blockerOf 20 3 rfl rfl ?_
  refine And.intro (show Inr a1 ∧ Inr a2 from ⟨⟨by omega, by omega⟩, ⟨by omega, by omega⟩⟩) (And.intro (fun zh1 => ?_) (fun zh1 => ?_))
  · replace zh1 : a1 ≤ a2 := zh1
    change AW ev false 2 t_X8_blockerOf Q 43 [some (vR 27), some (vI c), some (vI e), some (vI t), some (vI o), some (vI ((t % 12) - (c % 12))), some (vI ((t / 12) - (c / 12))), none, none] [] M
    refine AW.go pk_X8_blockerOf 24 2 rfl rfl ?_
    change AW ev false 2 t_X8_blockerOf Q 45 [some (vR 27), some (vI c), some (vI e), some (vI t), some (vI o), some (vI ((t % 12) - (c % 12))), some (vI ((t / 12) - (c / 12))), none, none] [vI ((t / 12) - (c / 12))] M
    refine AW.callS (d' := 0) [vI ((t / 12) - (c / 12))] [] sm_X8_size hX8_86 (okP_d pk_X8_blockerOf 25 45 (.invokestatic 86) 3 rfl) (by decide) rfl (Nat.le_of_ble_eq_true rfl) ?_
    refine c_X8_size ((t / 12) - (c / 12)) (by omega) (fun a3 za3 => ?_)
    change AW ev false 2 t_X8_blockerOf Q 48 [some (vR 27), some (vI c), some (vI e), some (vI t), some (vI o), some (vI ((t % 12) - (c % 12))), some (vI ((t / 12) - (c / 12))), none, none] [vI a3] M
    have zm : a3 = mxa ((t % 12) - (c % 12)) ((t / 12) - (c / 12)) := mxa_of (by omega)
    refine AW.st (show [vI a3] = [vI (mxa ((t % 12) - (c % 12)) ((t / 12) - (c / 12)))] from by rw [← zm]) ?_
    have zms := mxa_spec ((t % 12) - (c % 12)) ((t / 12) - (c / 12))
    refine AW.go pk_X8_blockerOf 26 3 rfl rfl ?_
    refine And.intro (show 7 < mL t_X8_blockerOf from (by decide)) ?_
    refine And.intro (show 8 < mL t_X8_blockerOf from (by decide)) ?_
    change AW ev false 2 t_X8_blockerOf Q 53 [some (vR 27), some (vI c), some (vI e), some (vI t), some (vI o), some (vI ((t % 12) - (c % 12))), some (vI ((t / 12) - (c / 12))), some (vI (mxa ((t % 12) - (c % 12)) ((t / 12) - (c / 12)))), some (vI 1)] [] M
    exact lz_blk8 c e t o zp0 zp1 zp2 zp3 zp4 zp5 ((t % 12) - (c % 12)) ((t / 12) - (c / 12)) _ rfl rfl rfl (by omega) (mxa ((t % 12) - (c % 12)) ((t / 12) - (c / 12)) - 1).toNat 1 (by omega) (by omega) (fun r zr => zQ r ⟨zr, by rw [zr]; exact fa_bd _ _ _ _ _ _ _ _ _⟩)
  · replace zh1 : ¬ (a1 ≤ a2) := zh1
    change AW ev false 2 t_X8_blockerOf Q 37 [some (vR 27), some (vI c), some (vI e), some (vI t), some (vI o), some (vI ((t % 12) - (c % 12))), some (vI ((t / 12) - (c / 12))), none, none] [vI ((t % 12) - (c % 12))] M
    refine AW.callS (d' := 0) [vI ((t % 12) - (c % 12))] [] sm_X8_size hX8_86 (okP_d pk_X8_blockerOf 22 37 (.invokestatic 86) 3 rfl) (by decide) rfl (Nat.le_of_ble_eq_true rfl) ?_
    refine c_X8_size ((t % 12) - (c % 12)) (by omega) (fun a3 za3 => ?_)
    change AW ev false 2 t_X8_blockerOf Q 40 [some (vR 27), some (vI c), some (vI e), some (vI t), some (vI o), some (vI ((t % 12) - (c % 12))), some (vI ((t / 12) - (c / 12))), none, none] [vI a3] M
    refine AW.go pk_X8_blockerOf 23 1 rfl rfl ?_
    change AW ev false 2 t_X8_blockerOf Q 48 [some (vR 27), some (vI c), some (vI e), some (vI t), some (vI o), some (vI ((t % 12) - (c % 12))), some (vI ((t / 12) - (c / 12))), none, none] [vI a3] M
    have zm : a3 = mxa ((t % 12) - (c % 12)) ((t / 12) - (c / 12)) := mxa_of (by omega)
    refine AW.st (show [vI a3] = [vI (mxa ((t % 12) - (c % 12)) ((t / 12) - (c / 12)))] from by rw [← zm]) ?_
    have zms := mxa_spec ((t % 12) - (c % 12)) ((t / 12) - (c / 12))
    refine AW.go pk_X8_blockerOf 26 3 rfl rfl ?_
    refine And.intro (show 7 < mL t_X8_blockerOf from (by decide)) ?_
    refine And.intro (show 8 < mL t_X8_blockerOf from (by decide)) ?_
    change AW ev false 2 t_X8_blockerOf Q 53 [some (vR 27), some (vI c), some (vI e), some (vI t), some (vI o), some (vI ((t % 12) - (c % 12))), some (vI ((t / 12) - (c / 12))), some (vI (mxa ((t % 12) - (c % 12)) ((t / 12) - (c / 12)))), some (vI 1)] [] M
    exact lz_blk8 c e t o zp0 zp1 zp2 zp3 zp4 zp5 ((t % 12) - (c % 12)) ((t / 12) - (c / 12)) _ rfl rfl rfl (by omega) (mxa ((t % 12) - (c % 12)) ((t / 12) - (c / 12)) - 1).toNat 1 (by omega) (by omega) (fun r zr => zQ r ⟨zr, by rw [zr]; exact fa_bd _ _ _ _ _ _ _ _ _⟩)
theorem c_X8_between {ev : Ev} {Q : Out → Mem → Prop} {M : Mem}  (a : Int) (b : Int) (zp0 : TJ M) (zp1 : SJ M) (zp2 : 0 ≤ a ∧ a < M 27 2) (zp3 : 0 ≤ b ∧ b < M 27 2) (zp4 : a ≠ b) (zQ : ∀ (r : Int), r = betF (M 28) (M 29) (M 30) a b ∧ (-1 ≤ r ∧ r < 144) → Q (.inl (some (vI r))) M) : AM ev false 3 t_X8_between [vR 27, vI a, vI b] M Q := by
  have zs := zp1.1
  have zfa := zp1.2.1 a (by omega) (by omega)
  have zfb := zp1.2.1 b (by omega) (by omega)
  refine AM.of mt_X8_between (Nat.le_of_ble_eq_true rfl) ?_
  change AW ev false 3 t_X8_between Q 0 [some (vR 27), some (vI a), some (vI b)] [] M
  refine AW.go pk_X8_between 0 8 rfl rfl ?_
  refine And.intro (show (0 ≤ a ∧ a < 8) from (by omega)) ?_
  change AW ev false 3 t_X8_between Q 9 [some (vR 27), some (vI a), some (vI b)] [vI a, vR 27, vI (M 29 a), vR 27] M
  refine AW.callV (d' := 0) [vI a] [vI (M 29 a), vR 27] vm_X8_eyeOf rfl hX8_127 (okP_d pk_X8_between 7 9 (.invokevirtual 127) 3 rfl) (by decide) rfl (Nat.le_of_ble_eq_true rfl) ?_
  refine c_X8_eyeOf a zp0 zp1 (by omega) (fun w1 zw1 => ?_)
  change AW ev false 3 t_X8_between Q 12 [some (vR 27), some (vI a), some (vI b)] [vI w1, vI (M 29 a), vR 27] M
  refine AW.go pk_X8_between 8 7 rfl rfl ?_
  refine And.intro (show (0 ≤ b ∧ b < 8) from (by omega)) ?_
  change AW ev false 3 t_X8_between Q 20 [some (vR 27), some (vI a), some (vI b)] [vI b, vR 27, vI (M 29 b), vI w1, vI (M 29 a), vR 27] M
  refine AW.callV (d' := 0) [vI b] [vI (M 29 b), vI w1, vI (M 29 a), vR 27] vm_X8_eyeOf rfl hX8_127 (okP_d pk_X8_between 14 20 (.invokevirtual 127) 3 rfl) (by decide) rfl (Nat.le_of_ble_eq_true rfl) ?_
  refine c_X8_eyeOf b zp0 zp1 (by omega) (fun w2 zw2 => ?_)
  change AW ev false 3 t_X8_between Q 23 [some (vR 27), some (vI a), some (vI b)] [vI w2, vI (M 29 b), vI w1, vI (M 29 a), vR 27] M
  refine AW.callV (d' := 2) [vI (M 29 a), vI w1, vI (M 29 b), vI w2] [] vm_X8_blockerOf rfl hX8_130 (okP_d pk_X8_between 15 23 (.invokevirtual 130) 3 rfl) (by decide) rfl (Nat.le_of_ble_eq_true rfl) ?_
  refine c_X8_blockerOf (M 29 a) w1 (M 29 b) w2 zp0 (by omega) (by omega) (by omega) (by omega) (fun q => zp4 (zp1.2.2 a b (by omega) (by omega) (by omega) (by omega) q)) (fun w3 zw3 => ?_)
  change AW ev false 3 t_X8_between Q 26 [some (vR 27), some (vI a), some (vI b)] [vI w3] M
  refine AW.go pk_X8_between 16 1 rfl rfl ?_
  refine And.intro rfl ?_
  exact zQ _ ⟨by rw [zw3.1]; unfold betF; rw [zw1.1, zw2.1], zw3.2⟩
theorem c_X8_upAt {ev : Ev} {Q : Out → Mem → Prop} {M : Mem}  (hr : Int) (zp0 : 6 ≤ hr ∧ hr ≤ 17) (zQ : ∀ (r : Int), r = upH hr ∧ (0 ≤ r + 5 ∧ r ≤ 6) → Q (.inl (some (vI r))) M) : AM ev false 1 t_X8_upAt [vI hr] M Q := by
  refine AM.of mt_X8_upAt (Nat.le_of_ble_eq_true rfl) ?_
  change AW ev false 1 t_X8_upAt Q 0 [some (vI hr)] [] M
  refine AW.go pk_X8_upAt 0 5 rfl rfl ?_
  change AW ev false 1 t_X8_upAt Q 6 [some (vI hr)] [vI (12 - hr), vI 6] M
  refine AW.callS (d' := 0) [vI (12 - hr)] [vI 6] sm_X8_size hX8_86 (okP_d pk_X8_upAt 4 6 (.invokestatic 86) 3 rfl) (by decide) rfl (Nat.le_of_ble_eq_true rfl) ?_
  refine c_X8_size (12 - hr) (by omega) (fun w1 zw1 => ?_)
  change AW ev false 1 t_X8_upAt Q 9 [some (vI hr)] [vI w1, vI 6] M
  refine AW.go pk_X8_upAt 5 2 rfl rfl ?_
  refine And.intro rfl ?_
  exact zQ (6 - w1) ⟨by unfold upH; rw [zw1.1], by omega⟩
theorem lz_shade {ev : Ev} {Q : Out → Mem → Prop} {M : Mem}  (s : Int) (hr : Int) (zp0 : TJ M) (zp1 : SJ M) (zp2 : 0 ≤ s ∧ s < M 27 2) (zp3 : 6 ≤ hr ∧ hr ≤ 17)  : ∀ (n : Nat) (k : Int) (c : Int), k + n = 12 → (1 ≤ k) → (c = alo (M 29 s) (12 - hr) 3 (mxa (12 - hr) 3) k) → (∀ r : Int, (r = 0 ∨ r = 1) → (r = 1 ↔ fa (M 28) (M 29 s) (12 - hr) 3 (mxa (12 - hr) 3) (eyeF (M 28) (M 29) (M 30) s) (20 * upH hr) n k ≠ -1) → Q (.inl (some (vI r))) M) → AW ev false 2 t_X8_isShaded Q 41 [some (vR 27), some (vI s), some (vI hr), some (vI (12 - hr)), some (vI (mxa (12 - hr) 3)), some (vI k), some (vI c)] [] M := by
  intro n
  induction n with
  | zero =>
    intro k c zn zv0 zv1 zv2
    have zs := zp1.1
    have zf := zp1.2.1 s (by omega) (by omega)
    have zms := mxa_spec (12 - hr) 3
    have zcb := alo_bd (M 29 s) (12 - hr) 3 (mxa (12 - hr) 3) k
    rw [← zv1] at zcb
    have zoff : c = -1 := by rw [zv1, show k = 12 from by omega]; exact alo_off (by omega) (by omega)
    refine AW.go pk_X8_isShaded 24 12 rfl rfl ?_
    refine And.intro (show Inr c ∧ Inr (-1) from ⟨⟨by omega, by omega⟩, ⟨by omega, by omega⟩⟩) (And.intro (fun zh1 => ?_) (fun zh1 => ?_))
    · replace zh1 : c = (-1 : Int) := zh1
      change AW ev false 2 t_X8_isShaded Q 100 [some (vR 27), some (vI s), some (vI hr), some (vI (12 - hr)), some (vI (mxa (12 - hr) 3)), some (vI k), some (vI c)] [] M
      refine AW.go pk_X8_isShaded 57 5 rfl rfl ?_
      refine And.intro (show Inr c ∧ Inr (-1) from ⟨⟨by omega, by omega⟩, ⟨by omega, by omega⟩⟩) (And.intro (fun zh2 => ?_) (fun zh2 => ?_))
      · replace zh2 : c = (-1 : Int) := zh2
        change AW ev false 2 t_X8_isShaded Q 110 [some (vR 27), some (vI s), some (vI hr), some (vI (12 - hr)), some (vI (mxa (12 - hr) 3)), some (vI k), some (vI c)] [] M
        refine AW.go pk_X8_isShaded 62 2 rfl rfl ?_
        refine And.intro rfl ?_
        refine And.intro (show ((0 : Int) = 0 ∨ (0 : Int) = 1) from (by omega)) ?_
        exact zv2 0 (Or.inl rfl) (iff_of_false (by omega) (fun q => q (fa_off (by omega))))
      · replace zh2 : ¬ (c = (-1 : Int)) := zh2
        exfalso; omega
    · replace zh1 : ¬ (c = (-1 : Int)) := zh1
      exfalso; omega
  | succ n zih =>
    intro k c zn zv0 zv1 zv2
    have zs := zp1.1
    have zf := zp1.2.1 s (by omega) (by omega)
    have zms := mxa_spec (12 - hr) 3
    have zcb := alo_bd (M 29 s) (12 - hr) 3 (mxa (12 - hr) 3) k
    rw [← zv1] at zcb
    refine AW.go pk_X8_isShaded 24 12 rfl rfl ?_
    refine And.intro (show Inr c ∧ Inr (-1) from ⟨⟨by omega, by omega⟩, ⟨by omega, by omega⟩⟩) (And.intro (fun zh1 => ?_) (fun zh1 => ?_))
    · replace zh1 : c = (-1 : Int) := zh1
      change AW ev false 2 t_X8_isShaded Q 100 [some (vR 27), some (vI s), some (vI hr), some (vI (12 - hr)), some (vI (mxa (12 - hr) 3)), some (vI k), some (vI c)] [] M
      refine AW.go pk_X8_isShaded 57 5 rfl rfl ?_
      refine And.intro (show Inr c ∧ Inr (-1) from ⟨⟨by omega, by omega⟩, ⟨by omega, by omega⟩⟩) (And.intro (fun zh2 => ?_) (fun zh2 => ?_))
      · replace zh2 : c = (-1 : Int) := zh2
        change AW ev false 2 t_X8_isShaded Q 110 [some (vR 27), some (vI s), some (vI hr), some (vI (12 - hr)), some (vI (mxa (12 - hr) 3)), some (vI k), some (vI c)] [] M
        refine AW.go pk_X8_isShaded 62 2 rfl rfl ?_
        refine And.intro rfl ?_
        refine And.intro (show ((0 : Int) = 0 ∨ (0 : Int) = 1) from (by omega)) ?_
        exact zv2 0 (Or.inl rfl) (iff_of_false (by omega) (fun q => q (fa_off (by omega))))
      · replace zh2 : ¬ (c = (-1 : Int)) := zh2
        change AW ev false 2 t_X8_isShaded Q 111 [some (vR 27), some (vI s), some (vI hr), some (vI (12 - hr)), some (vI (mxa (12 - hr) 3)), some (vI k), some (vI c)] [vI 1] M
        refine AW.go pk_X8_isShaded 63 1 rfl rfl ?_
        refine And.intro rfl ?_
        refine And.intro (show ((1 : Int) = 0 ∨ (1 : Int) = 1) from (by omega)) ?_
        first | (exfalso; omega) | exact zv2 1 (Or.inr rfl) (iff_of_true rfl (by rw [fa_yes (by rw [← zv1]; omega) (by rw [← zv1, ← zw1.1, ← zw2.1]; omega), ← zv1]; omega))
    · replace zh1 : ¬ (c = (-1 : Int)) := zh1
      refine And.intro (show (0 ≤ c ∧ c < 144) from (by omega)) ?_
      change AW ev false 2 t_X8_isShaded Q 59 [some (vR 27), some (vI s), some (vI hr), some (vI (12 - hr)), some (vI (mxa (12 - hr) 3)), some (vI k), some (vI c)] [vI s, vR 27, vI ((M 28 c) * (mxa (12 - hr) 3))] M
      refine AW.callV (d' := 0) [vI s] [vI ((M 28 c) * (mxa (12 - hr) 3))] vm_X8_eyeOf rfl hX8_127 (okP_d pk_X8_isShaded 35 59 (.invokevirtual 127) 3 rfl) (by decide) rfl (Nat.le_of_ble_eq_true rfl) ?_
      refine c_X8_eyeOf s zp0 zp1 (by omega) (fun w1 zw1 => ?_)
      have zg := zp0 c (by omega) (by omega)
      have zb1 := mul_bd (a := M 28 c) (b := mxa (12 - hr) 3) (A := 500) (B := 6) (by omega) (by omega)
      have zb2 := mul_bd (a := w1) (b := mxa (12 - hr) 3) (A := 600) (B := 6) (by omega) (by omega)
      change AW ev false 2 t_X8_isShaded Q 62 [some (vR 27), some (vI s), some (vI hr), some (vI (12 - hr)), some (vI (mxa (12 - hr) 3)), some (vI k), some (vI c)] [vI w1, vI ((M 28 c) * (mxa (12 - hr) 3))] M
      refine AW.go pk_X8_isShaded 36 5 rfl rfl ?_
      change AW ev false 2 t_X8_isShaded Q 68 [some (vR 27), some (vI s), some (vI hr), some (vI (12 - hr)), some (vI (mxa (12 - hr) 3)), some (vI k), some (vI c)] [vI hr, vI 20, vI (w1 * (mxa (12 - hr) 3)), vI ((M 28 c) * (mxa (12 - hr) 3))] M
      refine AW.callS (d' := 1) [vI hr] [vI 20, vI (w1 * (mxa (12 - hr) 3)), vI ((M 28 c) * (mxa (12 - hr) 3))] sm_X8_upAt hX8_133 (okP_d pk_X8_isShaded 40 68 (.invokestatic 133) 3 rfl) (by decide) rfl (Nat.le_of_ble_eq_true rfl) ?_
      refine c_X8_upAt hr (by omega) (fun w2 zw2 => ?_)
      have zb3 := mul_bd (a := 20 * w2) (b := k) (A := 120) (B := 12) (by omega) (by omega)
      change AW ev false 2 t_X8_isShaded Q 71 [some (vR 27), some (vI s), some (vI hr), some (vI (12 - hr)), some (vI (mxa (12 - hr) 3)), some (vI k), some (vI c)] [vI w2, vI 20, vI (w1 * (mxa (12 - hr) 3)), vI ((M 28 c) * (mxa (12 - hr) 3))] M
      refine AW.go pk_X8_isShaded 41 14 rfl rfl ?_
      refine And.intro (show Inr ((M 28 c) * (mxa (12 - hr) 3)) ∧ Inr ((w1 * (mxa (12 - hr) 3)) + ((20 * w2) * k)) from ⟨⟨by omega, by omega⟩, ⟨by omega, by omega⟩⟩) (And.intro (fun zh3 => ?_) (fun zh3 => ?_))
      · replace zh3 : (w1 * (mxa (12 - hr) 3)) + ((20 * w2) * k) < (M 28 c) * (mxa (12 - hr) 3) := zh3
        change AW ev false 2 t_X8_isShaded Q 100 [some (vR 27), some (vI s), some (vI hr), some (vI (12 - hr)), some (vI (mxa (12 - hr) 3)), some (vI k), some (vI c)] [] M
        refine AW.go pk_X8_isShaded 57 5 rfl rfl ?_
        refine And.intro (show Inr c ∧ Inr (-1) from ⟨⟨by omega, by omega⟩, ⟨by omega, by omega⟩⟩) (And.intro (fun zh4 => ?_) (fun zh4 => ?_))
        · replace zh4 : c = (-1 : Int) := zh4
          change AW ev false 2 t_X8_isShaded Q 110 [some (vR 27), some (vI s), some (vI hr), some (vI (12 - hr)), some (vI (mxa (12 - hr) 3)), some (vI k), some (vI c)] [] M
          refine AW.go pk_X8_isShaded 62 2 rfl rfl ?_
          refine And.intro rfl ?_
          refine And.intro (show ((0 : Int) = 0 ∨ (0 : Int) = 1) from (by omega)) ?_
          exact zv2 0 (Or.inl rfl) (iff_of_false (by omega) (fun q => q (fa_off (by omega))))
        · replace zh4 : ¬ (c = (-1 : Int)) := zh4
          change AW ev false 2 t_X8_isShaded Q 111 [some (vR 27), some (vI s), some (vI hr), some (vI (12 - hr)), some (vI (mxa (12 - hr) 3)), some (vI k), some (vI c)] [vI 1] M
          refine AW.go pk_X8_isShaded 63 1 rfl rfl ?_
          refine And.intro rfl ?_
          refine And.intro (show ((1 : Int) = 0 ∨ (1 : Int) = 1) from (by omega)) ?_
          first | (exfalso; omega) | exact zv2 1 (Or.inr rfl) (iff_of_true rfl (by rw [fa_yes (by rw [← zv1]; omega) (by rw [← zv1, ← zw1.1, ← zw2.1]; omega), ← zv1]; omega))
      · replace zh3 : ¬ ((w1 * (mxa (12 - hr) 3)) + ((20 * w2) * k) < (M 28 c) * (mxa (12 - hr) 3)) := zh3
        refine And.intro (show 5 < mL t_X8_isShaded from (by decide)) ?_
        refine And.intro (show (0 ≤ s ∧ s < 8) from (by omega)) ?_
        change AW ev false 2 t_X8_isShaded Q 92 [some (vR 27), some (vI s), some (vI hr), some (vI (12 - hr)), some (vI (mxa (12 - hr) 3)), some (vI (k + 1)), some (vI c)] [vI (k + 1), vI 3, vI (12 - hr), vI (M 29 s)] M
        refine AW.callS (d' := 1) [vI (M 29 s), vI (12 - hr), vI 3, vI (k + 1)] [] sm_X8_along hX8_123 (okP_d pk_X8_isShaded 54 92 (.invokestatic 123) 3 rfl) (by decide) rfl (Nat.le_of_ble_eq_true rfl) ?_
        refine c_X8_along (M 29 s) (12 - hr) 3 (k + 1) (by omega) (by omega) (by omega) (by omega) (by omega) (fun w3 zw3 => ?_)
        change AW ev false 2 t_X8_isShaded Q 95 [some (vR 27), some (vI s), some (vI hr), some (vI (12 - hr)), some (vI (mxa (12 - hr) 3)), some (vI (k + 1)), some (vI c)] [vI w3] M
        refine AW.go pk_X8_isShaded 55 2 rfl rfl ?_
        refine And.intro (show 6 < mL t_X8_isShaded from (by decide)) ?_
        change AW ev false 2 t_X8_isShaded Q 41 [some (vR 27), some (vI s), some (vI hr), some (vI (12 - hr)), some (vI (mxa (12 - hr) 3)), some (vI (k + 1)), some (vI w3)] [] M
        exact zih (k + 1) w3 (by omega) (by omega) zw3.1 (fun r zr0 zr => zv2 r zr0 (by rw [zr, fa_no (by rw [← zv1]; omega) (by rw [← zv1, ← zw1.1, ← zw2.1]; omega)]))
theorem c_X8_isShaded {ev : Ev} {Q : Out → Mem → Prop} {M : Mem}  (s : Int) (hr : Int) (zp0 : TJ M) (zp1 : SJ M) (zp2 : 0 ≤ s ∧ s < M 27 2) (zp3 : 6 ≤ hr ∧ hr ≤ 17) (zQ : ∀ (r : Int), (r = 0 ∨ r = 1) ∧ (r = 1 ↔ fa (M 28) (M 29 s) (12 - hr) 3 (mxa (12 - hr) 3) (eyeF (M 28) (M 29) (M 30) s) (20 * upH hr) 11 1 ≠ -1) → Q (.inl (some (vI r))) M) : AM ev false 2 t_X8_isShaded [vR 27, vI s, vI hr] M Q := by
  have zs := zp1.1
  have zf := zp1.2.1 s (by omega) (by omega)
  refine AM.of mt_X8_isShaded (Nat.le_of_ble_eq_true rfl) ?_
  change AW ev false 2 t_X8_isShaded Q 0 [some (vR 27), some (vI s), some (vI hr), none, none, none, none] [] M
  refine AW.go pk_X8_isShaded 0 6 rfl rfl ?_
  refine And.intro (show 3 < mL t_X8_isShaded from (by decide)) ?_
  change AW ev false 2 t_X8_isShaded Q 6 [some (vR 27), some (vI s), some (vI hr), some (vI (12 - hr)), none, none, none] [vI (12 - hr)] M
  refine AW.callS (d' := 0) [vI (12 - hr)] [] sm_X8_size hX8_86 (okP_d pk_X8_isShaded 5 6 (.invokestatic 86) 3 rfl) (by decide) rfl (Nat.le_of_ble_eq_true rfl) ?_
  refine c_X8_size (12 - hr) (by omega) (fun a1 za1 => ?_)
  change AW ev false 2 t_X8_isShaded Q 9 [some (vR 27), some (vI s), some (vI hr), some (vI (12 - hr)), none, none, none] [vI a1] M
  refine AW.go pk_X8_isShaded 6 4 rfl rfl ?_
  refine And.intro (show Inr a1 ∧ Inr 3 from ⟨⟨by omega, by omega⟩, ⟨by omega, by omega⟩⟩) (And.intro (fun zh1 => ?_) (fun zh1 => ?_))
  · replace zh1 : a1 ≤ (3 : Int) := zh1
    change AW ev false 2 t_X8_isShaded Q 20 [some (vR 27), some (vI s), some (vI hr), some (vI (12 - hr)), none, none, none] [] M
    refine AW.go pk_X8_isShaded 11 1 rfl rfl ?_
    change AW ev false 2 t_X8_isShaded Q 21 [some (vR 27), some (vI s), some (vI hr), some (vI (12 - hr)), none, none, none] [vI 3] M
    have zm : (3 : Int) = mxa (12 - hr) 3 := mxa_of (by omega)
    refine AW.st (show [vI 3] = [vI (mxa (12 - hr) 3)] from by rw [← zm]) ?_
    have zms := mxa_spec (12 - hr) 3
    refine AW.go pk_X8_isShaded 12 11 rfl rfl ?_
    refine And.intro (show 4 < mL t_X8_isShaded from (by decide)) ?_
    refine And.intro (show 5 < mL t_X8_isShaded from (by decide)) ?_
    refine And.intro (show (0 ≤ s ∧ s < 8) from (by omega)) ?_
    change AW ev false 2 t_X8_isShaded Q 36 [some (vR 27), some (vI s), some (vI hr), some (vI (12 - hr)), some (vI (mxa (12 - hr) 3)), some (vI 1), none] [vI 1, vI 3, vI (12 - hr), vI (M 29 s)] M
    refine AW.callS (d' := 1) [vI (M 29 s), vI (12 - hr), vI 3, vI 1] [] sm_X8_along hX8_123 (okP_d pk_X8_isShaded 22 36 (.invokestatic 123) 3 rfl) (by decide) rfl (Nat.le_of_ble_eq_true rfl) ?_
    refine c_X8_along (M 29 s) (12 - hr) 3 1 (by omega) (by omega) (by omega) (by omega) (by omega) (fun w3 zw3 => ?_)
    change AW ev false 2 t_X8_isShaded Q 39 [some (vR 27), some (vI s), some (vI hr), some (vI (12 - hr)), some (vI (mxa (12 - hr) 3)), some (vI 1), none] [vI w3] M
    refine AW.go pk_X8_isShaded 23 1 rfl rfl ?_
    refine And.intro (show 6 < mL t_X8_isShaded from (by decide)) ?_
    change AW ev false 2 t_X8_isShaded Q 41 [some (vR 27), some (vI s), some (vI hr), some (vI (12 - hr)), some (vI (mxa (12 - hr) 3)), some (vI 1), some (vI w3)] [] M
    exact lz_shade s hr zp0 zp1 zp2 zp3 11 1 w3 (by omega) (by omega) zw3.1 (fun r q0 q1 => zQ r ⟨q0, q1⟩)
  · replace zh1 : ¬ (a1 ≤ (3 : Int)) := zh1
    change AW ev false 2 t_X8_isShaded Q 14 [some (vR 27), some (vI s), some (vI hr), some (vI (12 - hr)), none, none, none] [vI (12 - hr)] M
    refine AW.callS (d' := 0) [vI (12 - hr)] [] sm_X8_size hX8_86 (okP_d pk_X8_isShaded 9 14 (.invokestatic 86) 3 rfl) (by decide) rfl (Nat.le_of_ble_eq_true rfl) ?_
    refine c_X8_size (12 - hr) (by omega) (fun a2 za2 => ?_)
    change AW ev false 2 t_X8_isShaded Q 17 [some (vR 27), some (vI s), some (vI hr), some (vI (12 - hr)), none, none, none] [vI a2] M
    refine AW.go pk_X8_isShaded 10 1 rfl rfl ?_
    change AW ev false 2 t_X8_isShaded Q 21 [some (vR 27), some (vI s), some (vI hr), some (vI (12 - hr)), none, none, none] [vI a2] M
    have zm : a2 = mxa (12 - hr) 3 := mxa_of (by omega)
    refine AW.st (show [vI a2] = [vI (mxa (12 - hr) 3)] from by rw [← zm]) ?_
    have zms := mxa_spec (12 - hr) 3
    refine AW.go pk_X8_isShaded 12 11 rfl rfl ?_
    refine And.intro (show 4 < mL t_X8_isShaded from (by decide)) ?_
    refine And.intro (show 5 < mL t_X8_isShaded from (by decide)) ?_
    refine And.intro (show (0 ≤ s ∧ s < 8) from (by omega)) ?_
    change AW ev false 2 t_X8_isShaded Q 36 [some (vR 27), some (vI s), some (vI hr), some (vI (12 - hr)), some (vI (mxa (12 - hr) 3)), some (vI 1), none] [vI 1, vI 3, vI (12 - hr), vI (M 29 s)] M
    refine AW.callS (d' := 1) [vI (M 29 s), vI (12 - hr), vI 3, vI 1] [] sm_X8_along hX8_123 (okP_d pk_X8_isShaded 22 36 (.invokestatic 123) 3 rfl) (by decide) rfl (Nat.le_of_ble_eq_true rfl) ?_
    refine c_X8_along (M 29 s) (12 - hr) 3 1 (by omega) (by omega) (by omega) (by omega) (by omega) (fun w3 zw3 => ?_)
    change AW ev false 2 t_X8_isShaded Q 39 [some (vR 27), some (vI s), some (vI hr), some (vI (12 - hr)), some (vI (mxa (12 - hr) 3)), some (vI 1), none] [vI w3] M
    refine AW.go pk_X8_isShaded 23 1 rfl rfl ?_
    refine And.intro (show 6 < mL t_X8_isShaded from (by decide)) ?_
    change AW ev false 2 t_X8_isShaded Q 41 [some (vR 27), some (vI s), some (vI hr), some (vI (12 - hr)), some (vI (mxa (12 - hr) 3)), some (vI 1), some (vI w3)] [] M
    exact lz_shade s hr zp0 zp1 zp2 zp3 11 1 w3 (by omega) (by omega) zw3.1 (fun r q0 q1 => zQ r ⟨q0, q1⟩)
theorem c_X8_isBetween {ev : Ev} {Q : Out → Mem → Prop} {M : Mem}  (v : Int) (a : Int) (b : Int) (zp0 : -2147483648 ≤ v ∧ v < 2147483648) (zp1 : -2147483648 ≤ a ∧ a < 2147483648) (zp2 : -2147483648 ≤ b ∧ b < 2147483648) (zQ : ∀ (r : Int), (r = 0 ∨ r = 1) ∧ (r = 1 ↔ imin a b ≤ v ∧ v ≤ imax a b) → Q (.inl (some (vI r))) M) : AM ev false 1 t_X8_isBetween [vI v, vI a, vI b] M Q := by
  refine AM.of mt_X8_isBetween (Nat.le_of_ble_eq_true rfl) ?_
  change AW ev false 1 t_X8_isBetween Q 0 [some (vI v), some (vI a), some (vI b)] [] M
  refine AW.go pk_X8_isBetween 0 7 rfl rfl ?_
  refine And.intro (show Inr a ∧ Inr b from ⟨⟨by omega, by omega⟩, ⟨by omega, by omega⟩⟩) (And.intro (fun zh1 => ?_) (fun zh1 => ?_))
  · replace zh1 : b ≤ a := zh1
    change AW ev false 1 t_X8_isBetween Q 14 [some (vI v), some (vI a), some (vI b)] [] M
    refine AW.go pk_X8_isBetween 8 4 rfl rfl ?_
    change AW ev false 1 t_X8_isBetween Q 17 [some (vI v), some (vI a), some (vI b)] [vI a, vI b, vI v] M
    refine AW.callS (d' := 0) [vI v, vI b, vI a] [] sm_X8_within hX8_69 (okP_d pk_X8_isBetween 11 17 (.invokestatic 69) 3 rfl) (by decide) rfl (Nat.le_of_ble_eq_true rfl) ?_
    refine c_X8_within v b a (by omega) (by omega) (by omega) (fun w1 zw1 => ?_)
    change AW ev false 1 t_X8_isBetween Q 20 [some (vI v), some (vI a), some (vI b)] [vI w1] M
    refine AW.go pk_X8_isBetween 12 1 rfl rfl ?_
    refine And.intro rfl ?_
    refine And.intro (show (w1 = 0 ∨ w1 = 1) from (by omega)) ?_
    exact zQ w1 ⟨zw1.1, by rw [zw1.2]; unfold imin imax; split <;> omega⟩
  · replace zh1 : ¬ (b ≤ a) := zh1
    change AW ev false 1 t_X8_isBetween Q 8 [some (vI v), some (vI a), some (vI b)] [vI b, vI a, vI v] M
    refine AW.callS (d' := 0) [vI v, vI a, vI b] [] sm_X8_within hX8_69 (okP_d pk_X8_isBetween 6 8 (.invokestatic 69) 3 rfl) (by decide) rfl (Nat.le_of_ble_eq_true rfl) ?_
    refine c_X8_within v a b (by omega) (by omega) (by omega) (fun w1 zw1 => ?_)
    change AW ev false 1 t_X8_isBetween Q 11 [some (vI v), some (vI a), some (vI b)] [vI w1] M
    refine AW.go pk_X8_isBetween 7 1 rfl rfl ?_
    change AW ev false 1 t_X8_isBetween Q 20 [some (vI v), some (vI a), some (vI b)] [vI w1] M
    refine AW.go pk_X8_isBetween 12 1 rfl rfl ?_
    refine And.intro rfl ?_
    refine And.intro (show (w1 = 0 ∨ w1 = 1) from (by omega)) ?_
    exact zQ w1 ⟨zw1.1, by rw [zw1.2]; unfold imin imax; split <;> omega⟩
theorem lz_covd {ev : Ev} {Q : Out → Mem → Prop} {M : Mem}  (s : Int) (hr : Int) (zp0 : TJ M) (zp1 : SJ M) (zp2 : KJ M) (zp3 : 0 ≤ s ∧ s < M 27 2) (zp4 : 6 ≤ hr ∧ hr ≤ 17) (zQ : ∀ (r : Int), (r = 0 ∨ r = 1) ∧ (r = 1 ↔ cvR M (M 29 s) hr) → Q (.inl (some (vI r))) M) : ∀ (n : Nat) (i : Int) (b : Int), i + n = M 27 6 → (0 ≤ i) → (b = 0 ∨ b = 1) → (b = 1 ↔ ∃ j, (0 ≤ j ∧ j < i) ∧ covR M j (M 29 s % 12) (M 29 s / 12) hr) → AW ev false 2 t_X8_isCovered Q 13 [some (vR 27), some (vI s), some (vI hr), some (vI (M 29 s)), some (vI b), some (vI i), none] [] M := by
  intro n
  induction n with
  | zero =>
    intro i b zn zv0 zv1 zv2
    have zs := zp1.1
    have zk := zp2.1
    have zf := zp1.2.1 s (by omega) (by omega)
    refine AW.go pk_X8_isCovered 9 20 rfl rfl ?_
    refine And.intro (show Inr i ∧ Inr (M 27 6) from ⟨⟨by omega, by omega⟩, ⟨by omega, by omega⟩⟩) (And.intro (fun zh1 => ?_) (fun zh1 => ?_))
    · replace zh1 : M 27 6 ≤ i := zh1
      change AW ev false 2 t_X8_isCovered Q 133 [some (vR 27), some (vI s), some (vI hr), some (vI (M 29 s)), some (vI b), some (vI i), none] [] M
      refine AW.go pk_X8_isCovered 72 2 rfl rfl ?_
      refine And.intro rfl ?_
      refine And.intro (show (b = 0 ∨ b = 1) from (by omega)) ?_
      exact zQ b ⟨zv1, by rw [zv2, show i = M 27 6 from by omega]; exact Iff.rfl⟩
    · replace zh1 : ¬ (M 27 6 ≤ i) := zh1
      exfalso; omega
  | succ n zih =>
    intro i b zn zv0 zv1 zv2
    have zs := zp1.1
    have zk := zp2.1
    have zf := zp1.2.1 s (by omega) (by omega)
    refine AW.go pk_X8_isCovered 9 20 rfl rfl ?_
    refine And.intro (show Inr i ∧ Inr (M 27 6) from ⟨⟨by omega, by omega⟩, ⟨by omega, by omega⟩⟩) (And.intro (fun zh1 => ?_) (fun zh1 => ?_))
    · replace zh1 : M 27 6 ≤ i := zh1
      exfalso; omega
    · replace zh1 : ¬ (M 27 6 ≤ i) := zh1
      refine And.intro (show ((0 ≤ M 29 s ∧ M 29 s < 2147483648) ∧ 0 < (12 : Int) ∧ (12 : Int) < 2147483648) from (by omega)) ?_
      refine And.intro (show (0 ≤ i ∧ i < 6) from (by omega)) ?_
      have zf2 := zp2.2 i (by omega) (by omega)
      refine And.intro (show ((0 ≤ M 32 i ∧ M 32 i < 2147483648) ∧ 0 < (12 : Int) ∧ (12 : Int) < 2147483648) from (by omega)) ?_
      refine And.intro (show (0 ≤ i ∧ i < 6) from (by omega)) ?_
      have zf3 := zp2.2 i (by omega) (by omega)
      refine And.intro (show ((0 ≤ M 33 i ∧ M 33 i < 2147483648) ∧ 0 < (12 : Int) ∧ (12 : Int) < 2147483648) from (by omega)) ?_
      change AW ev false 2 t_X8_isCovered Q 46 [some (vR 27), some (vI s), some (vI hr), some (vI (M 29 s)), some (vI b), some (vI i), none] [vI ((M 33 i) % 12), vI ((M 32 i) % 12), vI ((M 29 s) % 12)] M
      refine AW.callS (d' := 1) [vI ((M 29 s) % 12), vI ((M 32 i) % 12), vI ((M 33 i) % 12)] [] sm_X8_isBetween hX8_136 (okP_d pk_X8_isCovered 28 46 (.invokestatic 136) 3 rfl) (by decide) rfl (Nat.le_of_ble_eq_true rfl) ?_
      refine c_X8_isBetween ((M 29 s) % 12) ((M 32 i) % 12) ((M 33 i) % 12) (by omega) (by omega) (by omega) (fun w1 zw1 => ?_)
      change AW ev false 2 t_X8_isCovered Q 49 [some (vR 27), some (vI s), some (vI hr), some (vI (M 29 s)), some (vI b), some (vI i), none] [vI w1] M
      refine AW.go pk_X8_isCovered 29 17 rfl rfl ?_
      refine And.intro (show Inr w1 from ⟨by omega, by omega⟩) (And.intro (fun zh4 => ?_) (fun zh4 => ?_))
      · replace zh4 : w1 = (0 : Int) := zh4
        change AW ev false 2 t_X8_isCovered Q 86 [some (vR 27), some (vI s), some (vI hr), some (vI (M 29 s)), some (vI b), some (vI i), none] [] M
        refine AW.go pk_X8_isCovered 49 16 rfl rfl ?_
        refine And.intro (show 6 < mL t_X8_isCovered from (by decide)) ?_
        refine And.intro (show Inr b from ⟨by omega, by omega⟩) (And.intro (fun zh5 => ?_) (fun zh5 => ?_))
        · replace zh5 : b ≠ (0 : Int) := zh5
          change AW ev false 2 t_X8_isCovered Q 120 [some (vR 27), some (vI s), some (vI hr), some (vI (M 29 s)), some (vI b), some (vI i), some (vI 0)] [] M
          refine AW.go pk_X8_isCovered 66 2 rfl rfl ?_
          change AW ev false 2 t_X8_isCovered Q 125 [some (vR 27), some (vI s), some (vI hr), some (vI (M 29 s)), some (vI b), some (vI i), some (vI 0)] [vI 1] M
          refine AW.go pk_X8_isCovered 69 3 rfl rfl ?_
          refine And.intro (show 4 < mL t_X8_isCovered from (by decide)) ?_
          refine And.intro (show 5 < mL t_X8_isCovered from (by decide)) ?_
          change AW ev false 2 t_X8_isCovered Q 13 [some (vR 27), some (vI s), some (vI hr), some (vI (M 29 s)), some (vI 1), some (vI (i + 1)), some (vI 0)] [] M
          refine AW.sub [some (vR 27), some (vI s), some (vI hr), some (vI (M 29 s)), some (vI 1), some (vI (i + 1)), none] (by simp [lsub]) ?_
          exact zih (i + 1) 1 (by omega) (by omega) (by omega) (iff_of_true rfl ((ex_s (P := fun j => covR M j (M 29 s % 12) (M 29 s / 12) hr) zv0).mpr (by first | exact Or.inl (zv2.mp (by clear zv2; omega)) | exact Or.inr ⟨zw1.2.mp (by clear zv2; omega), zw2.2.mp (by clear zv2; omega), zw3.2.mp (by clear zv2; omega)⟩)))
        · replace zh5 : ¬ (b ≠ (0 : Int)) := zh5
          refine And.intro (show Inr 0 from ⟨by omega, by omega⟩) (And.intro (fun zh6 => ?_) (fun zh6 => ?_))
          · replace zh6 : (0 : Int) = (0 : Int) := zh6
            change AW ev false 2 t_X8_isCovered Q 124 [some (vR 27), some (vI s), some (vI hr), some (vI (M 29 s)), some (vI b), some (vI i), some (vI 0)] [] M
            refine AW.go pk_X8_isCovered 68 4 rfl rfl ?_
            refine And.intro (show 4 < mL t_X8_isCovered from (by decide)) ?_
            refine And.intro (show 5 < mL t_X8_isCovered from (by decide)) ?_
            change AW ev false 2 t_X8_isCovered Q 13 [some (vR 27), some (vI s), some (vI hr), some (vI (M 29 s)), some (vI 0), some (vI (i + 1)), some (vI 0)] [] M
            refine AW.sub [some (vR 27), some (vI s), some (vI hr), some (vI (M 29 s)), some (vI 0), some (vI (i + 1)), none] (by simp [lsub]) ?_
            exact zih (i + 1) 0 (by omega) (by omega) (by omega) (iff_of_false (by omega) (fun q => ((ex_s (P := fun j => covR M j (M 29 s % 12) (M 29 s / 12) hr) zv0).mp q).elim (fun q => by have := zv2.mpr q; clear zv2 q; omega) (fun q => by clear zv2; first | (have := zw1.2.mpr q.1; omega) | (have := zw2.2.mpr q.2.1; omega) | (have := zw3.2.mpr q.2.2; omega))))
          · replace zh6 : ¬ ((0 : Int) = (0 : Int)) := zh6
            exfalso; omega
      · replace zh4 : ¬ (w1 = (0 : Int)) := zh4
        refine And.intro (show ((0 ≤ M 29 s ∧ M 29 s < 2147483648) ∧ 0 < (12 : Int) ∧ (12 : Int) < 2147483648) from (by omega)) ?_
        refine And.intro (show (0 ≤ i ∧ i < 6) from (by omega)) ?_
        have zf7 := zp2.2 i (by omega) (by omega)
        refine And.intro (show ((0 ≤ M 32 i ∧ M 32 i < 2147483648) ∧ 0 < (12 : Int) ∧ (12 : Int) < 2147483648) from (by omega)) ?_
        refine And.intro (show (0 ≤ i ∧ i < 6) from (by omega)) ?_
        have zf8 := zp2.2 i (by omega) (by omega)
        refine And.intro (show ((0 ≤ M 33 i ∧ M 33 i < 2147483648) ∧ 0 < (12 : Int) ∧ (12 : Int) < 2147483648) from (by omega)) ?_
        change AW ev false 2 t_X8_isCovered Q 76 [some (vR 27), some (vI s), some (vI hr), some (vI (M 29 s)), some (vI b), some (vI i), none] [vI ((M 33 i) / 12), vI ((M 32 i) / 12), vI ((M 29 s) / 12)] M
        refine AW.callS (d' := 1) [vI ((M 29 s) / 12), vI ((M 32 i) / 12), vI ((M 33 i) / 12)] [] sm_X8_isBetween hX8_136 (okP_d pk_X8_isCovered 45 76 (.invokestatic 136) 3 rfl) (by decide) rfl (Nat.le_of_ble_eq_true rfl) ?_
        refine c_X8_isBetween ((M 29 s) / 12) ((M 32 i) / 12) ((M 33 i) / 12) (by omega) (by omega) (by omega) (fun w2 zw2 => ?_)
        change AW ev false 2 t_X8_isCovered Q 79 [some (vR 27), some (vI s), some (vI hr), some (vI (M 29 s)), some (vI b), some (vI i), none] [vI w2] M
        refine AW.go pk_X8_isCovered 46 3 rfl rfl ?_
        refine And.intro (show Inr w2 from ⟨by omega, by omega⟩) (And.intro (fun zh9 => ?_) (fun zh9 => ?_))
        · replace zh9 : w2 = (0 : Int) := zh9
          change AW ev false 2 t_X8_isCovered Q 86 [some (vR 27), some (vI s), some (vI hr), some (vI (M 29 s)), some (vI b), some (vI i), none] [] M
          refine AW.go pk_X8_isCovered 49 16 rfl rfl ?_
          refine And.intro (show 6 < mL t_X8_isCovered from (by decide)) ?_
          refine And.intro (show Inr b from ⟨by omega, by omega⟩) (And.intro (fun zh10 => ?_) (fun zh10 => ?_))
          · replace zh10 : b ≠ (0 : Int) := zh10
            change AW ev false 2 t_X8_isCovered Q 120 [some (vR 27), some (vI s), some (vI hr), some (vI (M 29 s)), some (vI b), some (vI i), some (vI 0)] [] M
            refine AW.go pk_X8_isCovered 66 2 rfl rfl ?_
            change AW ev false 2 t_X8_isCovered Q 125 [some (vR 27), some (vI s), some (vI hr), some (vI (M 29 s)), some (vI b), some (vI i), some (vI 0)] [vI 1] M
            refine AW.go pk_X8_isCovered 69 3 rfl rfl ?_
            refine And.intro (show 4 < mL t_X8_isCovered from (by decide)) ?_
            refine And.intro (show 5 < mL t_X8_isCovered from (by decide)) ?_
            change AW ev false 2 t_X8_isCovered Q 13 [some (vR 27), some (vI s), some (vI hr), some (vI (M 29 s)), some (vI 1), some (vI (i + 1)), some (vI 0)] [] M
            refine AW.sub [some (vR 27), some (vI s), some (vI hr), some (vI (M 29 s)), some (vI 1), some (vI (i + 1)), none] (by simp [lsub]) ?_
            exact zih (i + 1) 1 (by omega) (by omega) (by omega) (iff_of_true rfl ((ex_s (P := fun j => covR M j (M 29 s % 12) (M 29 s / 12) hr) zv0).mpr (by first | exact Or.inl (zv2.mp (by clear zv2; omega)) | exact Or.inr ⟨zw1.2.mp (by clear zv2; omega), zw2.2.mp (by clear zv2; omega), zw3.2.mp (by clear zv2; omega)⟩)))
          · replace zh10 : ¬ (b ≠ (0 : Int)) := zh10
            refine And.intro (show Inr 0 from ⟨by omega, by omega⟩) (And.intro (fun zh11 => ?_) (fun zh11 => ?_))
            · replace zh11 : (0 : Int) = (0 : Int) := zh11
              change AW ev false 2 t_X8_isCovered Q 124 [some (vR 27), some (vI s), some (vI hr), some (vI (M 29 s)), some (vI b), some (vI i), some (vI 0)] [] M
              refine AW.go pk_X8_isCovered 68 4 rfl rfl ?_
              refine And.intro (show 4 < mL t_X8_isCovered from (by decide)) ?_
              refine And.intro (show 5 < mL t_X8_isCovered from (by decide)) ?_
              change AW ev false 2 t_X8_isCovered Q 13 [some (vR 27), some (vI s), some (vI hr), some (vI (M 29 s)), some (vI 0), some (vI (i + 1)), some (vI 0)] [] M
              refine AW.sub [some (vR 27), some (vI s), some (vI hr), some (vI (M 29 s)), some (vI 0), some (vI (i + 1)), none] (by simp [lsub]) ?_
              exact zih (i + 1) 0 (by omega) (by omega) (by omega) (iff_of_false (by omega) (fun q => ((ex_s (P := fun j => covR M j (M 29 s % 12) (M 29 s / 12) hr) zv0).mp q).elim (fun q => by have := zv2.mpr q; clear zv2 q; omega) (fun q => by clear zv2; first | (have := zw1.2.mpr q.1; omega) | (have := zw2.2.mpr q.2.1; omega) | (have := zw3.2.mpr q.2.2; omega))))
            · replace zh11 : ¬ ((0 : Int) = (0 : Int)) := zh11
              exfalso; omega
        · replace zh9 : ¬ (w2 = (0 : Int)) := zh9
          change AW ev false 2 t_X8_isCovered Q 87 [some (vR 27), some (vI s), some (vI hr), some (vI (M 29 s)), some (vI b), some (vI i), none] [vI 1] M
          refine AW.go pk_X8_isCovered 50 15 rfl rfl ?_
          refine And.intro (show 6 < mL t_X8_isCovered from (by decide)) ?_
          refine And.intro (show Inr b from ⟨by omega, by omega⟩) (And.intro (fun zh12 => ?_) (fun zh12 => ?_))
          · replace zh12 : b ≠ (0 : Int) := zh12
            change AW ev false 2 t_X8_isCovered Q 120 [some (vR 27), some (vI s), some (vI hr), some (vI (M 29 s)), some (vI b), some (vI i), some (vI 1)] [] M
            refine AW.go pk_X8_isCovered 66 2 rfl rfl ?_
            change AW ev false 2 t_X8_isCovered Q 125 [some (vR 27), some (vI s), some (vI hr), some (vI (M 29 s)), some (vI b), some (vI i), some (vI 1)] [vI 1] M
            refine AW.go pk_X8_isCovered 69 3 rfl rfl ?_
            refine And.intro (show 4 < mL t_X8_isCovered from (by decide)) ?_
            refine And.intro (show 5 < mL t_X8_isCovered from (by decide)) ?_
            change AW ev false 2 t_X8_isCovered Q 13 [some (vR 27), some (vI s), some (vI hr), some (vI (M 29 s)), some (vI 1), some (vI (i + 1)), some (vI 1)] [] M
            refine AW.sub [some (vR 27), some (vI s), some (vI hr), some (vI (M 29 s)), some (vI 1), some (vI (i + 1)), none] (by simp [lsub]) ?_
            exact zih (i + 1) 1 (by omega) (by omega) (by omega) (iff_of_true rfl ((ex_s (P := fun j => covR M j (M 29 s % 12) (M 29 s / 12) hr) zv0).mpr (by first | exact Or.inl (zv2.mp (by clear zv2; omega)) | exact Or.inr ⟨zw1.2.mp (by clear zv2; omega), zw2.2.mp (by clear zv2; omega), zw3.2.mp (by clear zv2; omega)⟩)))
          · replace zh12 : ¬ (b ≠ (0 : Int)) := zh12
            refine And.intro (show Inr 1 from ⟨by omega, by omega⟩) (And.intro (fun zh13 => ?_) (fun zh13 => ?_))
            · replace zh13 : (1 : Int) = (0 : Int) := zh13
              exfalso; omega
            · replace zh13 : ¬ ((1 : Int) = (0 : Int)) := zh13
              refine And.intro (show (0 ≤ i ∧ i < 6) from (by omega)) ?_
              have zf14 := zp2.2 i (by omega) (by omega)
              refine And.intro (show (0 ≤ i ∧ i < 6) from (by omega)) ?_
              have zf15 := zp2.2 i (by omega) (by omega)
              change AW ev false 2 t_X8_isCovered Q 114 [some (vR 27), some (vI s), some (vI hr), some (vI (M 29 s)), some (vI b), some (vI i), some (vI 1)] [vI (M 35 i), vI (M 34 i), vI hr] M
              refine AW.callS (d' := 0) [vI hr, vI (M 34 i), vI (M 35 i)] [] sm_X8_within hX8_69 (okP_d pk_X8_isCovered 64 114 (.invokestatic 69) 3 rfl) (by decide) rfl (Nat.le_of_ble_eq_true rfl) ?_
              refine c_X8_within hr (M 34 i) (M 35 i) (by omega) (by omega) (by omega) (fun w3 zw3 => ?_)
              change AW ev false 2 t_X8_isCovered Q 117 [some (vR 27), some (vI s), some (vI hr), some (vI (M 29 s)), some (vI b), some (vI i), some (vI 1)] [vI w3] M
              refine AW.go pk_X8_isCovered 65 3 rfl rfl ?_
              refine And.intro (show Inr w3 from ⟨by omega, by omega⟩) (And.intro (fun zh16 => ?_) (fun zh16 => ?_))
              · replace zh16 : w3 = (0 : Int) := zh16
                change AW ev false 2 t_X8_isCovered Q 124 [some (vR 27), some (vI s), some (vI hr), some (vI (M 29 s)), some (vI b), some (vI i), some (vI 1)] [] M
                refine AW.go pk_X8_isCovered 68 4 rfl rfl ?_
                refine And.intro (show 4 < mL t_X8_isCovered from (by decide)) ?_
                refine And.intro (show 5 < mL t_X8_isCovered from (by decide)) ?_
                change AW ev false 2 t_X8_isCovered Q 13 [some (vR 27), some (vI s), some (vI hr), some (vI (M 29 s)), some (vI 0), some (vI (i + 1)), some (vI 1)] [] M
                refine AW.sub [some (vR 27), some (vI s), some (vI hr), some (vI (M 29 s)), some (vI 0), some (vI (i + 1)), none] (by simp [lsub]) ?_
                exact zih (i + 1) 0 (by omega) (by omega) (by omega) (iff_of_false (by omega) (fun q => ((ex_s (P := fun j => covR M j (M 29 s % 12) (M 29 s / 12) hr) zv0).mp q).elim (fun q => by have := zv2.mpr q; clear zv2 q; omega) (fun q => by clear zv2; first | (have := zw1.2.mpr q.1; omega) | (have := zw2.2.mpr q.2.1; omega) | (have := zw3.2.mpr q.2.2; omega))))
              · replace zh16 : ¬ (w3 = (0 : Int)) := zh16
                change AW ev false 2 t_X8_isCovered Q 125 [some (vR 27), some (vI s), some (vI hr), some (vI (M 29 s)), some (vI b), some (vI i), some (vI 1)] [vI 1] M
                refine AW.go pk_X8_isCovered 69 3 rfl rfl ?_
                refine And.intro (show 4 < mL t_X8_isCovered from (by decide)) ?_
                refine And.intro (show 5 < mL t_X8_isCovered from (by decide)) ?_
                change AW ev false 2 t_X8_isCovered Q 13 [some (vR 27), some (vI s), some (vI hr), some (vI (M 29 s)), some (vI 1), some (vI (i + 1)), some (vI 1)] [] M
                refine AW.sub [some (vR 27), some (vI s), some (vI hr), some (vI (M 29 s)), some (vI 1), some (vI (i + 1)), none] (by simp [lsub]) ?_
                exact zih (i + 1) 1 (by omega) (by omega) (by omega) (iff_of_true rfl ((ex_s (P := fun j => covR M j (M 29 s % 12) (M 29 s / 12) hr) zv0).mpr (by first | exact Or.inl (zv2.mp (by clear zv2; omega)) | exact Or.inr ⟨zw1.2.mp (by clear zv2; omega), zw2.2.mp (by clear zv2; omega), zw3.2.mp (by clear zv2; omega)⟩)))
theorem c_X8_isCovered {ev : Ev} {Q : Out → Mem → Prop} {M : Mem}  (s : Int) (hr : Int) (zp0 : TJ M) (zp1 : SJ M) (zp2 : KJ M) (zp3 : 0 ≤ s ∧ s < M 27 2) (zp4 : 6 ≤ hr ∧ hr ≤ 17) (zQ : ∀ (r : Int), (r = 0 ∨ r = 1) ∧ (r = 1 ↔ cvR M (M 29 s) hr) → Q (.inl (some (vI r))) M) : AM ev false 2 t_X8_isCovered [vR 27, vI s, vI hr] M Q := by
  have zs := zp1.1
  have zk := zp2.1
  have zf := zp1.2.1 s (by omega) (by omega)
  refine AM.of mt_X8_isCovered (Nat.le_of_ble_eq_true rfl) ?_
  change AW ev false 2 t_X8_isCovered Q 0 [some (vR 27), some (vI s), some (vI hr), none, none, none, none] [] M
  refine AW.go pk_X8_isCovered 0 9 rfl rfl ?_
  refine And.intro (show (0 ≤ s ∧ s < 8) from (by omega)) ?_
  refine And.intro (show 3 < mL t_X8_isCovered from (by decide)) ?_
  refine And.intro (show 4 < mL t_X8_isCovered from (by decide)) ?_
  refine And.intro (show 5 < mL t_X8_isCovered from (by decide)) ?_
  change AW ev false 2 t_X8_isCovered Q 13 [some (vR 27), some (vI s), some (vI hr), some (vI (M 29 s)), some (vI 0), some (vI 0), none] [] M
  exact lz_covd s hr zp0 zp1 zp2 zp3 zp4 zQ (M 27 6).toNat 0 0 (by omega) (by omega) (by omega) (iff_of_false (by omega) ex_0)
theorem c_X8_sunless {ev : Ev} {Q : Out → Mem → Prop} {M : Mem}  (s : Int) (hr : Int) (zp0 : TJ M) (zp1 : SJ M) (zp2 : KJ M) (zp3 : 0 ≤ s ∧ s < M 27 2) (zp4 : 6 ≤ hr ∧ hr ≤ 17) (zQ : ∀ (r : Int), r = snF (M 28) (M 29 s) (eyeF (M 28) (M 29) (M 30) s) hr (cvR M (M 29 s) hr) ∧ (0 ≤ r ∧ r ≤ 3) → Q (.inl (some (vI r))) M) : AM ev false 3 t_X8_sunless [vR 27, vI s, vI hr] M Q := by
  have zs := zp1.1
  refine AM.of mt_X8_sunless (Nat.le_of_ble_eq_true rfl) ?_
  change AW ev false 3 t_X8_sunless Q 0 [some (vR 27), some (vI s), some (vI hr)] [] M
  refine AW.go pk_X8_sunless 0 2 rfl rfl ?_
  change AW ev false 3 t_X8_sunless Q 1 [some (vR 27), some (vI s), some (vI hr)] [vI hr] M
  refine AW.callS (d' := 1) [vI hr] [] sm_X8_upAt hX8_133 (okP_d pk_X8_sunless 1 1 (.invokestatic 133) 3 rfl) (by decide) rfl (Nat.le_of_ble_eq_true rfl) ?_
  refine c_X8_upAt hr (by omega) (fun w1 zw1 => ?_)
  change AW ev false 3 t_X8_sunless Q 4 [some (vR 27), some (vI s), some (vI hr)] [vI w1] M
  refine AW.go pk_X8_sunless 2 3 rfl rfl ?_
  refine And.intro (show Inr w1 from ⟨by omega, by omega⟩) (And.intro (fun zh1 => ?_) (fun zh1 => ?_))
  · replace zh1 : (0 : Int) < w1 := zh1
    change AW ev false 3 t_X8_sunless Q 11 [some (vR 27), some (vI s), some (vI hr)] [] M
    refine AW.go pk_X8_sunless 5 4 rfl rfl ?_
    change AW ev false 3 t_X8_sunless Q 14 [some (vR 27), some (vI s), some (vI hr)] [vI hr, vI s, vR 27] M
    refine AW.callV (d' := 2) [vI s, vI hr] [] vm_X8_isShaded rfl hX8_139 (okP_d pk_X8_sunless 8 14 (.invokevirtual 139) 3 rfl) (by decide) rfl (Nat.le_of_ble_eq_true rfl) ?_
    refine c_X8_isShaded s hr zp0 zp1 (by omega) (by omega) (fun w2 zw2 => ?_)
    change AW ev false 3 t_X8_sunless Q 17 [some (vR 27), some (vI s), some (vI hr)] [vI w2] M
    refine AW.go pk_X8_sunless 9 3 rfl rfl ?_
    refine And.intro (show Inr w2 from ⟨by omega, by omega⟩) (And.intro (fun zh2 => ?_) (fun zh2 => ?_))
    · replace zh2 : w2 = (0 : Int) := zh2
      change AW ev false 3 t_X8_sunless Q 24 [some (vR 27), some (vI s), some (vI hr)] [] M
      refine AW.go pk_X8_sunless 12 4 rfl rfl ?_
      change AW ev false 3 t_X8_sunless Q 27 [some (vR 27), some (vI s), some (vI hr)] [vI hr, vI s, vR 27] M
      refine AW.callV (d' := 2) [vI s, vI hr] [] vm_X8_isCovered rfl hX8_143 (okP_d pk_X8_sunless 15 27 (.invokevirtual 143) 3 rfl) (by decide) rfl (Nat.le_of_ble_eq_true rfl) ?_
      refine c_X8_isCovered s hr zp0 zp1 zp2 (by omega) (by omega) (fun w3 zw3 => ?_)
      change AW ev false 3 t_X8_sunless Q 30 [some (vR 27), some (vI s), some (vI hr)] [vI w3] M
      refine AW.go pk_X8_sunless 16 3 rfl rfl ?_
      refine And.intro (show Inr w3 from ⟨by omega, by omega⟩) (And.intro (fun zh3 => ?_) (fun zh3 => ?_))
      · replace zh3 : w3 = (0 : Int) := zh3
        change AW ev false 3 t_X8_sunless Q 37 [some (vR 27), some (vI s), some (vI hr)] [] M
        refine AW.go pk_X8_sunless 19 2 rfl rfl ?_
        refine And.intro rfl ?_
        have zfa := Classical.not_not.mp (fun q => by have := zw2.2.mpr q; omega)
        exact zQ 0 ⟨by rw [snF_cv _ _ _ _ (by omega) zfa, if_neg (fun q => by have := zw3.2.mpr q; omega)], by omega⟩
      · replace zh3 : ¬ (w3 = (0 : Int)) := zh3
        change AW ev false 3 t_X8_sunless Q 38 [some (vR 27), some (vI s), some (vI hr)] [vI 3] M
        refine AW.go pk_X8_sunless 20 1 rfl rfl ?_
        refine And.intro rfl ?_
        have zfa := Classical.not_not.mp (fun q => by have := zw2.2.mpr q; omega)
        exact zQ 3 ⟨by rw [snF_cv _ _ _ _ (by omega) zfa, if_pos (zw3.2.mp (by omega))], by omega⟩
    · replace zh2 : ¬ (w2 = (0 : Int)) := zh2
      change AW ev false 3 t_X8_sunless Q 38 [some (vR 27), some (vI s), some (vI hr)] [vI 2] M
      refine AW.go pk_X8_sunless 20 1 rfl rfl ?_
      refine And.intro rfl ?_
      exact zQ 2 ⟨by unfold snF; rw [if_neg (by omega), if_pos (zw2.2.mp (by omega))], by omega⟩
  · replace zh1 : ¬ ((0 : Int) < w1) := zh1
    change AW ev false 3 t_X8_sunless Q 38 [some (vR 27), some (vI s), some (vI hr)] [vI 1] M
    refine AW.go pk_X8_sunless 20 1 rfl rfl ?_
    refine And.intro rfl ?_
    exact zQ 1 ⟨by unfold snF; rw [if_pos (by omega)], by omega⟩
theorem c_X8_throwsTo {ev : Ev} {Q : Out → Mem → Prop} {M : Mem}  (a : Int) (b : Int) (hr : Int) (zp0 : TJ M) (zp1 : SJ M) (zp2 : 0 ≤ a ∧ a < M 27 2) (zp3 : 0 ≤ b ∧ b < M 27 2) (zp4 : 6 ≤ hr ∧ hr ≤ 17) (zQ : ∀ (r : Int), (r = 0 ∨ r = 1) ∧ (r = 1 ↔ thrP (M 28) (M 29) (M 30) (M 31) a b hr) → Q (.inl (some (vI r))) M) : AM ev false 2 t_X8_throwsTo [vR 27, vI a, vI b, vI hr] M Q := by
  have zs := zp1.1
  have zfa := zp1.2.1 a (by omega) (by omega)
  have zfb := zp1.2.1 b (by omega) (by omega)
  refine AM.of mt_X8_throwsTo (Nat.le_of_ble_eq_true rfl) ?_
  change AW ev false 2 t_X8_throwsTo Q 0 [some (vR 27), some (vI a), some (vI b), some (vI hr), none, none] [] M
  refine AW.go pk_X8_throwsTo 0 47 rfl rfl ?_
  refine And.intro (show (0 ≤ b ∧ b < 8) from (by omega)) ?_
  refine And.intro (show ((0 ≤ M 29 b ∧ M 29 b < 2147483648) ∧ 0 < (12 : Int) ∧ (12 : Int) < 2147483648) from (by omega)) ?_
  refine And.intro (show (0 ≤ a ∧ a < 8) from (by omega)) ?_
  refine And.intro (show ((0 ≤ M 29 a ∧ M 29 a < 2147483648) ∧ 0 < (12 : Int) ∧ (12 : Int) < 2147483648) from (by omega)) ?_
  refine And.intro (show 4 < mL t_X8_throwsTo from (by decide)) ?_
  refine And.intro (show (0 ≤ b ∧ b < 8) from (by omega)) ?_
  refine And.intro (show ((0 ≤ M 29 b ∧ M 29 b < 2147483648) ∧ 0 < (12 : Int) ∧ (12 : Int) < 2147483648) from (by omega)) ?_
  refine And.intro (show (0 ≤ a ∧ a < 8) from (by omega)) ?_
  refine And.intro (show ((0 ≤ M 29 a ∧ M 29 a < 2147483648) ∧ 0 < (12 : Int) ∧ (12 : Int) < 2147483648) from (by omega)) ?_
  refine And.intro (show 5 < mL t_X8_throwsTo from (by decide)) ?_
  refine And.intro (show (0 ≤ a ∧ a < 8) from (by omega)) ?_
  refine And.intro (show Inr (M 31 a) ∧ Inr 2 from ⟨⟨by omega, by omega⟩, ⟨by omega, by omega⟩⟩) (And.intro (fun zh1 => ?_) (fun zh1 => ?_))
  · replace zh1 : M 31 a = (2 : Int) := zh1
    change AW ev false 2 t_X8_throwsTo Q 88 [some (vR 27), some (vI a), some (vI b), some (vI hr), some (vI (((M 29 b) % 12) - ((M 29 a) % 12))), some (vI (((M 29 b) / 12) - ((M 29 a) / 12)))] [] M
    refine AW.go pk_X8_throwsTo 57 2 rfl rfl ?_
    change AW ev false 2 t_X8_throwsTo Q 93 [some (vR 27), some (vI a), some (vI b), some (vI hr), some (vI (((M 29 b) % 12) - ((M 29 a) % 12))), some (vI (((M 29 b) / 12) - ((M 29 a) / 12)))] [vI 1] M
    refine AW.go pk_X8_throwsTo 60 1 rfl rfl ?_
    refine And.intro rfl ?_
    refine And.intro (show ((1 : Int) = 0 ∨ (1 : Int) = 1) from (by omega)) ?_
    first
      | exact zQ 1 ⟨by omega, by rw [zeq]; omega⟩
      | exact zQ 1 ⟨Or.inr rfl, iff_of_true rfl (Or.inl (by omega))⟩
  · replace zh1 : ¬ (M 31 a = (2 : Int)) := zh1
    change AW ev false 2 t_X8_throwsTo Q 69 [some (vR 27), some (vI a), some (vI b), some (vI hr), some (vI (((M 29 b) % 12) - ((M 29 a) % 12))), some (vI (((M 29 b) / 12) - ((M 29 a) / 12)))] [vI hr, vI (500 * (((12 - hr) * (((M 29 b) % 12) - ((M 29 a) % 12))) + (3 * (((M 29 b) / 12) - ((M 29 a) / 12)))))] M
    refine AW.callS (d' := 1) [vI hr] [vI (500 * (((12 - hr) * (((M 29 b) % 12) - ((M 29 a) % 12))) + (3 * (((M 29 b) / 12) - ((M 29 a) / 12)))))] sm_X8_upAt hX8_133 (okP_d pk_X8_throwsTo 46 69 (.invokestatic 133) 3 rfl) (by decide) rfl (Nat.le_of_ble_eq_true rfl) ?_
    refine c_X8_upAt hr (by omega) (fun u1 zu1 => ?_)
    change AW ev false 2 t_X8_throwsTo Q 72 [some (vR 27), some (vI a), some (vI b), some (vI hr), some (vI (((M 29 b) % 12) - ((M 29 a) % 12))), some (vI (((M 29 b) / 12) - ((M 29 a) / 12)))] [vI u1, vI (500 * (((12 - hr) * (((M 29 b) % 12) - ((M 29 a) % 12))) + (3 * (((M 29 b) / 12) - ((M 29 a) / 12)))))] M
    refine AW.go pk_X8_throwsTo 47 3 rfl rfl ?_
    change AW ev false 2 t_X8_throwsTo Q 74 [some (vR 27), some (vI a), some (vI b), some (vI hr), some (vI (((M 29 b) % 12) - ((M 29 a) % 12))), some (vI (((M 29 b) / 12) - ((M 29 a) / 12)))] [vI b, vR 27, vI u1, vI (500 * (((12 - hr) * (((M 29 b) % 12) - ((M 29 a) % 12))) + (3 * (((M 29 b) / 12) - ((M 29 a) / 12)))))] M
    refine AW.callV (d' := 0) [vI b] [vI u1, vI (500 * (((12 - hr) * (((M 29 b) % 12) - ((M 29 a) % 12))) + (3 * (((M 29 b) / 12) - ((M 29 a) / 12)))))] vm_X8_eyeOf rfl hX8_127 (okP_d pk_X8_throwsTo 49 74 (.invokevirtual 127) 3 rfl) (by decide) rfl (Nat.le_of_ble_eq_true rfl) ?_
    refine c_X8_eyeOf b zp0 zp1 (by omega) (fun eb zeb => ?_)
    change AW ev false 2 t_X8_throwsTo Q 77 [some (vR 27), some (vI a), some (vI b), some (vI hr), some (vI (((M 29 b) % 12) - ((M 29 a) % 12))), some (vI (((M 29 b) / 12) - ((M 29 a) / 12)))] [vI eb, vI u1, vI (500 * (((12 - hr) * (((M 29 b) % 12) - ((M 29 a) % 12))) + (3 * (((M 29 b) / 12) - ((M 29 a) / 12)))))] M
    refine AW.go pk_X8_throwsTo 50 3 rfl rfl ?_
    change AW ev false 2 t_X8_throwsTo Q 79 [some (vR 27), some (vI a), some (vI b), some (vI hr), some (vI (((M 29 b) % 12) - ((M 29 a) % 12))), some (vI (((M 29 b) / 12) - ((M 29 a) / 12)))] [vI a, vR 27, vI eb, vI u1, vI (500 * (((12 - hr) * (((M 29 b) % 12) - ((M 29 a) % 12))) + (3 * (((M 29 b) / 12) - ((M 29 a) / 12)))))] M
    refine AW.callV (d' := 0) [vI a] [vI eb, vI u1, vI (500 * (((12 - hr) * (((M 29 b) % 12) - ((M 29 a) % 12))) + (3 * (((M 29 b) / 12) - ((M 29 a) / 12)))))] vm_X8_eyeOf rfl hX8_127 (okP_d pk_X8_throwsTo 52 79 (.invokevirtual 127) 3 rfl) (by decide) rfl (Nat.le_of_ble_eq_true rfl) ?_
    refine c_X8_eyeOf a zp0 zp1 (by omega) (fun ea zea => ?_)
    have zb1 := mul_bd (a := 12 - hr) (b := M 29 b % 12 - M 29 a % 12) (A := 6) (B := 11) (by omega) (by omega)
    have zb2 := mul_bd (a := u1) (b := eb - ea) (A := 6) (B := 1000) (by omega) (by omega)
    have zeq : (thrP (M 28) (M 29) (M 30) (M 31) a b hr) ↔ (M 31 a = 2 ∨ 0 < 500 * ((12 - hr) * (M 29 b % 12 - M 29 a % 12) + 3 * (M 29 b / 12 - M 29 a / 12)) + u1 * (eb - ea)) := by rw [zu1.1, zeb.1, zea.1]
    change AW ev false 2 t_X8_throwsTo Q 82 [some (vR 27), some (vI a), some (vI b), some (vI hr), some (vI (((M 29 b) % 12) - ((M 29 a) % 12))), some (vI (((M 29 b) / 12) - ((M 29 a) / 12)))] [vI ea, vI eb, vI u1, vI (500 * (((12 - hr) * (((M 29 b) % 12) - ((M 29 a) % 12))) + (3 * (((M 29 b) / 12) - ((M 29 a) / 12)))))] M
    refine AW.go pk_X8_throwsTo 53 6 rfl rfl ?_
    refine And.intro (show Inr ((500 * (((12 - hr) * (((M 29 b) % 12) - ((M 29 a) % 12))) + (3 * (((M 29 b) / 12) - ((M 29 a) / 12))))) + (u1 * (eb - ea))) from ⟨by omega, by omega⟩) (And.intro (fun zh2 => ?_) (fun zh2 => ?_))
    · replace zh2 : (500 * (((12 - hr) * (((M 29 b) % 12) - ((M 29 a) % 12))) + (3 * (((M 29 b) / 12) - ((M 29 a) / 12))))) + (u1 * (eb - ea)) ≤ (0 : Int) := zh2
      change AW ev false 2 t_X8_throwsTo Q 92 [some (vR 27), some (vI a), some (vI b), some (vI hr), some (vI (((M 29 b) % 12) - ((M 29 a) % 12))), some (vI (((M 29 b) / 12) - ((M 29 a) / 12)))] [] M
      refine AW.go pk_X8_throwsTo 59 2 rfl rfl ?_
      refine And.intro rfl ?_
      refine And.intro (show ((0 : Int) = 0 ∨ (0 : Int) = 1) from (by omega)) ?_
      first
        | exact zQ 0 ⟨by omega, by rw [zeq]; omega⟩
        | exact zQ 1 ⟨Or.inr rfl, iff_of_true rfl (Or.inl (by omega))⟩
    · replace zh2 : ¬ ((500 * (((12 - hr) * (((M 29 b) % 12) - ((M 29 a) % 12))) + (3 * (((M 29 b) / 12) - ((M 29 a) / 12))))) + (u1 * (eb - ea)) ≤ (0 : Int)) := zh2
      change AW ev false 2 t_X8_throwsTo Q 93 [some (vR 27), some (vI a), some (vI b), some (vI hr), some (vI (((M 29 b) % 12) - ((M 29 a) % 12))), some (vI (((M 29 b) / 12) - ((M 29 a) / 12)))] [vI 1] M
      refine AW.go pk_X8_throwsTo 60 1 rfl rfl ?_
      refine And.intro rfl ?_
      refine And.intro (show ((1 : Int) = 0 ∨ (1 : Int) = 1) from (by omega)) ?_
      first
        | exact zQ 1 ⟨by omega, by rw [zeq]; omega⟩
        | exact zQ 1 ⟨Or.inr rfl, iff_of_true rfl (Or.inl (by omega))⟩
theorem c_X8_linkOf {ev : Ev} {Q : Out → Mem → Prop} {M : Mem}  (a : Int) (b : Int) (hr : Int) (zp0 : TJ M) (zp1 : SJ M) (zp2 : KJ M) (zp3 : 0 ≤ a ∧ a < M 27 2) (zp4 : 0 ≤ b ∧ b < M 27 2) (zp5 : a ≠ b) (zp6 : 6 ≤ hr ∧ hr ≤ 17) (zQ : ∀ (r : Int), r = lnkF (M 28) (M 29) (M 30) (M 31) (cvR M) a b hr ∧ (0 ≤ r ∧ r ≤ 5) → Q (.inl (some (vI r))) M) : AM ev false 4 t_X8_linkOf [vR 27, vI a, vI b, vI hr] M Q := by
  have zs := zp1.1
  refine AM.of mt_X8_linkOf (Nat.le_of_ble_eq_true rfl) ?_
  change AW ev false 4 t_X8_linkOf Q 0 [some (vR 27), some (vI a), some (vI b), some (vI hr), none] [] M
  refine AW.go pk_X8_linkOf 0 4 rfl rfl ?_
  change AW ev false 4 t_X8_linkOf Q 3 [some (vR 27), some (vI a), some (vI b), some (vI hr), none] [vI hr, vI a, vR 27] M
  refine AW.callV (d' := 3) [vI a, vI hr] [] vm_X8_sunless rfl hX8_146 (okP_d pk_X8_linkOf 3 3 (.invokevirtual 146) 3 rfl) (by decide) rfl (Nat.le_of_ble_eq_true rfl) ?_
  refine c_X8_sunless a hr zp0 zp1 zp2 (by omega) (by omega) (fun w1 zw1 => ?_)
  change AW ev false 4 t_X8_linkOf Q 6 [some (vR 27), some (vI a), some (vI b), some (vI hr), none] [vI w1] M
  refine AW.go pk_X8_linkOf 4 5 rfl rfl ?_
  refine And.intro (show 4 < mL t_X8_linkOf from (by decide)) ?_
  refine And.intro (show Inr w1 from ⟨by omega, by omega⟩) (And.intro (fun zh1 => ?_) (fun zh1 => ?_))
  · replace zh1 : w1 ≤ (0 : Int) := zh1
    change AW ev false 4 t_X8_linkOf Q 18 [some (vR 27), some (vI a), some (vI b), some (vI hr), some (vI w1)] [] M
    refine AW.go pk_X8_linkOf 9 4 rfl rfl ?_
    change AW ev false 4 t_X8_linkOf Q 21 [some (vR 27), some (vI a), some (vI b), some (vI hr), some (vI w1)] [vI b, vI a, vR 27] M
    refine AW.callV (d' := 3) [vI a, vI b] [] vm_X8_between rfl hX8_149 (okP_d pk_X8_linkOf 12 21 (.invokevirtual 149) 3 rfl) (by decide) rfl (Nat.le_of_ble_eq_true rfl) ?_
    refine c_X8_between a b zp0 zp1 (by omega) (by omega) (by omega) (fun w2 zw2 => ?_)
    change AW ev false 4 t_X8_linkOf Q 24 [some (vR 27), some (vI a), some (vI b), some (vI hr), some (vI w1)] [vI w2] M
    refine AW.go pk_X8_linkOf 13 4 rfl rfl ?_
    refine And.intro (show Inr w2 ∧ Inr (-1) from ⟨⟨by omega, by omega⟩, ⟨by omega, by omega⟩⟩) (And.intro (fun zh2 => ?_) (fun zh2 => ?_))
    · replace zh2 : w2 = (-1 : Int) := zh2
      change AW ev false 4 t_X8_linkOf Q 32 [some (vR 27), some (vI a), some (vI b), some (vI hr), some (vI w1)] [] M
      refine AW.go pk_X8_linkOf 17 5 rfl rfl ?_
      change AW ev false 4 t_X8_linkOf Q 36 [some (vR 27), some (vI a), some (vI b), some (vI hr), some (vI w1)] [vI hr, vI b, vI a, vR 27] M
      refine AW.callV (d' := 2) [vI a, vI b, vI hr] [] vm_X8_throwsTo rfl hX8_152 (okP_d pk_X8_linkOf 21 36 (.invokevirtual 152) 3 rfl) (by decide) rfl (Nat.le_of_ble_eq_true rfl) ?_
      refine c_X8_throwsTo a b hr zp0 zp1 (by omega) (by omega) (by omega) (fun w3 zw3 => ?_)
      change AW ev false 4 t_X8_linkOf Q 39 [some (vR 27), some (vI a), some (vI b), some (vI hr), some (vI w1)] [vI w3] M
      refine AW.go pk_X8_linkOf 22 3 rfl rfl ?_
      refine And.intro (show Inr w3 from ⟨by omega, by omega⟩) (And.intro (fun zh3 => ?_) (fun zh3 => ?_))
      · replace zh3 : w3 = (0 : Int) := zh3
        change AW ev false 4 t_X8_linkOf Q 46 [some (vR 27), some (vI a), some (vI b), some (vI hr), some (vI w1)] [] M
        refine AW.go pk_X8_linkOf 25 2 rfl rfl ?_
        refine And.intro rfl ?_
        exact zQ 5 ⟨by unfold lnkF; rw [← zw1.1, if_neg (by omega), ← zw2.1, if_neg (by omega), if_neg (fun q => by have := zw3.2.mpr q; omega)], by omega⟩
      · replace zh3 : ¬ (w3 = (0 : Int)) := zh3
        change AW ev false 4 t_X8_linkOf Q 47 [some (vR 27), some (vI a), some (vI b), some (vI hr), some (vI w1)] [vI 0] M
        refine AW.go pk_X8_linkOf 26 1 rfl rfl ?_
        refine And.intro rfl ?_
        exact zQ 0 ⟨by unfold lnkF; rw [← zw1.1, if_neg (by omega), ← zw2.1, if_neg (by omega), if_pos (zw3.2.mp (by omega))], by omega⟩
    · replace zh2 : ¬ (w2 = (-1 : Int)) := zh2
      change AW ev false 4 t_X8_linkOf Q 47 [some (vR 27), some (vI a), some (vI b), some (vI hr), some (vI w1)] [vI 4] M
      refine AW.go pk_X8_linkOf 26 1 rfl rfl ?_
      refine And.intro rfl ?_
      exact zQ 4 ⟨by unfold lnkF; rw [← zw1.1, if_neg (by omega), ← zw2.1, if_pos (by omega)], by omega⟩
  · replace zh1 : ¬ (w1 ≤ (0 : Int)) := zh1
    change AW ev false 4 t_X8_linkOf Q 47 [some (vR 27), some (vI a), some (vI b), some (vI hr), some (vI w1)] [vI w1] M
    refine AW.go pk_X8_linkOf 26 1 rfl rfl ?_
    refine And.intro rfl ?_
    exact zQ w1 ⟨by unfold lnkF; rw [← zw1.1, if_pos (by omega)], by omega⟩
