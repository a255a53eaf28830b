theorem c_X2_sunEast {ev : Ev} {Q : Out → Mem → Prop} {M : Mem}  (hr : Int)  (zQ : ∀ (r : Int), r = 12 - hr → Q (.inl (some (vI r))) M) : AM ev false 0 t_X2_sunEast [vI hr] M Q := by
  refine AM.of mt_X2_sunEast (Nat.le_of_ble_eq_true rfl) ?_
  change AW ev false 0 t_X2_sunEast Q 0 [some (vI hr)] [] M
  refine AW.go pk_X2_sunEast 0 4 rfl rfl ?_
  refine And.intro rfl ?_
  exact zQ (12 - hr) (by first | rfl | omega)
theorem c_X2_sunUp {ev : Ev} {Q : Out → Mem → Prop} {M : Mem}  (hr : Int) (zp0 : 6 ≤ hr ∧ hr ≤ 17) (zQ : ∀ (r : Int), r = upH hr ∧ (0 ≤ r + 5 ∧ r ≤ 6) → Q (.inl (some (vI r))) M) : AM ev false 1 t_X2_sunUp [vI hr] M Q := by
  refine AM.of mt_X2_sunUp (Nat.le_of_ble_eq_true rfl) ?_
  change AW ev false 1 t_X2_sunUp Q 0 [some (vI hr)] [] M
  refine AW.go pk_X2_sunUp 0 5 rfl rfl ?_
  change AW ev false 1 t_X2_sunUp Q 6 [some (vI hr)] [vI (12 - hr), vI 6] M
  refine AW.mabs (bm 367 _ (by decide +kernel) (by decide +kernel)) (okP_d pk_X2_sunUp 4 6 (.invokestatic 72) 3 rfl) (by decide) (Nat.le_of_ble_eq_true rfl) (by omega) (fun w1 zw1 => ?_)
  change AW ev false 1 t_X2_sunUp Q 9 [some (vI hr)] [vI w1, vI 6] M
  refine AW.go pk_X2_sunUp 5 2 rfl rfl ?_
  refine And.intro rfl ?_
  exact zQ (6 - w1) ⟨by unfold upH iabs; split <;> omega, by omega⟩
theorem c_X2_sunObstacle {ev : Ev} {Q : Out → Mem → Prop} {M : Mem}  (s : Int) (hr : Int) (zp0 : TInv M) (zp1 : SInv M) (zp2 : KInv M) (zp3 : 0 ≤ s ∧ s < M 7 3) (zp4 : 6 ≤ hr ∧ hr ≤ 17) (zQ : ∀ (r : Int), r = snF (M 2) (M 8 s) (eyeF (M 2) (M 8) (M 9) s) hr (cvC M (M 8 s) hr) ∧ (0 ≤ r ∧ r ≤ 3) → Q (.inl (some (vI r))) M) : AM ev false 3 t_X2_sunObstacle [vR 18, vI s, vI hr] M Q := by
  have zs := zp1.1
  have zf := zp1.2.1 s (by omega) (by omega)
  refine AM.of mt_X2_sunObstacle (Nat.le_of_ble_eq_true rfl) ?_
  change AW ev false 3 t_X2_sunObstacle Q 0 [some (vR 18), some (vI s), some (vI hr), none, none] [] M
  refine AW.go pk_X2_sunObstacle 0 2 rfl rfl ?_
  change AW ev false 3 t_X2_sunObstacle Q 1 [some (vR 18), some (vI s), some (vI hr), none, none] [vI hr] M
  refine AW.callS (d' := 1) [vI hr] [] sm_X2_sunUp hX2_77 (okP_d pk_X2_sunObstacle 1 1 (.invokestatic 77) 3 rfl) (by decide) rfl (Nat.le_of_ble_eq_true rfl) ?_
  refine c_X2_sunUp hr (by omega) (fun u1 zu1 => ?_)
  change AW ev false 3 t_X2_sunObstacle Q 4 [some (vR 18), some (vI s), some (vI hr), none, none] [vI u1] M
  refine AW.go pk_X2_sunObstacle 2 5 rfl rfl ?_
  refine And.intro (show 3 < mL t_X2_sunObstacle from (by decide)) ?_
  refine And.intro (show Inr u1 from ⟨by omega, by omega⟩) (And.intro (fun zh1 => ?_) (fun zh1 => ?_))
  · replace zh1 : (0 : Int) < u1 := zh1
    change AW ev false 3 t_X2_sunObstacle Q 11 [some (vR 18), some (vI s), some (vI hr), some (vI u1), none] [] M
    refine AW.go pk_X2_sunObstacle 7 4 rfl rfl ?_
    change AW ev false 3 t_X2_sunObstacle Q 16 [some (vR 18), some (vI s), some (vI hr), some (vI u1), none] [vI s, vR 7] M
    refine AW.callV (d' := 1) [vI s] [] vm_X4_cellOf rfl hX2_23 (okP_d pk_X2_sunObstacle 10 16 (.invokevirtual 23) 3 rfl) (by decide) rfl (Nat.le_of_ble_eq_true rfl) ?_
    refine c_X4_cellOf s zp1 (by omega) (fun c1 zc1 => ?_)
    change AW ev false 3 t_X2_sunObstacle Q 19 [some (vR 18), some (vI s), some (vI hr), some (vI u1), none] [vI c1] M
    refine AW.go pk_X2_sunObstacle 11 6 rfl rfl ?_
    refine And.intro (show 4 < mL t_X2_sunObstacle from (by decide)) ?_
    change AW ev false 3 t_X2_sunObstacle Q 28 [some (vR 18), some (vI s), some (vI hr), some (vI u1), some (vI c1)] [vI hr, vI c1, vR 1] M
    refine AW.callS (d' := 0) [vI hr] [vI c1, vR 1] sm_X2_sunEast hX2_80 (okP_d pk_X2_sunObstacle 16 28 (.invokestatic 80) 3 rfl) (by decide) rfl (Nat.le_of_ble_eq_true rfl) ?_
    refine c_X2_sunEast hr  (fun e1 ze1 => ?_)
    change AW ev false 3 t_X2_sunObstacle Q 31 [some (vR 18), some (vI s), some (vI hr), some (vI u1), some (vI c1)] [vI e1, vI c1, vR 1] M
    refine AW.go pk_X2_sunObstacle 17 5 rfl rfl ?_
    change AW ev false 3 t_X2_sunObstacle Q 36 [some (vR 18), some (vI s), some (vI hr), some (vI u1), some (vI c1)] [vI s, vR 18, vI 11, vI 3, vI e1, vI c1, vR 1] M
    refine AW.callV (d' := 2) [vI s] [vI 11, vI 3, vI e1, vI c1, vR 1] vm_X2_eyeOf rfl hX2_37 (okP_d pk_X2_sunObstacle 21 36 (.invokevirtual 37) 3 rfl) (by decide) rfl (Nat.le_of_ble_eq_true rfl) ?_
    refine c_X2_eyeOf s zp0 zp1 (by omega) (fun w2 zw2 => ?_)
    change AW ev false 3 t_X2_sunObstacle Q 39 [some (vR 18), some (vI s), some (vI hr), some (vI u1), some (vI c1)] [vI w2, vI 11, vI 3, vI e1, vI c1, vR 1] M
    refine AW.go pk_X2_sunObstacle 22 4 rfl rfl ?_
    change AW ev false 3 t_X2_sunObstacle Q 43 [some (vR 18), some (vI s), some (vI hr), some (vI u1), some (vI c1)] [vI (20 * u1), vI w2, vI 11, vI 3, vI e1, vI c1, vR 1] M
    refine AW.callV (d' := 2) [vI c1, vI e1, vI 3, vI 11, vI w2, vI (20 * u1)] [] vm_X5_firstAbove rfl hX2_54 (okP_d pk_X2_sunObstacle 25 43 (.invokevirtual 54) 3 rfl) (by decide) rfl (Nat.le_of_ble_eq_true rfl) ?_
    refine c_X5_firstAbove c1 e1 3 11 w2 (20 * u1) (mxa e1 3) (by omega) (by omega) (by omega) (by omega) (by omega) (by omega) (mxa_spec _ _) zp0 (Or.inl (by have := mxa_spec e1 3; omega)) (fun w3 zw3 => ?_)
    have zfb := fa_bd (M 2) c1 e1 3 (mxa e1 3) w2 (20 * u1) 11 1
    rw [show (11 : Int).toNat = 11 from rfl] at zw3
    rw [← zw3] at zfb
    change AW ev false 3 t_X2_sunObstacle Q 46 [some (vR 18), some (vI s), some (vI hr), some (vI u1), some (vI c1)] [vI w3] M
    refine AW.go pk_X2_sunObstacle 26 4 rfl rfl ?_
    refine And.intro (show Inr w3 ∧ Inr (-1) from ⟨⟨by omega, by omega⟩, ⟨by omega, by omega⟩⟩) (And.intro (fun zh2 => ?_) (fun zh2 => ?_))
    · replace zh2 : w3 = (-1 : Int) := zh2
      change AW ev false 3 t_X2_sunObstacle Q 52 [some (vR 18), some (vI s), some (vI hr), some (vI u1), some (vI c1)] [] M
      refine AW.go pk_X2_sunObstacle 30 5 rfl rfl ?_
      change AW ev false 3 t_X2_sunObstacle Q 59 [some (vR 18), some (vI s), some (vI hr), some (vI u1), some (vI c1)] [vI hr, vI c1, vR 11] M
      refine AW.callV (d' := 1) [vI c1, vI hr] [] vm_X0_cover rfl hX2_83 (okP_d pk_X2_sunObstacle 34 59 (.invokevirtual 83) 3 rfl) (by decide) rfl (Nat.le_of_ble_eq_true rfl) ?_
      refine c_X0_cover c1 hr zp2 (by omega) (by omega) (fun w4 zw4 => ?_)
      change AW ev false 3 t_X2_sunObstacle Q 62 [some (vR 18), some (vI s), some (vI hr), some (vI u1), some (vI c1)] [vI w4] M
      refine AW.go pk_X2_sunObstacle 35 3 rfl rfl ?_
      refine And.intro (show Inr w4 from ⟨by omega, by omega⟩) (And.intro (fun zh3 => ?_) (fun zh3 => ?_))
      · replace zh3 : w4 = (0 : Int) := zh3
        change AW ev false 3 t_X2_sunObstacle Q 69 [some (vR 18), some (vI s), some (vI hr), some (vI u1), some (vI c1)] [] M
        refine AW.go pk_X2_sunObstacle 38 2 rfl rfl ?_
        refine And.intro rfl ?_
        have zfa : fa (M 2) (M 8 s) (12 - hr) 3 (mxa (12 - hr) 3) (eyeF (M 2) (M 8) (M 9) s) (20 * upH hr) 11 1 = w3 := by rw [zw3, zu1.1, zc1, ze1, zw2.1]
        have zcv : cvC M (M 8 s) hr ↔ w4 = 1 := by rw [zw4.2, zc1]; exact Iff.rfl
        exact zQ 0 ⟨by rw [snF_cv _ _ _ _ (by omega) (by omega)]; rw [if_neg (fun q => by have := zcv.mp q; omega)], by omega⟩
      · replace zh3 : ¬ (w4 = (0 : Int)) := zh3
        change AW ev false 3 t_X2_sunObstacle Q 70 [some (vR 18), some (vI s), some (vI hr), some (vI u1), some (vI c1)] [vI 3] M
        refine AW.go pk_X2_sunObstacle 39 1 rfl rfl ?_
        refine And.intro rfl ?_
        have zfa : fa (M 2) (M 8 s) (12 - hr) 3 (mxa (12 - hr) 3) (eyeF (M 2) (M 8) (M 9) s) (20 * upH hr) 11 1 = w3 := by rw [zw3, zu1.1, zc1, ze1, zw2.1]
        have zcv : cvC M (M 8 s) hr ↔ w4 = 1 := by rw [zw4.2, zc1]; exact Iff.rfl
        exact zQ 3 ⟨by rw [snF_cv _ _ _ _ (by omega) (by omega)]; rw [if_pos (zcv.mpr (by omega))], by omega⟩
    · replace zh2 : ¬ (w3 = (-1 : Int)) := zh2
      refine And.intro rfl ?_
      have zfa : fa (M 2) (M 8 s) (12 - hr) 3 (mxa (12 - hr) 3) (eyeF (M 2) (M 8) (M 9) s) (20 * upH hr) 11 1 = w3 := by rw [zw3, zu1.1, zc1, ze1, zw2.1]
      exact zQ 2 ⟨by unfold snF; rw [if_neg (by omega), zfa, if_pos (by omega)], by omega⟩
  · replace zh1 : ¬ ((0 : Int) < u1) := zh1
    refine And.intro rfl ?_
    exact zQ 1 ⟨by unfold snF; rw [if_pos (by omega)], by omega⟩
theorem lz_sunHours {ev : Ev} {Q : Out → Mem → Prop} {M : Mem}  (s : Int) (zp0 : TInv M) (zp1 : SInv M) (zp2 : KInv M) (zp3 : 0 ≤ s ∧ s < M 7 3)  : ∀ (n : Nat) (hr : Int) (s2 : Int), hr + n = 18 → (6 ≤ hr) → (Inr s2) → (∀ r : Int, r = shT (fun hr => snF (M 2) (M 8 s) (eyeF (M 2) (M 8) (M 9) s) hr (cvC M (M 8 s) hr) = 0) n hr s2 → Q (.inl (some (vI r))) M) → AW ev false 4 t_X2_sunHours Q 5 [some (vR 18), some (vI s), some (vI s2), some (vI hr)] [] M := by
  intro n
  induction n with
  | zero =>
    intro hr s2 zn zv0 zv1 zv2
    have zs := zp1.1
    refine AW.go pk_X2_sunHours 4 7 rfl rfl ?_
    refine And.intro (show Inr hr ∧ Inr 17 from ⟨⟨by omega, by omega⟩, ⟨by omega, by omega⟩⟩) (And.intro (fun zh1 => ?_) (fun zh1 => ?_))
    · replace zh1 : (17 : Int) < hr := zh1
      change AW ev false 4 t_X2_sunHours Q 32 [some (vR 18), some (vI s), some (vI s2), some (vI hr)] [] M
      refine AW.go pk_X2_sunHours 20 2 rfl rfl ?_
      refine And.intro rfl ?_
      exact zv2 s2 rfl
    · replace zh1 : ¬ ((17 : Int) < hr) := zh1
      exfalso; omega
  | succ n zih =>
    intro hr s2 zn zv0 zv1 zv2
    have zs := zp1.1
    refine AW.go pk_X2_sunHours 4 7 rfl rfl ?_
    refine And.intro (show Inr hr ∧ Inr 17 from ⟨⟨by omega, by omega⟩, ⟨by omega, by omega⟩⟩) (And.intro (fun zh1 => ?_) (fun zh1 => ?_))
    · replace zh1 : (17 : Int) < hr := zh1
      exfalso; omega
    · replace zh1 : ¬ ((17 : Int) < hr) := zh1
      change AW ev false 4 t_X2_sunHours Q 14 [some (vR 18), some (vI s), some (vI s2), some (vI hr)] [vI hr, vI s, vR 18] M
      refine AW.callV (d' := 3) [vI s, vI hr] [] vm_X2_sunObstacle rfl hX2_89 (okP_d pk_X2_sunHours 10 14 (.invokevirtual 89) 3 rfl) (by decide) rfl (Nat.le_of_ble_eq_true rfl) ?_
      refine c_X2_sunObstacle s hr zp0 zp1 zp2 (by omega) (by omega) (fun w1 zw1 => ?_)
      change AW ev false 4 t_X2_sunHours Q 17 [some (vR 18), some (vI s), some (vI s2), some (vI hr)] [vI w1] M
      refine AW.go pk_X2_sunHours 11 9 rfl rfl ?_
      refine And.intro (show Inr w1 from ⟨by omega, by omega⟩) (And.intro (fun zh2 => ?_) (fun zh2 => ?_))
      · replace zh2 : w1 ≠ (0 : Int) := zh2
        change AW ev false 4 t_X2_sunHours Q 26 [some (vR 18), some (vI s), some (vI s2), some (vI hr)] [] M
        refine AW.go pk_X2_sunHours 18 2 rfl rfl ?_
        refine And.intro (show 3 < mL t_X2_sunHours from (by decide)) ?_
        change AW ev false 4 t_X2_sunHours Q 5 [some (vR 18), some (vI s), some (vI s2), some (vI (hr + 1))] [] M
        exact zih (hr + 1) s2 (by omega) (by omega) (by first | exact tI_inr _ | exact zv1) (fun r zr => zv2 r (by rw [zr]; first | exact (shT_yes (f := (fun hr => snF (M 2) (M 8 s) (eyeF (M 2) (M 8) (M 9) s) hr (cvC M (M 8 s) hr) = 0)) (show snF _ _ _ hr _ = 0 from by omega)).symm | exact (shT_no (f := (fun hr => snF (M 2) (M 8 s) (eyeF (M 2) (M 8) (M 9) s) hr (cvC M (M 8 s) hr) = 0)) (show ¬ snF _ _ _ hr _ = 0 from by omega)).symm))
      · replace zh2 : ¬ (w1 ≠ (0 : Int)) := zh2
        refine And.intro (show 2 < mL t_X2_sunHours from (by decide)) ?_
        refine And.intro (show 3 < mL t_X2_sunHours from (by decide)) ?_
        change AW ev false 4 t_X2_sunHours Q 5 [some (vR 18), some (vI s), some (vI (iorI s2 (ishlI 1 hr))), some (vI (hr + 1))] [] M
        exact zih (hr + 1) (iorI s2 (ishlI 1 hr)) (by omega) (by omega) (by first | exact tI_inr _ | exact zv1) (fun r zr => zv2 r (by rw [zr]; first | exact (shT_yes (f := (fun hr => snF (M 2) (M 8 s) (eyeF (M 2) (M 8) (M 9) s) hr (cvC M (M 8 s) hr) = 0)) (show snF _ _ _ hr _ = 0 from by omega)).symm | exact (shT_no (f := (fun hr => snF (M 2) (M 8 s) (eyeF (M 2) (M 8) (M 9) s) hr (cvC M (M 8 s) hr) = 0)) (show ¬ snF _ _ _ hr _ = 0 from by omega)).symm))
theorem c_X2_sunHours {ev : Ev} {Q : Out → Mem → Prop} {M : Mem}  (s : Int) (zp0 : TInv M) (zp1 : SInv M) (zp2 : KInv M) (zp3 : 0 ≤ s ∧ s < M 7 3) (zQ : ∀ (r : Int), r = shT (fun hr => snF (M 2) (M 8 s) (eyeF (M 2) (M 8) (M 9) s) hr (cvC M (M 8 s) hr) = 0) 12 6 0 ∧ (-2147483648 ≤ r ∧ r < 2147483648) → Q (.inl (some (vI r))) M) : AM ev false 4 t_X2_sunHours [vR 18, vI s] M Q := by
  have zs := zp1.1
  refine AM.of mt_X2_sunHours (Nat.le_of_ble_eq_true rfl) ?_
  change AW ev false 4 t_X2_sunHours Q 0 [some (vR 18), some (vI s), none, none] [] M
  refine AW.go pk_X2_sunHours 0 4 rfl rfl ?_
  refine And.intro (show 2 < mL t_X2_sunHours from (by decide)) ?_
  refine And.intro (show 3 < mL t_X2_sunHours from (by decide)) ?_
  change AW ev false 4 t_X2_sunHours Q 5 [some (vR 18), some (vI s), some (vI 0), some (vI 6)] [] M
  exact lz_sunHours s zp0 zp1 zp2 zp3 12 6 0 (by omega) (by omega) ⟨by omega, by omega⟩ (fun r zr => zQ r ⟨zr, by rw [zr]; exact shT_inr _ _ _ _ ⟨by omega, by omega⟩⟩)
theorem c_X2_canThrow {ev : Ev} {Q : Out → Mem → Prop} {M : Mem}  (a : Int) (b : Int) (hr : Int) (zp0 : TInv M) (zp1 : SInv M) (zp2 : 0 ≤ a ∧ a < M 7 3) (zp3 : 0 ≤ b ∧ b < M 7 3) (zp4 : 6 ≤ hr ∧ hr ≤ 17) (zQ : ∀ (r : Int), (r = 0 ∨ r = 1) ∧ (r = 1 ↔ thrP (M 2) (M 8) (M 9) (M 10) a b hr) → Q (.inl (some (vI r))) M) : AM ev false 3 t_X2_canThrow [vR 18, vI a, vI b, vI hr] M Q := by
  have zs := zp1.1
  have zf := zp1.2.1 a (by omega) (by omega)
  have zg := zp1.2.1 b (by omega) (by omega)
  refine AM.of mt_X2_canThrow (Nat.le_of_ble_eq_true rfl) ?_
  change AW ev false 3 t_X2_canThrow Q 0 [some (vR 18), some (vI a), some (vI b), some (vI hr), none, none, none] [] M
  refine AW.go pk_X2_canThrow 0 4 rfl rfl ?_
  change AW ev false 3 t_X2_canThrow Q 5 [some (vR 18), some (vI a), some (vI b), some (vI hr), none, none, none] [vI a, vR 7] M
  refine AW.callV (d' := 1) [vI a] [] vm_X4_mirrorsOf rfl hX2_92 (okP_d pk_X2_canThrow 3 5 (.invokevirtual 92) 3 rfl) (by decide) rfl (Nat.le_of_ble_eq_true rfl) ?_
  refine c_X4_mirrorsOf a zp1 (by omega) (fun w1 zw1 => ?_)
  change AW ev false 3 t_X2_canThrow Q 8 [some (vR 18), some (vI a), some (vI b), some (vI hr), none, none, none] [vI w1] M
  refine AW.go pk_X2_canThrow 4 4 rfl rfl ?_
  refine And.intro (show Inr w1 ∧ Inr 2 from ⟨⟨by omega, by omega⟩, ⟨by omega, by omega⟩⟩) (And.intro (fun zh1 => ?_) (fun zh1 => ?_))
  · replace zh1 : w1 ≠ (2 : Int) := zh1
    change AW ev false 3 t_X2_canThrow Q 14 [some (vR 18), some (vI a), some (vI b), some (vI hr), none, none, none] [] M
    refine AW.go pk_X2_canThrow 8 4 rfl rfl ?_
    change AW ev false 3 t_X2_canThrow Q 19 [some (vR 18), some (vI a), some (vI b), some (vI hr), none, none, none] [vI a, vR 7] M
    refine AW.callV (d' := 1) [vI a] [] vm_X4_cellOf rfl hX2_23 (okP_d pk_X2_canThrow 11 19 (.invokevirtual 23) 3 rfl) (by decide) rfl (Nat.le_of_ble_eq_true rfl) ?_
    refine c_X4_cellOf a zp1 (by omega) (fun c1 zc1 => ?_)
    change AW ev false 3 t_X2_canThrow Q 22 [some (vR 18), some (vI a), some (vI b), some (vI hr), none, none, none] [vI c1] M
    refine AW.go pk_X2_canThrow 12 4 rfl rfl ?_
    change AW ev false 3 t_X2_canThrow Q 27 [some (vR 18), some (vI a), some (vI b), some (vI hr), none, none, none] [vI b, vR 7, vI c1] M
    refine AW.callV (d' := 1) [vI b] [vI c1] vm_X4_cellOf rfl hX2_23 (okP_d pk_X2_canThrow 15 27 (.invokevirtual 23) 3 rfl) (by decide) rfl (Nat.le_of_ble_eq_true rfl) ?_
    refine c_X4_cellOf b zp1 (by omega) (fun c2 zc2 => ?_)
    change AW ev false 3 t_X2_canThrow Q 30 [some (vR 18), some (vI a), some (vI b), some (vI hr), none, none, none] [vI c2, vI c1] M
    refine AW.callS (d' := 1) [vI c1, vI c2] [] sm_X5_eastward hX2_44 (okP_d pk_X2_canThrow 16 30 (.invokestatic 44) 3 rfl) (by decide) rfl (Nat.le_of_ble_eq_true rfl) ?_
    refine c_X5_eastward c1 c2 (by omega) (by omega) (fun dx zdx => ?_)
    change AW ev false 3 t_X2_canThrow Q 33 [some (vR 18), some (vI a), some (vI b), some (vI hr), none, none, none] [vI dx] M
    refine AW.go pk_X2_canThrow 17 5 rfl rfl ?_
    refine And.intro (show 4 < mL t_X2_canThrow from (by decide)) ?_
    change AW ev false 3 t_X2_canThrow Q 40 [some (vR 18), some (vI a), some (vI b), some (vI hr), some (vI dx), none, none] [vI a, vR 7] M
    refine AW.callV (d' := 1) [vI a] [] vm_X4_cellOf rfl hX2_23 (okP_d pk_X2_canThrow 21 40 (.invokevirtual 23) 3 rfl) (by decide) rfl (Nat.le_of_ble_eq_true rfl) ?_
    refine c_X4_cellOf a zp1 (by omega) (fun c3 zc3 => ?_)
    change AW ev false 3 t_X2_canThrow Q 43 [some (vR 18), some (vI a), some (vI b), some (vI hr), some (vI dx), none, none] [vI c3] M
    refine AW.go pk_X2_canThrow 22 4 rfl rfl ?_
    change AW ev false 3 t_X2_canThrow Q 48 [some (vR 18), some (vI a), some (vI b), some (vI hr), some (vI dx), none, none] [vI b, vR 7, vI c3] M
    refine AW.callV (d' := 1) [vI b] [vI c3] vm_X4_cellOf rfl hX2_23 (okP_d pk_X2_canThrow 25 48 (.invokevirtual 23) 3 rfl) (by decide) rfl (Nat.le_of_ble_eq_true rfl) ?_
    refine c_X4_cellOf b zp1 (by omega) (fun c4 zc4 => ?_)
    change AW ev false 3 t_X2_canThrow Q 51 [some (vR 18), some (vI a), some (vI b), some (vI hr), some (vI dx), none, none] [vI c4, vI c3] M
    refine AW.callS (d' := 1) [vI c3, vI c4] [] sm_X5_southward hX2_48 (okP_d pk_X2_canThrow 26 51 (.invokestatic 48) 3 rfl) (by decide) rfl (Nat.le_of_ble_eq_true rfl) ?_
    refine c_X5_southward c3 c4 (by omega) (by omega) (fun dy zdy => ?_)
    change AW ev false 3 t_X2_canThrow Q 54 [some (vR 18), some (vI a), some (vI b), some (vI hr), some (vI dx), none, none] [vI dy] M
    refine AW.go pk_X2_canThrow 27 4 rfl rfl ?_
    refine And.intro (show 5 < mL t_X2_canThrow from (by decide)) ?_
    change AW ev false 3 t_X2_canThrow Q 60 [some (vR 18), some (vI a), some (vI b), some (vI hr), some (vI dx), some (vI dy), none] [vI hr, vI 500] M
    refine AW.callS (d' := 0) [vI hr] [vI 500] sm_X2_sunEast hX2_80 (okP_d pk_X2_canThrow 30 60 (.invokestatic 80) 3 rfl) (by decide) rfl (Nat.le_of_ble_eq_true rfl) ?_
    refine c_X2_sunEast hr  (fun e1 ze1 => ?_)
    change AW ev false 3 t_X2_canThrow Q 63 [some (vR 18), some (vI a), some (vI b), some (vI hr), some (vI dx), some (vI dy), none] [vI e1, vI 500] M
    refine AW.go pk_X2_canThrow 31 11 rfl rfl ?_
    refine And.intro (show 6 < mL t_X2_canThrow from (by decide)) ?_
    change AW ev false 3 t_X2_canThrow Q 77 [some (vR 18), some (vI a), some (vI b), some (vI hr), some (vI dx), some (vI dy), some (vI (500 * ((e1 * dx) + (3 * dy))))] [vI hr, vI (500 * ((e1 * dx) + (3 * dy)))] M
    refine AW.callS (d' := 1) [vI hr] [vI (500 * ((e1 * dx) + (3 * dy)))] sm_X2_sunUp hX2_77 (okP_d pk_X2_canThrow 41 77 (.invokestatic 77) 3 rfl) (by decide) rfl (Nat.le_of_ble_eq_true rfl) ?_
    refine c_X2_sunUp hr (by omega) (fun u1 zu1 => ?_)
    change AW ev false 3 t_X2_canThrow Q 80 [some (vR 18), some (vI a), some (vI b), some (vI hr), some (vI dx), some (vI dy), some (vI (500 * ((e1 * dx) + (3 * dy))))] [vI u1, vI (500 * ((e1 * dx) + (3 * dy)))] M
    refine AW.go pk_X2_canThrow 42 3 rfl rfl ?_
    change AW ev false 3 t_X2_canThrow Q 82 [some (vR 18), some (vI a), some (vI b), some (vI hr), some (vI dx), some (vI dy), some (vI (500 * ((e1 * dx) + (3 * dy))))] [vI b, vR 18, vI u1, vI (500 * ((e1 * dx) + (3 * dy)))] M
    refine AW.callV (d' := 2) [vI b] [vI u1, vI (500 * ((e1 * dx) + (3 * dy)))] vm_X2_eyeOf rfl hX2_37 (okP_d pk_X2_canThrow 44 82 (.invokevirtual 37) 3 rfl) (by decide) rfl (Nat.le_of_ble_eq_true rfl) ?_
    refine c_X2_eyeOf b zp0 zp1 (by omega) (fun eb zeb => ?_)
    change AW ev false 3 t_X2_canThrow Q 85 [some (vR 18), some (vI a), some (vI b), some (vI hr), some (vI dx), some (vI dy), some (vI (500 * ((e1 * dx) + (3 * dy))))] [vI eb, vI u1, vI (500 * ((e1 * dx) + (3 * dy)))] M
    refine AW.go pk_X2_canThrow 45 3 rfl rfl ?_
    change AW ev false 3 t_X2_canThrow Q 87 [some (vR 18), some (vI a), some (vI b), some (vI hr), some (vI dx), some (vI dy), some (vI (500 * ((e1 * dx) + (3 * dy))))] [vI a, vR 18, vI eb, vI u1, vI (500 * ((e1 * dx) + (3 * dy)))] M
    refine AW.callV (d' := 2) [vI a] [vI eb, vI u1, vI (500 * ((e1 * dx) + (3 * dy)))] vm_X2_eyeOf rfl hX2_37 (okP_d pk_X2_canThrow 47 87 (.invokevirtual 37) 3 rfl) (by decide) rfl (Nat.le_of_ble_eq_true rfl) ?_
    refine c_X2_eyeOf a zp0 zp1 (by omega) (fun ea zea => ?_)
    change AW ev false 3 t_X2_canThrow Q 90 [some (vR 18), some (vI a), some (vI b), some (vI hr), some (vI dx), some (vI dy), some (vI (500 * ((e1 * dx) + (3 * dy))))] [vI ea, vI eb, vI u1, vI (500 * ((e1 * dx) + (3 * dy)))] M
    refine AW.go pk_X2_canThrow 48 6 rfl rfl ?_
    refine And.intro (show Inr ((500 * ((e1 * dx) + (3 * dy))) + (u1 * (eb - ea))) from (by have b1 := mul_bd (a := e1) (b := dx) (A := 6) (B := 11) (by omega) (by omega); have b2 := mul_bd (a := u1) (b := eb - ea) (A := 6) (B := 1000) (by omega) (by omega); exact ⟨by omega, by omega⟩)) (And.intro (fun zh2 => ?_) (fun zh2 => ?_))
    · replace zh2 : (500 * ((e1 * dx) + (3 * dy))) + (u1 * (eb - ea)) ≤ (0 : Int) := zh2
      change AW ev false 3 t_X2_canThrow Q 100 [some (vR 18), some (vI a), some (vI b), some (vI hr), some (vI dx), some (vI dy), some (vI (500 * ((e1 * dx) + (3 * dy))))] [] M
      refine AW.go pk_X2_canThrow 54 2 rfl rfl ?_
      refine And.intro rfl ?_
      refine And.intro (show ((0 : Int) = 0 ∨ (0 : Int) = 1) from (by omega)) ?_
      have zeq : (thrP (M 2) (M 8) (M 9) (M 10) a b hr) ↔ (w1 = 2 ∨ 0 < 500 * (e1 * dx + 3 * dy) + u1 * (eb - ea)) := by rw [zw1, ze1, zdx, zdy, zu1.1, zeb.1, zea.1, zc1, zc2, zc3, zc4]
      exact zQ 0 ⟨by omega, by rw [zeq]; omega⟩
    · replace zh2 : ¬ ((500 * ((e1 * dx) + (3 * dy))) + (u1 * (eb - ea)) ≤ (0 : Int)) := zh2
      change AW ev false 3 t_X2_canThrow Q 101 [some (vR 18), some (vI a), some (vI b), some (vI hr), some (vI dx), some (vI dy), some (vI (500 * ((e1 * dx) + (3 * dy))))] [vI 1] M
      refine AW.go pk_X2_canThrow 55 1 rfl rfl ?_
      refine And.intro rfl ?_
      refine And.intro (show ((1 : Int) = 0 ∨ (1 : Int) = 1) from (by omega)) ?_
      have zeq : (thrP (M 2) (M 8) (M 9) (M 10) a b hr) ↔ (w1 = 2 ∨ 0 < 500 * (e1 * dx + 3 * dy) + u1 * (eb - ea)) := by rw [zw1, ze1, zdx, zdy, zu1.1, zeb.1, zea.1, zc1, zc2, zc3, zc4]
      exact zQ 1 ⟨by omega, by rw [zeq]; omega⟩
  · replace zh1 : ¬ (w1 ≠ (2 : Int)) := zh1
    refine And.intro rfl ?_
    refine And.intro (show ((1 : Int) = 0 ∨ (1 : Int) = 1) from (by omega)) ?_
    exact zQ 1 ⟨Or.inr rfl, fun _ => Or.inl (by omega), fun _ => rfl⟩
theorem c_X2_obstacle {ev : Ev} {Q : Out → Mem → Prop} {M : Mem}  (a : Int) (b : Int) (hr : Int) (zp0 : TInv M) (zp1 : SInv M) (zp2 : KInv M) (zp3 : 0 ≤ a ∧ a < M 7 3) (zp4 : 0 ≤ b ∧ b < M 7 3) (zp5 : a ≠ b) (zp6 : 6 ≤ hr ∧ hr ≤ 17) (zQ : ∀ (r : Int), r = lnkF (M 2) (M 8) (M 9) (M 10) (cvC M) a b hr ∧ (0 ≤ r ∧ r ≤ 5) → Q (.inl (some (vI r))) M) : AM ev false 5 t_X2_obstacle [vR 18, vI a, vI b, vI hr] M Q := by
  have zs := zp1.1
  refine AM.of mt_X2_obstacle (Nat.le_of_ble_eq_true rfl) ?_
  change AW ev false 5 t_X2_obstacle Q 0 [some (vR 18), some (vI a), some (vI b), some (vI hr), none] [] M
  refine AW.go pk_X2_obstacle 0 4 rfl rfl ?_
  change AW ev false 5 t_X2_obstacle Q 3 [some (vR 18), some (vI a), some (vI b), some (vI hr), none] [vI hr, vI a, vR 18] M
  refine AW.callV (d' := 3) [vI a, vI hr] [] vm_X2_sunObstacle rfl hX2_89 (okP_d pk_X2_obstacle 3 3 (.invokevirtual 89) 3 rfl) (by decide) rfl (Nat.le_of_ble_eq_true rfl) ?_
  refine c_X2_sunObstacle a hr zp0 zp1 zp2 (by omega) (by omega) (fun w1 zw1 => ?_)
  change AW ev false 5 t_X2_obstacle Q 6 [some (vR 18), some (vI a), some (vI b), some (vI hr), none] [vI w1] M
  refine AW.go pk_X2_obstacle 4 5 rfl rfl ?_
  refine And.intro (show 4 < mL t_X2_obstacle from (by decide)) ?_
  refine And.intro (show Inr w1 from ⟨by omega, by omega⟩) (And.intro (fun zh1 => ?_) (fun zh1 => ?_))
  · replace zh1 : w1 = (0 : Int) := zh1
    change AW ev false 5 t_X2_obstacle Q 16 [some (vR 18), some (vI a), some (vI b), some (vI hr), some (vI w1)] [] M
    refine AW.go pk_X2_obstacle 9 4 rfl rfl ?_
    change AW ev false 5 t_X2_obstacle Q 19 [some (vR 18), some (vI a), some (vI b), some (vI hr), some (vI w1)] [vI b, vI a, vR 18] M
    refine AW.callV (d' := 4) [vI a, vI b] [] vm_X2_blockingCell rfl hX2_62 (okP_d pk_X2_obstacle 12 19 (.invokevirtual 62) 3 rfl) (by decide) rfl (Nat.le_of_ble_eq_true rfl) ?_
    refine c_X2_blockingCell a b zp0 zp1 (by omega) (by omega) (by omega) (fun w2 zw2 => ?_)
    change AW ev false 5 t_X2_obstacle Q 22 [some (vR 18), some (vI a), some (vI b), some (vI hr), some (vI w1)] [vI w2] M
    refine AW.go pk_X2_obstacle 13 4 rfl rfl ?_
    refine And.intro (show Inr w2 ∧ Inr (-1) from ⟨⟨by omega, by omega⟩, ⟨by omega, by omega⟩⟩) (And.intro (fun zh2 => ?_) (fun zh2 => ?_))
    · replace zh2 : w2 = (-1 : Int) := zh2
      change AW ev false 5 t_X2_obstacle Q 28 [some (vR 18), some (vI a), some (vI b), some (vI hr), some (vI w1)] [] M
      refine AW.go pk_X2_obstacle 17 5 rfl rfl ?_
      change AW ev false 5 t_X2_obstacle Q 32 [some (vR 18), some (vI a), some (vI b), some (vI hr), some (vI w1)] [vI hr, vI b, vI a, vR 18] M
      refine AW.callV (d' := 3) [vI a, vI b, vI hr] [] vm_X2_canThrow rfl hX2_95 (okP_d pk_X2_obstacle 21 32 (.invokevirtual 95) 3 rfl) (by decide) rfl (Nat.le_of_ble_eq_true rfl) ?_
      refine c_X2_canThrow a b hr zp0 zp1 (by omega) (by omega) (by omega) (fun w3 zw3 => ?_)
      change AW ev false 5 t_X2_obstacle Q 35 [some (vR 18), some (vI a), some (vI b), some (vI hr), some (vI w1)] [vI w3] M
      refine AW.go pk_X2_obstacle 22 3 rfl rfl ?_
      refine And.intro (show Inr w3 from ⟨by omega, by omega⟩) (And.intro (fun zh3 => ?_) (fun zh3 => ?_))
      · replace zh3 : w3 = (0 : Int) := zh3
        change AW ev false 5 t_X2_obstacle Q 42 [some (vR 18), some (vI a), some (vI b), some (vI hr), some (vI w1)] [] M
        refine AW.go pk_X2_obstacle 25 2 rfl rfl ?_
        refine And.intro rfl ?_
        exact zQ 5 ⟨by unfold lnkF; rw [← zw1.1, if_neg (by omega), ← zw2.1, if_neg (by omega), if_neg (fun q => by have := zw3.2.mpr q; omega)], by omega⟩
      · replace zh3 : ¬ (w3 = (0 : Int)) := zh3
        change AW ev false 5 t_X2_obstacle Q 43 [some (vR 18), some (vI a), some (vI b), some (vI hr), some (vI w1)] [vI 0] M
        refine AW.go pk_X2_obstacle 26 1 rfl rfl ?_
        refine And.intro rfl ?_
        exact zQ 0 ⟨by unfold lnkF; rw [← zw1.1, if_neg (by omega), ← zw2.1, if_neg (by omega), if_pos (zw3.2.mp (by omega))], by omega⟩
    · replace zh2 : ¬ (w2 = (-1 : Int)) := zh2
      refine And.intro rfl ?_
      exact zQ 4 ⟨by unfold lnkF; rw [← zw1.1, if_neg (by omega), ← zw2.1, if_pos (by omega)], by omega⟩
  · replace zh1 : ¬ (w1 = (0 : Int)) := zh1
    refine And.intro rfl ?_
    exact zQ w1 ⟨by unfold lnkF; rw [← zw1.1, if_pos (by omega)], by omega⟩
theorem lz_sigHours {ev : Ev} {Q : Out → Mem → Prop} {M : Mem}  (a : Int) (b : Int) (sun : Int) (zp0 : TInv M) (zp1 : SInv M) (zp2 : 0 ≤ a ∧ a < M 7 3) (zp3 : 0 ≤ b ∧ b < M 7 3) (zp4 : a ≠ b)  : ∀ (n : Nat) (hr : Int) (s2 : Int), hr + n = 18 → (6 ≤ hr) → (Inr s2) → (∀ r : Int, r = shT (fun hr => bitP sun hr ∧ thrP (M 2) (M 8) (M 9) (M 10) a b hr) n hr s2 → Q (.inl (some (vI r))) M) → AW ev false 5 t_X2_signalHours Q 19 [some (vR 18), some (vI a), some (vI b), some (vI sun), some (vI s2), some (vI hr)] [] M := by
  intro n
  induction n with
  | zero =>
    intro hr s2 zn zv0 zv1 zv2
    have zs := zp1.1
    refine AW.go pk_X2_signalHours 12 15 rfl rfl ?_
    refine And.intro (show Inr hr ∧ Inr 17 from ⟨⟨by omega, by omega⟩, ⟨by omega, by omega⟩⟩) (And.intro (fun zh1 => ?_) (fun zh1 => ?_))
    · replace zh1 : (17 : Int) < hr := zh1
      change AW ev false 5 t_X2_signalHours Q 62 [some (vR 18), some (vI a), some (vI b), some (vI sun), some (vI s2), some (vI hr)] [] M
      refine AW.go pk_X2_signalHours 36 2 rfl rfl ?_
      refine And.intro rfl ?_
      exact zv2 s2 rfl
    · replace zh1 : ¬ ((17 : Int) < hr) := zh1
      exfalso; omega
  | succ n zih =>
    intro hr s2 zn zv0 zv1 zv2
    have zs := zp1.1
    refine AW.go pk_X2_signalHours 12 15 rfl rfl ?_
    refine And.intro (show Inr hr ∧ Inr 17 from ⟨⟨by omega, by omega⟩, ⟨by omega, by omega⟩⟩) (And.intro (fun zh1 => ?_) (fun zh1 => ?_))
    · replace zh1 : (17 : Int) < hr := zh1
      exfalso; omega
    · replace zh1 : ¬ ((17 : Int) < hr) := zh1
      refine And.intro (show Inr (iandI (ishrI sun hr) 1) ∧ Inr 1 from ⟨(by first | exact tI_inr _ | exact ⟨by omega, by omega⟩), ⟨by omega, by omega⟩⟩) (And.intro (fun zh2 => ?_) (fun zh2 => ?_))
      · replace zh2 : iandI (ishrI sun hr) 1 ≠ (1 : Int) := zh2
        change AW ev false 5 t_X2_signalHours Q 56 [some (vR 18), some (vI a), some (vI b), some (vI sun), some (vI s2), some (vI hr)] [] M
        refine AW.go pk_X2_signalHours 34 2 rfl rfl ?_
        refine And.intro (show 5 < mL t_X2_signalHours from (by decide)) ?_
        change AW ev false 5 t_X2_signalHours Q 19 [some (vR 18), some (vI a), some (vI b), some (vI sun), some (vI s2), some (vI (hr + 1))] [] M
        exact zih (hr + 1) s2 (by omega) (by omega) (by first | exact tI_inr _ | exact zv1) (fun r zr => zv2 r (by rw [zr]; first | exact (shT_yes (f := (fun hr => bitP sun hr ∧ thrP (M 2) (M 8) (M 9) (M 10) a b hr)) (show bitP sun hr ∧ thrP (M 2) (M 8) (M 9) (M 10) a b hr from ⟨by omega, zw2.2.mp (by omega)⟩)).symm | exact (shT_no (f := (fun hr => bitP sun hr ∧ thrP (M 2) (M 8) (M 9) (M 10) a b hr)) (show ¬ (bitP sun hr ∧ thrP (M 2) (M 8) (M 9) (M 10) a b hr) from fun q => by have := q.1; omega)).symm | exact (shT_no (f := (fun hr => bitP sun hr ∧ thrP (M 2) (M 8) (M 9) (M 10) a b hr)) (show ¬ (bitP sun hr ∧ thrP (M 2) (M 8) (M 9) (M 10) a b hr) from fun q => by have := zw2.2.mpr q.2; omega)).symm))
      · replace zh2 : ¬ (iandI (ishrI sun hr) 1 ≠ (1 : Int)) := zh2
        change AW ev false 5 t_X2_signalHours Q 41 [some (vR 18), some (vI a), some (vI b), some (vI sun), some (vI s2), some (vI hr)] [vI hr, vI b, vI a, vR 18] M
        refine AW.callV (d' := 3) [vI a, vI b, vI hr] [] vm_X2_canThrow rfl hX2_95 (okP_d pk_X2_signalHours 26 41 (.invokevirtual 95) 3 rfl) (by decide) rfl (Nat.le_of_ble_eq_true rfl) ?_
        refine c_X2_canThrow a b hr zp0 zp1 (by omega) (by omega) (by omega) (fun w2 zw2 => ?_)
        change AW ev false 5 t_X2_signalHours Q 44 [some (vR 18), some (vI a), some (vI b), some (vI sun), some (vI s2), some (vI hr)] [vI w2] M
        refine AW.go pk_X2_signalHours 27 9 rfl rfl ?_
        refine And.intro (show Inr w2 from ⟨by omega, by omega⟩) (And.intro (fun zh3 => ?_) (fun zh3 => ?_))
        · replace zh3 : w2 = (0 : Int) := zh3
          change AW ev false 5 t_X2_signalHours Q 56 [some (vR 18), some (vI a), some (vI b), some (vI sun), some (vI s2), some (vI hr)] [] M
          refine AW.go pk_X2_signalHours 34 2 rfl rfl ?_
          refine And.intro (show 5 < mL t_X2_signalHours from (by decide)) ?_
          change AW ev false 5 t_X2_signalHours Q 19 [some (vR 18), some (vI a), some (vI b), some (vI sun), some (vI s2), some (vI (hr + 1))] [] M
          exact zih (hr + 1) s2 (by omega) (by omega) (by first | exact tI_inr _ | exact zv1) (fun r zr => zv2 r (by rw [zr]; first | exact (shT_yes (f := (fun hr => bitP sun hr ∧ thrP (M 2) (M 8) (M 9) (M 10) a b hr)) (show bitP sun hr ∧ thrP (M 2) (M 8) (M 9) (M 10) a b hr from ⟨by omega, zw2.2.mp (by omega)⟩)).symm | exact (shT_no (f := (fun hr => bitP sun hr ∧ thrP (M 2) (M 8) (M 9) (M 10) a b hr)) (show ¬ (bitP sun hr ∧ thrP (M 2) (M 8) (M 9) (M 10) a b hr) from fun q => by have := q.1; omega)).symm | exact (shT_no (f := (fun hr => bitP sun hr ∧ thrP (M 2) (M 8) (M 9) (M 10) a b hr)) (show ¬ (bitP sun hr ∧ thrP (M 2) (M 8) (M 9) (M 10) a b hr) from fun q => by have := zw2.2.mpr q.2; omega)).symm))
        · replace zh3 : ¬ (w2 = (0 : Int)) := zh3
          refine And.intro (show 4 < mL t_X2_signalHours from (by decide)) ?_
          refine And.intro (show 5 < mL t_X2_signalHours from (by decide)) ?_
          change AW ev false 5 t_X2_signalHours Q 19 [some (vR 18), some (vI a), some (vI b), some (vI sun), some (vI (iorI s2 (ishlI 1 hr))), some (vI (hr + 1))] [] M
          exact zih (hr + 1) (iorI s2 (ishlI 1 hr)) (by omega) (by omega) (by first | exact tI_inr _ | exact zv1) (fun r zr => zv2 r (by rw [zr]; first | exact (shT_yes (f := (fun hr => bitP sun hr ∧ thrP (M 2) (M 8) (M 9) (M 10) a b hr)) (show bitP sun hr ∧ thrP (M 2) (M 8) (M 9) (M 10) a b hr from ⟨by omega, zw2.2.mp (by omega)⟩)).symm | exact (shT_no (f := (fun hr => bitP sun hr ∧ thrP (M 2) (M 8) (M 9) (M 10) a b hr)) (show ¬ (bitP sun hr ∧ thrP (M 2) (M 8) (M 9) (M 10) a b hr) from fun q => by have := q.1; omega)).symm | exact (shT_no (f := (fun hr => bitP sun hr ∧ thrP (M 2) (M 8) (M 9) (M 10) a b hr)) (show ¬ (bitP sun hr ∧ thrP (M 2) (M 8) (M 9) (M 10) a b hr) from fun q => by have := zw2.2.mpr q.2; omega)).symm))
theorem c_X2_signalHours {ev : Ev} {Q : Out → Mem → Prop} {M : Mem}  (a : Int) (b : Int) (sun : Int) (zp0 : TInv M) (zp1 : SInv M) (zp2 : 0 ≤ a ∧ a < M 7 3) (zp3 : 0 ≤ b ∧ b < M 7 3) (zp4 : a ≠ b) (zQ : ∀ (r : Int), r = (if betF (M 2) (M 8) (M 9) a b ≠ -1 then 0 else shT (fun hr => bitP sun hr ∧ thrP (M 2) (M 8) (M 9) (M 10) a b hr) 12 6 0) ∧ (-2147483648 ≤ r ∧ r < 2147483648) → Q (.inl (some (vI r))) M) : AM ev false 5 t_X2_signalHours [vR 18, vI a, vI b, vI sun] M Q := by
  have zs := zp1.1
  refine AM.of mt_X2_signalHours (Nat.le_of_ble_eq_true rfl) ?_
  change AW ev false 5 t_X2_signalHours Q 0 [some (vR 18), some (vI a), some (vI b), some (vI sun), none, none] [] M
  refine AW.go pk_X2_signalHours 0 4 rfl rfl ?_
  change AW ev false 5 t_X2_signalHours Q 3 [some (vR 18), some (vI a), some (vI b), some (vI sun), none, none] [vI b, vI a, vR 18] M
  refine AW.callV (d' := 4) [vI a, vI b] [] vm_X2_blockingCell rfl hX2_62 (okP_d pk_X2_signalHours 3 3 (.invokevirtual 62) 3 rfl) (by decide) rfl (Nat.le_of_ble_eq_true rfl) ?_
  refine c_X2_blockingCell a b zp0 zp1 (by omega) (by omega) (by omega) (fun w1 zw1 => ?_)
  change AW ev false 5 t_X2_signalHours Q 6 [some (vR 18), some (vI a), some (vI b), some (vI sun), none, none] [vI w1] M
  refine AW.go pk_X2_signalHours 4 4 rfl rfl ?_
  refine And.intro (show Inr w1 ∧ Inr (-1) from ⟨⟨by omega, by omega⟩, ⟨by omega, by omega⟩⟩) (And.intro (fun zh1 => ?_) (fun zh1 => ?_))
  · replace zh1 : w1 = (-1 : Int) := zh1
    change AW ev false 5 t_X2_signalHours Q 12 [some (vR 18), some (vI a), some (vI b), some (vI sun), none, none] [] M
    refine AW.go pk_X2_signalHours 8 4 rfl rfl ?_
    refine And.intro (show 4 < mL t_X2_signalHours from (by decide)) ?_
    refine And.intro (show 5 < mL t_X2_signalHours from (by decide)) ?_
    change AW ev false 5 t_X2_signalHours Q 19 [some (vR 18), some (vI a), some (vI b), some (vI sun), some (vI 0), some (vI 6)] [] M
    exact lz_sigHours a b sun zp0 zp1 zp2 zp3 zp4 12 6 0 (by omega) (by omega) ⟨by omega, by omega⟩ (fun r zr => zQ r ⟨by rw [← zw1.1, if_neg (by omega)]; exact zr, by rw [zr]; exact shT_inr _ _ _ _ ⟨by omega, by omega⟩⟩)
  · replace zh1 : ¬ (w1 = (-1 : Int)) := zh1
    refine And.intro rfl ?_
    exact zQ 0 ⟨by rw [← zw1.1, if_pos (by omega)], by omega⟩
