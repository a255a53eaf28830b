theorem c_X7_firstError {ev : Ev} {Q : Out → Mem → Prop} {M : Mem}   (zp0 : 0 ≤ M 3 3 ∧ M 3 3 ≤ 40) (zp1 : ∀ i, 0 ≤ i → i < M 3 3 → 33 ≤ M 4 i ∧ M 4 i ≤ 126) (zQ0 : True → Q (.inl (some (vI ((prun (M 4) (M 3 3).toNat 0 (0, 0, M 5, M 6)).1)))) (psM M ((prun (M 4) (M 3 3).toNat 0 (0, 0, M 5, M 6)).2))) : AM ev false 4 t_X7_firstError [vR 0] M Q := by
  refine AM.of mt_X7_firstError (Nat.le_of_ble_eq_true rfl) ?_
  change AW ev false 4 t_X7_firstError Q 0 [some (vR 0)] [] M
  refine AW.go pk_X7_firstError 0 3 rfl rfl ?_
  change AW ev false 4 t_X7_firstError Q 4 [some (vR 0)] [vR 3] M
  refine AW.callV (d' := 3) [] [] vm_X1_read rfl hX7_108 (okP_d pk_X7_firstError 2 4 (.invokevirtual 108) 3 rfl) (by decide) rfl (Nat.le_of_ble_eq_true rfl) ?_
  refine c_X1_read  zp0 zp1 (fun zc2 => ?_)
  · replace zc2 : True := zc2
    change AW ev false 4 t_X7_firstError Q 7 [some (vR 0)] [vI ((prun (M 4) (M 3 3).toNat 0 (0, 0, M 5, M 6)).1)] (psM M ((prun (M 4) (M 3 3).toNat 0 (0, 0, M 5, M 6)).2))
    refine AW.go pk_X7_firstError 3 1 rfl rfl ?_
    refine And.intro rfl ?_
    exact zQ0 trivial
theorem c_X7_load_x1 {ev : Ev} {Q : Out → Mem → Prop} {M : Mem}  (f : Int) (zp0 : 0 ≤ M 3 3 ∧ M 3 3 ≤ 40) (zp1 : ∀ i, 0 ≤ i → i < M 3 3 → 33 ≤ M 4 i ∧ M 4 i ≤ 126) (zp2 : -2147483648 ≤ f ∧ f < 2147483648) (zp3 : ¬ (0 ≤ f ∧ f < 144)) (zQ : Q (.inr "java/lang/IndexOutOfBoundsException") M) : AM ev true 7 t_X7_load [vR 0, vI f] M Q := by
  refine AM.of mt_X7_load (Nat.le_of_ble_eq_true rfl) ?_
  change AW ev true 7 t_X7_load Q 0 [some (vR 0), some (vI f), none] [] M
  refine AW.go pk_X7_load 0 2 rfl rfl ?_
  change AW ev true 7 t_X7_load Q 1 [some (vR 0), some (vI f), none] [vI f] M
  refine AW.callST (d' := 6) [vI f] [] sm_X7_requireCell hX7_74 (okP_d pk_X7_load 1 1 (.invokestatic 74) 3 rfl) (by decide) rfl (Nat.le_of_ble_eq_true rfl) ?_
  exact c_X7_requireCell_x f (by omega) (by omega) zQ
theorem c_X7_load_x2 {ev : Ev} {Q : Out → Mem → Prop} {M : Mem}  (f : Int) (zp0 : 0 ≤ M 3 3 ∧ M 3 3 ≤ 40) (zp1 : ∀ i, 0 ≤ i → i < M 3 3 → 33 ≤ M 4 i ∧ M 4 i ≤ 126) (zp2 : 0 ≤ f ∧ f < 144) (zp3 : ¬ (((prun (M 4) (M 3 3).toNat 0 (0, 0, M 5, M 6)).2.1 = 1 ∨ (prun (M 4) (M 3 3).toNat 0 (0, 0, M 5, M 6)).2.1 = 3))) (zQ : Q (.inr "java/lang/IllegalArgumentException") (psM M (prun (M 4) (M 3 3).toNat 0 (0, 0, M 5, M 6)).2)) : AM ev true 7 t_X7_load [vR 0, vI f] M Q := by
  have zri : (prun (M 4) (M 3 3).toNat 0 (0, 0, M 5, M 6)).2.1 = 4 ∨ PSI (M 3 3) (prun (M 4) (M 3 3).toNat 0 (0, 0, M 5, M 6)).2 := rdT_I M zp0
  have zrb : -10 ≤ (prun (M 4) (M 3 3).toNat 0 (0, 0, M 5, M 6)).2.1 ∧ (prun (M 4) (M 3 3).toNat 0 (0, 0, M 5, M 6)).2.1 ≤ 10 := zri.elim (fun q => by omega) (fun q => by have zq1 := q.1; omega)
  refine AM.of mt_X7_load (Nat.le_of_ble_eq_true rfl) ?_
  change AW ev true 7 t_X7_load Q 0 [some (vR 0), some (vI f), none] [] M
  refine AW.go pk_X7_load 0 2 rfl rfl ?_
  change AW ev true 7 t_X7_load Q 1 [some (vR 0), some (vI f), none] [vI f] M
  refine AW.callS (d' := 6) [vI f] [] sm_X7_requireCell hX7_74 (okP_d pk_X7_load 1 1 (.invokestatic 74) 3 rfl) (by decide) rfl (Nat.le_of_ble_eq_true rfl) ?_
  refine c_X7_requireCell f (by omega) ?_
  change AW ev true 7 t_X7_load Q 4 [some (vR 0), some (vI f), none] [] M
  refine AW.go pk_X7_load 2 3 rfl rfl ?_
  change AW ev true 7 t_X7_load Q 8 [some (vR 0), some (vI f), none] [vR 3] M
  refine AW.callV (d' := 3) [] [] vm_X1_read rfl hX7_108 (okP_d pk_X7_load 4 8 (.invokevirtual 108) 3 rfl) (by decide) rfl (Nat.le_of_ble_eq_true rfl) ?_
  refine c_X1_read  zp0 zp1 (fun zc3 => ?_)
  · replace zc3 : True := zc3
    change AW ev true 7 t_X7_load Q 11 [some (vR 0), some (vI f), none] [vI ((prun (M 4) (M 3 3).toNat 0 (0, 0, M 5, M 6)).1)] (psM M ((prun (M 4) (M 3 3).toNat 0 (0, 0, M 5, M 6)).2))
    refine AW.go pk_X7_load 5 4 rfl rfl ?_
    change AW ev true 7 t_X7_load Q 16 [some (vR 0), some (vI f), none] [vR 3] (psM M ((prun (M 4) (M 3 3).toNat 0 (0, 0, M 5, M 6)).2))
    refine AW.callV (d' := 0) [] [] vm_X1_isComplete rfl hX7_111 (okP_d pk_X7_load 8 16 (.invokevirtual 111) 3 rfl) (by decide) rfl (Nat.le_of_ble_eq_true rfl) ?_
    refine c_X1_isComplete  zrb (fun w1 zw1 => ?_)
    replace zw1 : (w1 = 0 ∨ w1 = 1) ∧ (w1 = 1 ↔ (((prun (M 4) (M 3 3).toNat 0 (0, 0, M 5, M 6)).2).1) = 1 ∨ (((prun (M 4) (M 3 3).toNat 0 (0, 0, M 5, M 6)).2).1) = 3) := zw1
    replace zw1 : (w1 = 0 ∨ w1 = 1) ∧ (w1 = 1 ↔ ((prun (M 4) (M 3 3).toNat 0 (0, 0, M 5, M 6)).2.1 = 1 ∨ (prun (M 4) (M 3 3).toNat 0 (0, 0, M 5, M 6)).2.1 = 3)) := zw1
    change AW ev true 7 t_X7_load Q 19 [some (vR 0), some (vI f), none] [vI w1] (psM M ((prun (M 4) (M 3 3).toNat 0 (0, 0, M 5, M 6)).2))
    refine AW.go pk_X7_load 9 2 rfl rfl ?_
    refine And.intro (show Inr w1 from ⟨by omega, by omega⟩) (And.intro (fun zh4 => ?_) (fun zh4 => ?_))
    · replace zh4 : w1 ≠ (0 : Int) := zh4
      exfalso; omega
    · replace zh4 : ¬ (w1 ≠ (0 : Int)) := zh4
      change AW ev true 7 t_X7_load Q 22 [some (vR 0), some (vI f), none] [] (psM M ((prun (M 4) (M 3 3).toNat 0 (0, 0, M 5, M 6)).2))
      exact AW.thr 3 (by decide) x_7_IAE rfl (by decide) (okP_d pk_X7_load 10 22 (.new 115) 3 rfl) (okP_d pk_X7_load 11 25 (.dup) 1 rfl) (okP_d pk_X7_load 12 26 (.ldc 117) 2 rfl) (okP_d pk_X7_load 13 28 (.invokespecial 119) 3 rfl) (okP_d pk_X7_load 14 31 (.athrow) 1 rfl) zQ
theorem c_X7_load_x3 {ev : Ev} {Q : Out → Mem → Prop} {M : Mem}  (f : Int) (zp0 : 0 ≤ M 3 3 ∧ M 3 3 ≤ 40) (zp1 : ∀ i, 0 ≤ i → i < M 3 3 → 33 ≤ M 4 i ∧ M 4 i ≤ 126) (zp2 : 0 ≤ f ∧ f < 144) (zp3 : ((prun (M 4) (M 3 3).toNat 0 (0, 0, M 5, M 6)).2.1 = 1 ∨ (prun (M 4) (M 3 3).toNat 0 (0, 0, M 5, M 6)).2.1 = 3)) (zp4 : 144 < f + clS (prun (M 4) (M 3 3).toNat 0 (0, 0, M 5, M 6)).2.2.2.2 (prun (M 4) (M 3 3).toNat 0 (0, 0, M 5, M 6)).2.2.1.toNat 0) (zp5 : clS (prun (M 4) (M 3 3).toNat 0 (0, 0, M 5, M 6)).2.2.2.2 (prun (M 4) (M 3 3).toNat 0 (0, 0, M 5, M 6)).2.2.1.toNat 0 ≤ 5000) (zQ : Q (.inr "java/lang/IllegalStateException") (psM M (prun (M 4) (M 3 3).toNat 0 (0, 0, M 5, M 6)).2)) : AM ev true 7 t_X7_load [vR 0, vI f] M Q := by
  have zri : (prun (M 4) (M 3 3).toNat 0 (0, 0, M 5, M 6)).2.1 = 4 ∨ PSI (M 3 3) (prun (M 4) (M 3 3).toNat 0 (0, 0, M 5, M 6)).2 := rdT_I M zp0
  have zrb : -10 ≤ (prun (M 4) (M 3 3).toNat 0 (0, 0, M 5, M 6)).2.1 ∧ (prun (M 4) (M 3 3).toNat 0 (0, 0, M 5, M 6)).2.1 ≤ 10 := zri.elim (fun q => by omega) (fun q => by have zq1 := q.1; omega)
  have zrj : PSI (M 3 3) (prun (M 4) (M 3 3).toNat 0 (0, 0, M 5, M 6)).2 := zri.resolve_left (by omega)
  have zrk : 0 ≤ (prun (M 4) (M 3 3).toNat 0 (0, 0, M 5, M 6)).2.2.1 ∧ (prun (M 4) (M 3 3).toNat 0 (0, 0, M 5, M 6)).2.2.1 ≤ 20 := ⟨zrj.2.1, by have zq4 := zrj.2.2.2.1 (by omega); omega⟩
  have zrl := zrj.2.2.2.2
  have znn := clS_nn (prun (M 4) (M 3 3).toNat 0 (0, 0, M 5, M 6)).2.2.2.2 (prun (M 4) (M 3 3).toNat 0 (0, 0, M 5, M 6)).2.2.1.toNat 0
  refine AM.of mt_X7_load (Nat.le_of_ble_eq_true rfl) ?_
  change AW ev true 7 t_X7_load Q 0 [some (vR 0), some (vI f), none] [] M
  refine AW.go pk_X7_load 0 2 rfl rfl ?_
  change AW ev true 7 t_X7_load Q 1 [some (vR 0), some (vI f), none] [vI f] M
  refine AW.callS (d' := 6) [vI f] [] sm_X7_requireCell hX7_74 (okP_d pk_X7_load 1 1 (.invokestatic 74) 3 rfl) (by decide) rfl (Nat.le_of_ble_eq_true rfl) ?_
  refine c_X7_requireCell f (by omega) ?_
  change AW ev true 7 t_X7_load Q 4 [some (vR 0), some (vI f), none] [] M
  refine AW.go pk_X7_load 2 3 rfl rfl ?_
  change AW ev true 7 t_X7_load Q 8 [some (vR 0), some (vI f), none] [vR 3] M
  refine AW.callV (d' := 3) [] [] vm_X1_read rfl hX7_108 (okP_d pk_X7_load 4 8 (.invokevirtual 108) 3 rfl) (by decide) rfl (Nat.le_of_ble_eq_true rfl) ?_
  refine c_X1_read  zp0 zp1 (fun zc3 => ?_)
  · replace zc3 : True := zc3
    change AW ev true 7 t_X7_load Q 11 [some (vR 0), some (vI f), none] [vI ((prun (M 4) (M 3 3).toNat 0 (0, 0, M 5, M 6)).1)] (psM M ((prun (M 4) (M 3 3).toNat 0 (0, 0, M 5, M 6)).2))
    refine AW.go pk_X7_load 5 4 rfl rfl ?_
    change AW ev true 7 t_X7_load Q 16 [some (vR 0), some (vI f), none] [vR 3] (psM M ((prun (M 4) (M 3 3).toNat 0 (0, 0, M 5, M 6)).2))
    refine AW.callV (d' := 0) [] [] vm_X1_isComplete rfl hX7_111 (okP_d pk_X7_load 8 16 (.invokevirtual 111) 3 rfl) (by decide) rfl (Nat.le_of_ble_eq_true rfl) ?_
    refine c_X1_isComplete  zrb (fun w1 zw1 => ?_)
    replace zw1 : (w1 = 0 ∨ w1 = 1) ∧ (w1 = 1 ↔ (((prun (M 4) (M 3 3).toNat 0 (0, 0, M 5, M 6)).2).1) = 1 ∨ (((prun (M 4) (M 3 3).toNat 0 (0, 0, M 5, M 6)).2).1) = 3) := zw1
    replace zw1 : (w1 = 0 ∨ w1 = 1) ∧ (w1 = 1 ↔ ((prun (M 4) (M 3 3).toNat 0 (0, 0, M 5, M 6)).2.1 = 1 ∨ (prun (M 4) (M 3 3).toNat 0 (0, 0, M 5, M 6)).2.1 = 3)) := zw1
    change AW ev true 7 t_X7_load Q 19 [some (vR 0), some (vI f), none] [vI w1] (psM M ((prun (M 4) (M 3 3).toNat 0 (0, 0, M 5, M 6)).2))
    refine AW.go pk_X7_load 9 2 rfl rfl ?_
    refine And.intro (show Inr w1 from ⟨by omega, by omega⟩) (And.intro (fun zh4 => ?_) (fun zh4 => ?_))
    · replace zh4 : w1 ≠ (0 : Int) := zh4
      change AW ev true 7 t_X7_load Q 32 [some (vR 0), some (vI f), none] [] (psM M ((prun (M 4) (M 3 3).toNat 0 (0, 0, M 5, M 6)).2))
      refine AW.go pk_X7_load 15 3 rfl rfl ?_
      change AW ev true 7 t_X7_load Q 36 [some (vR 0), some (vI f), none] [vR 3] (psM M ((prun (M 4) (M 3 3).toNat 0 (0, 0, M 5, M 6)).2))
      refine AW.callV (d' := 2) [] [] vm_X1_cells rfl hX7_120 (okP_d pk_X7_load 17 36 (.invokevirtual 120) 3 rfl) (by decide) rfl (Nat.le_of_ble_eq_true rfl) ?_
      refine c_X1_cells  zrk (fun i q0 q1 => (zrl i q0 q1).2) (fun w2 zw2 => ?_)
      replace zw2 : w2 = clS (prun (M 4) (M 3 3).toNat 0 (0, 0, M 5, M 6)).2.2.2.2 (prun (M 4) (M 3 3).toNat 0 (0, 0, M 5, M 6)).2.2.1.toNat 0 := zw2
      change AW ev true 7 t_X7_load Q 39 [some (vR 0), some (vI f), none] [vI w2] (psM M ((prun (M 4) (M 3 3).toNat 0 (0, 0, M 5, M 6)).2))
      refine AW.go pk_X7_load 18 7 rfl rfl ?_
      refine And.intro (show 2 < mL t_X7_load from (by decide)) ?_
      refine And.intro (show Inr w2 ∧ Inr (144 - f) from ⟨⟨by omega, by omega⟩, ⟨by omega, by omega⟩⟩) (And.intro (fun zh5 => ?_) (fun zh5 => ?_))
      · replace zh5 : w2 ≤ 144 - f := zh5
        exfalso; omega
      · replace zh5 : ¬ (w2 ≤ 144 - f) := zh5
        change AW ev true 7 t_X7_load Q 49 [some (vR 0), some (vI f), some (vI w2)] [] (psM M ((prun (M 4) (M 3 3).toNat 0 (0, 0, M 5, M 6)).2))
        exact AW.thr 4 (by decide) x_7_ISE rfl (by decide) (okP_d pk_X7_load 24 49 (.new 97) 3 rfl) (okP_d pk_X7_load 25 52 (.dup) 1 rfl) (okP_d pk_X7_load 26 53 (.ldc 123) 2 rfl) (okP_d pk_X7_load 27 55 (.invokespecial 101) 3 rfl) (okP_d pk_X7_load 28 58 (.athrow) 1 rfl) zQ
    · replace zh4 : ¬ (w1 ≠ (0 : Int)) := zh4
      exfalso; omega
theorem c_X7_load {ev : Ev} {Q : Out → Mem → Prop} {M : Mem}  (f : Int) (zp0 : 0 ≤ M 3 3 ∧ M 3 3 ≤ 40) (zp1 : ∀ i, 0 ≤ i → i < M 3 3 → 33 ≤ M 4 i ∧ M 4 i ≤ 126) (zp2 : 0 ≤ f ∧ f < 144) (zp3 : ((prun (M 4) (M 3 3).toNat 0 (0, 0, M 5, M 6)).2.1 = 1 ∨ (prun (M 4) (M 3 3).toNat 0 (0, 0, M 5, M 6)).2.1 = 3)) (zp4 : f + clS (prun (M 4) (M 3 3).toNat 0 (0, 0, M 5, M 6)).2.2.2.2 (prun (M 4) (M 3 3).toNat 0 (0, 0, M 5, M 6)).2.2.1.toNat 0 ≤ 144) (zQ : ∀ (r : Int), r = clS (prun (M 4) (M 3 3).toNat 0 (0, 0, M 5, M 6)).2.2.2.2 (prun (M 4) (M 3 3).toNat 0 (0, 0, M 5, M 6)).2.2.1.toNat 0 → Q (.inl (some (vI r))) (upM (stH (psM M (prun (M 4) (M 3 3).toNat 0 (0, 0, M 5, M 6)).2) (cpT (prun (M 4) (M 3 3).toNat 0 (0, 0, M 5, M 6)).2.2.2.1 (prun (M 4) (M 3 3).toNat 0 (0, 0, M 5, M 6)).2.2.2.2 (prun (M 4) (M 3 3).toNat 0 (0, 0, M 5, M 6)).2.2.1.toNat 0 f (M 2))) 3 3 0)) : AM ev false 7 t_X7_load [vR 0, vI f] M Q := by
  have zri : (prun (M 4) (M 3 3).toNat 0 (0, 0, M 5, M 6)).2.1 = 4 ∨ PSI (M 3 3) (prun (M 4) (M 3 3).toNat 0 (0, 0, M 5, M 6)).2 := rdT_I M zp0
  have zrb : -10 ≤ (prun (M 4) (M 3 3).toNat 0 (0, 0, M 5, M 6)).2.1 ∧ (prun (M 4) (M 3 3).toNat 0 (0, 0, M 5, M 6)).2.1 ≤ 10 := zri.elim (fun q => by omega) (fun q => by have zq1 := q.1; omega)
  have zrj : PSI (M 3 3) (prun (M 4) (M 3 3).toNat 0 (0, 0, M 5, M 6)).2 := zri.resolve_left (by omega)
  have zrk : 0 ≤ (prun (M 4) (M 3 3).toNat 0 (0, 0, M 5, M 6)).2.2.1 ∧ (prun (M 4) (M 3 3).toNat 0 (0, 0, M 5, M 6)).2.2.1 ≤ 20 := ⟨zrj.2.1, by have zq4 := zrj.2.2.2.1 (by omega); omega⟩
  have zrl := zrj.2.2.2.2
  have znn := clS_nn (prun (M 4) (M 3 3).toNat 0 (0, 0, M 5, M 6)).2.2.2.2 (prun (M 4) (M 3 3).toNat 0 (0, 0, M 5, M 6)).2.2.1.toNat 0
  refine AM.of mt_X7_load (Nat.le_of_ble_eq_true rfl) ?_
  change AW ev false 7 t_X7_load Q 0 [some (vR 0), some (vI f), none] [] M
  refine AW.go pk_X7_load 0 2 rfl rfl ?_
  change AW ev false 7 t_X7_load Q 1 [some (vR 0), some (vI f), none] [vI f] M
  refine AW.callS (d' := 6) [vI f] [] sm_X7_requireCell hX7_74 (okP_d pk_X7_load 1 1 (.invokestatic 74) 3 rfl) (by decide) rfl (Nat.le_of_ble_eq_true rfl) ?_
  refine c_X7_requireCell f (by omega) ?_
  change AW ev false 7 t_X7_load Q 4 [some (vR 0), some (vI f), none] [] M
  refine AW.go pk_X7_load 2 3 rfl rfl ?_
  change AW ev false 7 t_X7_load Q 8 [some (vR 0), some (vI f), none] [vR 3] M
  refine AW.callV (d' := 3) [] [] vm_X1_read rfl hX7_108 (okP_d pk_X7_load 4 8 (.invokevirtual 108) 3 rfl) (by decide) rfl (Nat.le_of_ble_eq_true rfl) ?_
  refine c_X1_read  zp0 zp1 (fun zc3 => ?_)
  · replace zc3 : True := zc3
    change AW ev false 7 t_X7_load Q 11 [some (vR 0), some (vI f), none] [vI ((prun (M 4) (M 3 3).toNat 0 (0, 0, M 5, M 6)).1)] (psM M ((prun (M 4) (M 3 3).toNat 0 (0, 0, M 5, M 6)).2))
    refine AW.go pk_X7_load 5 4 rfl rfl ?_
    change AW ev false 7 t_X7_load Q 16 [some (vR 0), some (vI f), none] [vR 3] (psM M ((prun (M 4) (M 3 3).toNat 0 (0, 0, M 5, M 6)).2))
    refine AW.callV (d' := 0) [] [] vm_X1_isComplete rfl hX7_111 (okP_d pk_X7_load 8 16 (.invokevirtual 111) 3 rfl) (by decide) rfl (Nat.le_of_ble_eq_true rfl) ?_
    refine c_X1_isComplete  zrb (fun w1 zw1 => ?_)
    replace zw1 : (w1 = 0 ∨ w1 = 1) ∧ (w1 = 1 ↔ (((prun (M 4) (M 3 3).toNat 0 (0, 0, M 5, M 6)).2).1) = 1 ∨ (((prun (M 4) (M 3 3).toNat 0 (0, 0, M 5, M 6)).2).1) = 3) := zw1
    replace zw1 : (w1 = 0 ∨ w1 = 1) ∧ (w1 = 1 ↔ ((prun (M 4) (M 3 3).toNat 0 (0, 0, M 5, M 6)).2.1 = 1 ∨ (prun (M 4) (M 3 3).toNat 0 (0, 0, M 5, M 6)).2.1 = 3)) := zw1
    change AW ev false 7 t_X7_load Q 19 [some (vR 0), some (vI f), none] [vI w1] (psM M ((prun (M 4) (M 3 3).toNat 0 (0, 0, M 5, M 6)).2))
    refine AW.go pk_X7_load 9 2 rfl rfl ?_
    refine And.intro (show Inr w1 from ⟨by omega, by omega⟩) (And.intro (fun zh4 => ?_) (fun zh4 => ?_))
    · replace zh4 : w1 ≠ (0 : Int) := zh4
      change AW ev false 7 t_X7_load Q 32 [some (vR 0), some (vI f), none] [] (psM M ((prun (M 4) (M 3 3).toNat 0 (0, 0, M 5, M 6)).2))
      refine AW.go pk_X7_load 15 3 rfl rfl ?_
      change AW ev false 7 t_X7_load Q 36 [some (vR 0), some (vI f), none] [vR 3] (psM M ((prun (M 4) (M 3 3).toNat 0 (0, 0, M 5, M 6)).2))
      refine AW.callV (d' := 2) [] [] vm_X1_cells rfl hX7_120 (okP_d pk_X7_load 17 36 (.invokevirtual 120) 3 rfl) (by decide) rfl (Nat.le_of_ble_eq_true rfl) ?_
      refine c_X1_cells  zrk (fun i q0 q1 => (zrl i q0 q1).2) (fun w2 zw2 => ?_)
      replace zw2 : w2 = clS (prun (M 4) (M 3 3).toNat 0 (0, 0, M 5, M 6)).2.2.2.2 (prun (M 4) (M 3 3).toNat 0 (0, 0, M 5, M 6)).2.2.1.toNat 0 := zw2
      change AW ev false 7 t_X7_load Q 39 [some (vR 0), some (vI f), none] [vI w2] (psM M ((prun (M 4) (M 3 3).toNat 0 (0, 0, M 5, M 6)).2))
      refine AW.go pk_X7_load 18 7 rfl rfl ?_
      refine And.intro (show 2 < mL t_X7_load from (by decide)) ?_
      refine And.intro (show Inr w2 ∧ Inr (144 - f) from ⟨⟨by omega, by omega⟩, ⟨by omega, by omega⟩⟩) (And.intro (fun zh5 => ?_) (fun zh5 => ?_))
      · replace zh5 : w2 ≤ 144 - f := zh5
        change AW ev false 7 t_X7_load Q 59 [some (vR 0), some (vI f), some (vI w2)] [] (psM M ((prun (M 4) (M 3 3).toNat 0 (0, 0, M 5, M 6)).2))
        refine AW.go pk_X7_load 29 6 rfl rfl ?_
        change AW ev false 7 t_X7_load Q 68 [some (vR 0), some (vI f), some (vI w2)] [vI f, vR 1, vR 3] (psM M ((prun (M 4) (M 3 3).toNat 0 (0, 0, M 5, M 6)).2))
        refine AW.callV (d' := 2) [vR 1, vI f] [] vm_X1_copyTo rfl hX7_125 (okP_d pk_X7_load 34 68 (.invokevirtual 125) 3 rfl) (by decide) rfl (Nat.le_of_ble_eq_true rfl) ?_
        refine c_X1_copyTo f zrk zrl (show 0 ≤ f ∧ f + clS (prun (M 4) (M 3 3).toNat 0 (0, 0, M 5, M 6)).2.2.2.2 (prun (M 4) (M 3 3).toNat 0 (0, 0, M 5, M 6)).2.2.1.toNat 0 ≤ 144 from by omega) ?_
        change AW ev false 7 t_X7_load Q 71 [some (vR 0), some (vI f), some (vI w2)] [] (stH (psM M ((prun (M 4) (M 3 3).toNat 0 (0, 0, M 5, M 6)).2)) (cpT ((psM M ((prun (M 4) (M 3 3).toNat 0 (0, 0, M 5, M 6)).2)) 5) ((psM M ((prun (M 4) (M 3 3).toNat 0 (0, 0, M 5, M 6)).2)) 6) ((psM M ((prun (M 4) (M 3 3).toNat 0 (0, 0, M 5, M 6)).2)) 3 4).toNat 0 f ((psM M ((prun (M 4) (M 3 3).toNat 0 (0, 0, M 5, M 6)).2)) 2)))
        refine AW.go pk_X7_load 35 3 rfl rfl ?_
        change AW ev false 7 t_X7_load Q 75 [some (vR 0), some (vI f), some (vI w2)] [vR 3] (stH (psM M ((prun (M 4) (M 3 3).toNat 0 (0, 0, M 5, M 6)).2)) (cpT ((psM M ((prun (M 4) (M 3 3).toNat 0 (0, 0, M 5, M 6)).2)) 5) ((psM M ((prun (M 4) (M 3 3).toNat 0 (0, 0, M 5, M 6)).2)) 6) ((psM M ((prun (M 4) (M 3 3).toNat 0 (0, 0, M 5, M 6)).2)) 3 4).toNat 0 f ((psM M ((prun (M 4) (M 3 3).toNat 0 (0, 0, M 5, M 6)).2)) 2)))
        refine AW.callV (d' := 0) [] [] vm_X1_clear rfl hX7_107 (okP_d pk_X7_load 37 75 (.invokevirtual 107) 3 rfl) (by decide) rfl (Nat.le_of_ble_eq_true rfl) ?_
        refine c_X1_clear   ?_
        change AW ev false 7 t_X7_load Q 78 [some (vR 0), some (vI f), some (vI w2)] [] (upM (stH (psM M ((prun (M 4) (M 3 3).toNat 0 (0, 0, M 5, M 6)).2)) (cpT ((psM M ((prun (M 4) (M 3 3).toNat 0 (0, 0, M 5, M 6)).2)) 5) ((psM M ((prun (M 4) (M 3 3).toNat 0 (0, 0, M 5, M 6)).2)) 6) ((psM M ((prun (M 4) (M 3 3).toNat 0 (0, 0, M 5, M 6)).2)) 3 4).toNat 0 f ((psM M ((prun (M 4) (M 3 3).toNat 0 (0, 0, M 5, M 6)).2)) 2))) 3 3 0)
        refine AW.go pk_X7_load 38 2 rfl rfl ?_
        refine And.intro rfl ?_
        exact zQ w2 zw2
      · replace zh5 : ¬ (w2 ≤ 144 - f) := zh5
        exfalso; omega
    · replace zh4 : ¬ (w1 ≠ (0 : Int)) := zh4
      exfalso; omega
