theorem c_X7_hill {ev : Ev} {Q : Out → Mem → Prop} {M : Mem}  (c : Int) (v : Int) (w : Int) (zp0 : 0 ≤ c ∧ c < 144) (zp1 : 1 ≤ v ∧ v ≤ 500) (zp2 : 0 ≤ w ∧ w ≤ 11) (zp3 : TInv M) (zQ : ∀ (r : Int), r = hlC (M 2) c v w 144 0 0 → Q (.inl (some (vI r))) (hlM M 2 c v w 144)) : AM ev false 7 t_X7_hill [vR 0, vI c, vI v, vI w] M Q := by
  refine AM.of mt_X7_hill (Nat.le_of_ble_eq_true rfl) ?_
  change AW ev false 7 t_X7_hill Q 0 [some (vR 0), some (vI c), some (vI v), some (vI w)] [] M
  refine AW.go pk_X7_hill 0 2 rfl rfl ?_
  change AW ev false 7 t_X7_hill Q 1 [some (vR 0), some (vI c), some (vI v), some (vI w)] [vI c] M
  refine AW.callS (d' := 6) [vI c] [] sm_X7_requireCell hX7_74 (okP_d pk_X7_hill 1 1 (.invokestatic 74) 3 rfl) (by decide) rfl (Nat.le_of_ble_eq_true rfl) ?_
  refine c_X7_requireCell c (by omega) ?_
  change AW ev false 7 t_X7_hill Q 4 [some (vR 0), some (vI c), some (vI v), some (vI w)] [] M
  refine AW.go pk_X7_hill 2 4 rfl rfl ?_
  change AW ev false 7 t_X7_hill Q 9 [some (vR 0), some (vI c), some (vI v), some (vI w)] [vI 500, vI 1, vI v] M
  refine AW.callS (d' := 6) [vI v, vI 1, vI 500] [] sm_X7_requireRange hX7_78 (okP_d pk_X7_hill 5 9 (.invokestatic 78) 3 rfl) (by decide) rfl (Nat.le_of_ble_eq_true rfl) ?_
  refine c_X7_requireRange v 1 500 (by omega) (by omega) (by omega) (by omega) ?_
  change AW ev false 7 t_X7_hill Q 12 [some (vR 0), some (vI c), some (vI v), some (vI w)] [] M
  refine AW.go pk_X7_hill 6 4 rfl rfl ?_
  change AW ev false 7 t_X7_hill Q 16 [some (vR 0), some (vI c), some (vI v), some (vI w)] [vI 11, vI 0, vI w] M
  refine AW.callS (d' := 6) [vI w, vI 0, vI 11] [] sm_X7_requireRange hX7_78 (okP_d pk_X7_hill 9 16 (.invokestatic 78) 3 rfl) (by decide) rfl (Nat.le_of_ble_eq_true rfl) ?_
  refine c_X7_requireRange w 0 11 (by omega) (by omega) (by omega) (by omega) ?_
  change AW ev false 7 t_X7_hill Q 19 [some (vR 0), some (vI c), some (vI v), some (vI w)] [] M
  refine AW.go pk_X7_hill 10 6 rfl rfl ?_
  change AW ev false 7 t_X7_hill Q 26 [some (vR 0), some (vI c), some (vI v), some (vI w)] [vI w, vI v, vI c, vR 1] M
  refine AW.callV (d' := 2) [vI c, vI v, vI w] [] vm_X5_raise rfl hX7_90 (okP_d pk_X7_hill 15 26 (.invokevirtual 90) 3 rfl) (by decide) rfl (Nat.le_of_ble_eq_true rfl) ?_
  refine c_X5_raise c v w (by omega) (by omega) (by omega) zp3 (fun zr4 zzr4 => ?_)
  change AW ev false 7 t_X7_hill Q 29 [some (vR 0), some (vI c), some (vI v), some (vI w)] [vI zr4] (hlM M 2 c v w 144)
  refine AW.go pk_X7_hill 16 1 rfl rfl ?_
  refine And.intro rfl ?_
  exact zQ zr4 (by first | rfl | omega)
theorem c_X7_hill_x1 {ev : Ev} {Q : Out → Mem → Prop} {M : Mem}  (c : Int) (v : Int) (w : Int) (zp0 : -2147483648 ≤ c ∧ c < 2147483648) (zp1 : -2147483648 ≤ v ∧ v < 2147483648) (zp2 : -2147483648 ≤ w ∧ w < 2147483648) (zp3 : ¬ (0 ≤ c ∧ c < 144)) (zQ : Q (.inr "java/lang/IndexOutOfBoundsException") M) : AM ev true 7 t_X7_hill [vR 0, vI c, vI v, vI w] M Q := by
  refine AM.of mt_X7_hill (Nat.le_of_ble_eq_true rfl) ?_
  change AW ev true 7 t_X7_hill Q 0 [some (vR 0), some (vI c), some (vI v), some (vI w)] [] M
  refine AW.go pk_X7_hill 0 2 rfl rfl ?_
  change AW ev true 7 t_X7_hill Q 1 [some (vR 0), some (vI c), some (vI v), some (vI w)] [vI c] M
  refine AW.callST (d' := 6) [vI c] [] sm_X7_requireCell hX7_74 (okP_d pk_X7_hill 1 1 (.invokestatic 74) 3 rfl) (by decide) rfl (Nat.le_of_ble_eq_true rfl) ?_
  exact c_X7_requireCell_x c (by omega) (by omega) zQ
theorem c_X7_hill_x2 {ev : Ev} {Q : Out → Mem → Prop} {M : Mem}  (c : Int) (v : Int) (w : Int) (zp0 : -2147483648 ≤ c ∧ c < 2147483648) (zp1 : -2147483648 ≤ v ∧ v < 2147483648) (zp2 : -2147483648 ≤ w ∧ w < 2147483648) (zp3 : 0 ≤ c ∧ c < 144) (zp4 : ¬ (1 ≤ v ∧ v ≤ 500)) (zQ : Q (.inr "java/lang/IllegalArgumentException") M) : AM ev true 7 t_X7_hill [vR 0, vI c, vI v, vI w] M Q := by
  refine AM.of mt_X7_hill (Nat.le_of_ble_eq_true rfl) ?_
  change AW ev true 7 t_X7_hill Q 0 [some (vR 0), some (vI c), some (vI v), some (vI w)] [] M
  refine AW.go pk_X7_hill 0 2 rfl rfl ?_
  change AW ev true 7 t_X7_hill Q 1 [some (vR 0), some (vI c), some (vI v), some (vI w)] [vI c] M
  refine AW.callS (d' := 6) [vI c] [] sm_X7_requireCell hX7_74 (okP_d pk_X7_hill 1 1 (.invokestatic 74) 3 rfl) (by decide) rfl (Nat.le_of_ble_eq_true rfl) ?_
  refine c_X7_requireCell c (by omega) ?_
  change AW ev true 7 t_X7_hill Q 4 [some (vR 0), some (vI c), some (vI v), some (vI w)] [] M
  refine AW.go pk_X7_hill 2 4 rfl rfl ?_
  change AW ev true 7 t_X7_hill Q 9 [some (vR 0), some (vI c), some (vI v), some (vI w)] [vI 500, vI 1, vI v] M
  refine AW.callST (d' := 6) [vI v, vI 1, vI 500] [] sm_X7_requireRange hX7_78 (okP_d pk_X7_hill 5 9 (.invokestatic 78) 3 rfl) (by decide) rfl (Nat.le_of_ble_eq_true rfl) ?_
  exact c_X7_requireRange_x v 1 500 (by omega) (by omega) (by omega) (by omega) zQ
theorem c_X7_hill_x3 {ev : Ev} {Q : Out → Mem → Prop} {M : Mem}  (c : Int) (v : Int) (w : Int) (zp0 : -2147483648 ≤ c ∧ c < 2147483648) (zp1 : -2147483648 ≤ v ∧ v < 2147483648) (zp2 : -2147483648 ≤ w ∧ w < 2147483648) (zp3 : 0 ≤ c ∧ c < 144) (zp4 : 1 ≤ v ∧ v ≤ 500) (zp5 : ¬ (0 ≤ w ∧ w ≤ 11)) (zQ : Q (.inr "java/lang/IllegalArgumentException") M) : AM ev true 7 t_X7_hill [vR 0, vI c, vI v, vI w] M Q := by
  refine AM.of mt_X7_hill (Nat.le_of_ble_eq_true rfl) ?_
  change AW ev true 7 t_X7_hill Q 0 [some (vR 0), some (vI c), some (vI v), some (vI w)] [] M
  refine AW.go pk_X7_hill 0 2 rfl rfl ?_
  change AW ev true 7 t_X7_hill Q 1 [some (vR 0), some (vI c), some (vI v), some (vI w)] [vI c] M
  refine AW.callS (d' := 6) [vI c] [] sm_X7_requireCell hX7_74 (okP_d pk_X7_hill 1 1 (.invokestatic 74) 3 rfl) (by decide) rfl (Nat.le_of_ble_eq_true rfl) ?_
  refine c_X7_requireCell c (by omega) ?_
  change AW ev true 7 t_X7_hill Q 4 [some (vR 0), some (vI c), some (vI v), some (vI w)] [] M
  refine AW.go pk_X7_hill 2 4 rfl rfl ?_
  change AW ev true 7 t_X7_hill Q 9 [some (vR 0), some (vI c), some (vI v), some (vI w)] [vI 500, vI 1, vI v] M
  refine AW.callS (d' := 6) [vI v, vI 1, vI 500] [] sm_X7_requireRange hX7_78 (okP_d pk_X7_hill 5 9 (.invokestatic 78) 3 rfl) (by decide) rfl (Nat.le_of_ble_eq_true rfl) ?_
  refine c_X7_requireRange v 1 500 (by omega) (by omega) (by omega) (by omega) ?_
  change AW ev true 7 t_X7_hill Q 12 [some (vR 0), some (vI c), some (vI v), some (vI w)] [] M
  refine AW.go pk_X7_hill 6 4 rfl rfl ?_
  change AW ev true 7 t_X7_hill Q 16 [some (vR 0), some (vI c), some (vI v), some (vI w)] [vI 11, vI 0, vI w] M
  refine AW.callST (d' := 6) [vI w, vI 0, vI 11] [] sm_X7_requireRange hX7_78 (okP_d pk_X7_hill 9 16 (.invokestatic 78) 3 rfl) (by decide) rfl (Nat.le_of_ble_eq_true rfl) ?_
  exact c_X7_requireRange_x w 0 11 (by omega) (by omega) (by omega) (by omega) zQ
theorem c_X7_append {ev : Ev} {Q : Out → Mem → Prop} {M : Mem}  (c : Int) (zp0 : 33 ≤ c ∧ c ≤ 126) (zp1 : 0 ≤ M 3 3 ∧ M 3 3 < 40) (zQ : ∀ (r : Int), r = M 3 3 + 1 → Q (.inl (some (vI r))) (upM (upM M 4 (M 3 3) c) 3 3 (M 3 3 + 1))) : AM ev false 7 t_X7_append [vR 0, vI c] M Q := by
  refine AM.of mt_X7_append (Nat.le_of_ble_eq_true rfl) ?_
  change AW ev false 7 t_X7_append Q 0 [some (vR 0), some (vI c)] [] M
  refine AW.go pk_X7_append 0 4 rfl rfl ?_
  change AW ev false 7 t_X7_append Q 5 [some (vR 0), some (vI c)] [vI 126, vI 33, vI c] M
  refine AW.callS (d' := 6) [vI c, vI 33, vI 126] [] sm_X7_requireRange hX7_78 (okP_d pk_X7_append 3 5 (.invokestatic 78) 3 rfl) (by decide) rfl (Nat.le_of_ble_eq_true rfl) ?_
  refine c_X7_requireRange c 33 126 (by omega) (by omega) (by omega) (by omega) ?_
  change AW ev false 7 t_X7_append Q 8 [some (vR 0), some (vI c)] [] M
  refine AW.go pk_X7_append 4 3 rfl rfl ?_
  change AW ev false 7 t_X7_append Q 12 [some (vR 0), some (vI c)] [vR 3] M
  refine AW.callV (d' := 0) [] [] vm_X1_length rfl hX7_94 (okP_d pk_X7_append 6 12 (.invokevirtual 94) 3 rfl) (by decide) rfl (Nat.le_of_ble_eq_true rfl) ?_
  refine c_X1_length   (fun zr2 zzr2 => ?_)
  change AW ev false 7 t_X7_append Q 15 [some (vR 0), some (vI c)] [vI zr2] M
  refine AW.go pk_X7_append 7 3 rfl rfl ?_
  refine And.intro (show Inr zr2 ∧ Inr 40 from ⟨⟨by omega, by omega⟩, ⟨by omega, by omega⟩⟩) (And.intro (fun zh3 => ?_) (fun zh3 => ?_))
  · replace zh3 : zr2 < (40 : Int) := zh3
    change AW ev false 7 t_X7_append Q 30 [some (vR 0), some (vI c)] [] M
    refine AW.go pk_X7_append 14 4 rfl rfl ?_
    change AW ev false 7 t_X7_append Q 35 [some (vR 0), some (vI c)] [vI c, vR 3] M
    refine AW.callV (d' := 0) [vI c] [] vm_X1_add rfl hX7_104 (okP_d pk_X7_append 17 35 (.invokevirtual 104) 3 rfl) (by decide) rfl (Nat.le_of_ble_eq_true rfl) ?_
    refine c_X1_add c (by omega) ?_
    change AW ev false 7 t_X7_append Q 38 [some (vR 0), some (vI c)] [] (upM (upM M 4 (M 3 3) c) 3 3 (M 3 3 + 1))
    refine AW.go pk_X7_append 18 3 rfl rfl ?_
    change AW ev false 7 t_X7_append Q 42 [some (vR 0), some (vI c)] [vR 3] (upM (upM M 4 (M 3 3) c) 3 3 (M 3 3 + 1))
    refine AW.callV (d' := 0) [] [] vm_X1_length rfl hX7_94 (okP_d pk_X7_append 20 42 (.invokevirtual 94) 3 rfl) (by decide) rfl (Nat.le_of_ble_eq_true rfl) ?_
    refine c_X1_length   (fun w1 zw1 => ?_)
    replace zw1 : w1 = ((upM (upM M 4 (M 3 3) c) 3 3 (M 3 3 + 1)) 3 3) := zw1
    replace zw1 : w1 = M 3 3 + 1 := zw1
    change AW ev false 7 t_X7_append Q 45 [some (vR 0), some (vI c)] [vI w1] (upM (upM M 4 (M 3 3) c) 3 3 (M 3 3 + 1))
    refine AW.go pk_X7_append 21 1 rfl rfl ?_
    refine And.intro rfl ?_
    exact zQ w1 (by first | rfl | omega)
  · replace zh3 : ¬ (zr2 < (40 : Int)) := zh3
    exfalso; omega
theorem c_X7_append_x1 {ev : Ev} {Q : Out → Mem → Prop} {M : Mem}  (c : Int) (zp0 : -2147483648 ≤ c ∧ c < 2147483648) (zp1 : ¬ (33 ≤ c ∧ c ≤ 126)) (zQ : Q (.inr "java/lang/IllegalArgumentException") M) : AM ev true 7 t_X7_append [vR 0, vI c] M Q := by
  refine AM.of mt_X7_append (Nat.le_of_ble_eq_true rfl) ?_
  change AW ev true 7 t_X7_append Q 0 [some (vR 0), some (vI c)] [] M
  refine AW.go pk_X7_append 0 4 rfl rfl ?_
  change AW ev true 7 t_X7_append Q 5 [some (vR 0), some (vI c)] [vI 126, vI 33, vI c] M
  refine AW.callST (d' := 6) [vI c, vI 33, vI 126] [] sm_X7_requireRange hX7_78 (okP_d pk_X7_append 3 5 (.invokestatic 78) 3 rfl) (by decide) rfl (Nat.le_of_ble_eq_true rfl) ?_
  exact c_X7_requireRange_x c 33 126 (by omega) (by omega) (by omega) (by omega) zQ
theorem c_X7_append_x2 {ev : Ev} {Q : Out → Mem → Prop} {M : Mem}  (c : Int) (zp0 : 33 ≤ c ∧ c ≤ 126) (zp1 : M 3 3 = 40) (zQ : Q (.inr "java/lang/IllegalStateException") M) : AM ev true 7 t_X7_append [vR 0, vI c] M Q := by
  refine AM.of mt_X7_append (Nat.le_of_ble_eq_true rfl) ?_
  change AW ev true 7 t_X7_append Q 0 [some (vR 0), some (vI c)] [] M
  refine AW.go pk_X7_append 0 4 rfl rfl ?_
  change AW ev true 7 t_X7_append Q 5 [some (vR 0), some (vI c)] [vI 126, vI 33, vI c] M
  refine AW.callS (d' := 6) [vI c, vI 33, vI 126] [] sm_X7_requireRange hX7_78 (okP_d pk_X7_append 3 5 (.invokestatic 78) 3 rfl) (by decide) rfl (Nat.le_of_ble_eq_true rfl) ?_
  refine c_X7_requireRange c 33 126 (by omega) (by omega) (by omega) (by omega) ?_
  change AW ev true 7 t_X7_append Q 8 [some (vR 0), some (vI c)] [] M
  refine AW.go pk_X7_append 4 3 rfl rfl ?_
  change AW ev true 7 t_X7_append Q 12 [some (vR 0), some (vI c)] [vR 3] M
  refine AW.callV (d' := 0) [] [] vm_X1_length rfl hX7_94 (okP_d pk_X7_append 6 12 (.invokevirtual 94) 3 rfl) (by decide) rfl (Nat.le_of_ble_eq_true rfl) ?_
  refine c_X1_length   (fun zr2 zzr2 => ?_)
  change AW ev true 7 t_X7_append Q 15 [some (vR 0), some (vI c)] [vI zr2] M
  refine AW.go pk_X7_append 7 3 rfl rfl ?_
  refine And.intro (show Inr zr2 ∧ Inr 40 from ⟨⟨by omega, by omega⟩, ⟨by omega, by omega⟩⟩) (And.intro (fun zh3 => ?_) (fun zh3 => ?_))
  · replace zh3 : zr2 < (40 : Int) := zh3
    exfalso; omega
  · replace zh3 : ¬ (zr2 < (40 : Int)) := zh3
    change AW ev true 7 t_X7_append Q 20 [some (vR 0), some (vI c)] [] M
    exact AW.thr 2 (by decide) x_7_ISE rfl (by decide) (okP_d pk_X7_append 9 20 (.new 97) 3 rfl) (okP_d pk_X7_append 10 23 (.dup) 1 rfl) (okP_d pk_X7_append 11 24 (.ldc 99) 2 rfl) (okP_d pk_X7_append 12 26 (.invokespecial 101) 3 rfl) (okP_d pk_X7_append 13 29 (.athrow) 1 rfl) zQ
theorem c_X7_clearBuffer {ev : Ev} {Q : Out → Mem → Prop} {M : Mem}    (zQ : ∀ (r : Int), r = M 3 3 → Q (.inl (some (vI r))) (upM M 3 3 0)) : AM ev false 1 t_X7_clearBuffer [vR 0] M Q := by
  refine AM.of mt_X7_clearBuffer (Nat.le_of_ble_eq_true rfl) ?_
  change AW ev false 1 t_X7_clearBuffer Q 0 [some (vR 0), none] [] M
  refine AW.go pk_X7_clearBuffer 0 3 rfl rfl ?_
  change AW ev false 1 t_X7_clearBuffer Q 4 [some (vR 0), none] [vR 3] M
  refine AW.callV (d' := 0) [] [] vm_X1_length rfl hX7_94 (okP_d pk_X7_clearBuffer 2 4 (.invokevirtual 94) 3 rfl) (by decide) rfl (Nat.le_of_ble_eq_true rfl) ?_
  refine c_X1_length   (fun zr1 zzr1 => ?_)
  change AW ev false 1 t_X7_clearBuffer Q 7 [some (vR 0), none] [vI zr1] M
  refine AW.go pk_X7_clearBuffer 3 4 rfl rfl ?_
  refine And.intro (show 1 < mL t_X7_clearBuffer from (by decide)) ?_
  change AW ev false 1 t_X7_clearBuffer Q 12 [some (vR 0), some (vI zr1)] [vR 3] M
  refine AW.callV (d' := 0) [] [] vm_X1_clear rfl hX7_107 (okP_d pk_X7_clearBuffer 6 12 (.invokevirtual 107) 3 rfl) (by decide) rfl (Nat.le_of_ble_eq_true rfl) ?_
  refine c_X1_clear   ?_
  change AW ev false 1 t_X7_clearBuffer Q 15 [some (vR 0), some (vI zr1)] [] (upM M 3 3 0)
  refine AW.go pk_X7_clearBuffer 7 2 rfl rfl ?_
  refine And.intro rfl ?_
  exact zQ zr1 (by first | rfl | omega)
theorem c_X7_addStation {ev : Ev} {Q : Out → Mem → Prop} {M : Mem}  (c : Int) (v : Int) (w : Int) (zp0 : SInv M) (zp1 : 0 ≤ c ∧ c < 144) (zp2 : 0 ≤ v ∧ v ≤ 50) (zp3 : 1 ≤ w ∧ w ≤ 2) (zp4 : ¬ (∃ i, 0 ≤ i ∧ i < M 7 3 ∧ M 8 i = c)) (zp5 : M 7 3 < 8) (zQ : ∀ (r : Int), r = M 7 3 → Q (.inl (some (vI r))) (upM (upM (upM (upM M 8 (M 7 3) c) 9 (M 7 3) v) 10 (M 7 3) w) 7 3 (M 7 3 + 1))) : AM ev false 7 t_X7_addStation [vR 0, vI c, vI v, vI w] M Q := by
  have zs := zp0.1
  refine AM.of mt_X7_addStation (Nat.le_of_ble_eq_true rfl) ?_
  change AW ev false 7 t_X7_addStation Q 0 [some (vR 0), some (vI c), some (vI v), some (vI w)] [] M
  refine AW.go pk_X7_addStation 0 2 rfl rfl ?_
  change AW ev false 7 t_X7_addStation Q 1 [some (vR 0), some (vI c), some (vI v), some (vI w)] [vI c] M
  refine AW.callS (d' := 6) [vI c] [] sm_X7_requireCell hX7_74 (okP_d pk_X7_addStation 1 1 (.invokestatic 74) 3 rfl) (by decide) rfl (Nat.le_of_ble_eq_true rfl) ?_
  refine c_X7_requireCell c (by omega) ?_
  change AW ev false 7 t_X7_addStation Q 4 [some (vR 0), some (vI c), some (vI v), some (vI w)] [] M
  refine AW.go pk_X7_addStation 2 4 rfl rfl ?_
  change AW ev false 7 t_X7_addStation Q 8 [some (vR 0), some (vI c), some (vI v), some (vI w)] [vI 50, vI 0, vI v] M
  refine AW.callS (d' := 6) [vI v, vI 0, vI 50] [] sm_X7_requireRange hX7_78 (okP_d pk_X7_addStation 5 8 (.invokestatic 78) 3 rfl) (by decide) rfl (Nat.le_of_ble_eq_true rfl) ?_
  refine c_X7_requireRange v 0 50 (by omega) (by omega) (by omega) (by omega) ?_
  change AW ev false 7 t_X7_addStation Q 11 [some (vR 0), some (vI c), some (vI v), some (vI w)] [] M
  refine AW.go pk_X7_addStation 6 4 rfl rfl ?_
  change AW ev false 7 t_X7_addStation Q 14 [some (vR 0), some (vI c), some (vI v), some (vI w)] [vI 2, vI 1, vI w] M
  refine AW.callS (d' := 6) [vI w, vI 1, vI 2] [] sm_X7_requireRange hX7_78 (okP_d pk_X7_addStation 9 14 (.invokestatic 78) 3 rfl) (by decide) rfl (Nat.le_of_ble_eq_true rfl) ?_
  refine c_X7_requireRange w 1 2 (by omega) (by omega) (by omega) (by omega) ?_
  change AW ev false 7 t_X7_addStation Q 17 [some (vR 0), some (vI c), some (vI v), some (vI w)] [] M
  refine AW.go pk_X7_addStation 10 4 rfl rfl ?_
  change AW ev false 7 t_X7_addStation Q 22 [some (vR 0), some (vI c), some (vI v), some (vI w)] [vI c, vR 7] M
  refine AW.callV (d' := 0) [vI c] [] vm_X4_isTaken rfl hX7_129 (okP_d pk_X7_addStation 13 22 (.invokevirtual 129) 3 rfl) (by decide) rfl (Nat.le_of_ble_eq_true rfl) ?_
  refine c_X4_isTaken c zp0 (by omega) (fun w1 zw1 => ?_)
  change AW ev false 7 t_X7_addStation Q 25 [some (vR 0), some (vI c), some (vI v), some (vI w)] [vI w1] M
  refine AW.go pk_X7_addStation 14 2 rfl rfl ?_
  refine And.intro (show Inr w1 from ⟨by omega, by omega⟩) (And.intro (fun zh4 => ?_) (fun zh4 => ?_))
  · replace zh4 : w1 = (0 : Int) := zh4
    change AW ev false 7 t_X7_addStation Q 38 [some (vR 0), some (vI c), some (vI v), some (vI w)] [] M
    refine AW.go pk_X7_addStation 20 3 rfl rfl ?_
    change AW ev false 7 t_X7_addStation Q 42 [some (vR 0), some (vI c), some (vI v), some (vI w)] [vR 7] M
    refine AW.callV (d' := 0) [] [] vm_X4_size rfl hX7_62 (okP_d pk_X7_addStation 22 42 (.invokevirtual 62) 3 rfl) (by decide) rfl (Nat.le_of_ble_eq_true rfl) ?_
    refine c_X4_size   (fun zr5 zzr5 => ?_)
    change AW ev false 7 t_X7_addStation Q 45 [some (vR 0), some (vI c), some (vI v), some (vI w)] [vI zr5] M
    refine AW.go pk_X7_addStation 23 3 rfl rfl ?_
    refine And.intro (show Inr zr5 ∧ Inr 8 from ⟨⟨by omega, by omega⟩, ⟨by omega, by omega⟩⟩) (And.intro (fun zh6 => ?_) (fun zh6 => ?_))
    · replace zh6 : zr5 < (8 : Int) := zh6
      change AW ev false 7 t_X7_addStation Q 60 [some (vR 0), some (vI c), some (vI v), some (vI w)] [] M
      refine AW.go pk_X7_addStation 30 6 rfl rfl ?_
      change AW ev false 7 t_X7_addStation Q 67 [some (vR 0), some (vI c), some (vI v), some (vI w)] [vI w, vI v, vI c, vR 7] M
      refine AW.callV (d' := 0) [vI c, vI v, vI w] [] vm_X4_add rfl hX7_137 (okP_d pk_X7_addStation 35 67 (.invokevirtual 137) 3 rfl) (by decide) rfl (Nat.le_of_ble_eq_true rfl) ?_
      refine c_X4_add c v w (by omega) (fun zr7 zzr7 => ?_)
      change AW ev false 7 t_X7_addStation Q 70 [some (vR 0), some (vI c), some (vI v), some (vI w)] [vI zr7] (upM (upM (upM (upM M 8 (M 7 3) c) 9 (M 7 3) v) 10 (M 7 3) w) 7 3 (M 7 3 + 1))
      refine AW.go pk_X7_addStation 36 1 rfl rfl ?_
      refine And.intro rfl ?_
      exact zQ zr7 (by first | rfl | omega)
    · replace zh6 : ¬ (zr5 < (8 : Int)) := zh6
      exfalso; omega
  · replace zh4 : ¬ (w1 = (0 : Int)) := zh4
    exfalso; exact zp4 (zw1.2.mp (by omega))
theorem c_X7_addStation_x1 {ev : Ev} {Q : Out → Mem → Prop} {M : Mem}  (c : Int) (v : Int) (w : Int) (zp0 : -2147483648 ≤ c ∧ c < 2147483648) (zp1 : -2147483648 ≤ v ∧ v < 2147483648) (zp2 : -2147483648 ≤ w ∧ w < 2147483648) (zp3 : ¬ (0 ≤ c ∧ c < 144)) (zQ : Q (.inr "java/lang/IndexOutOfBoundsException") M) : AM ev true 7 t_X7_addStation [vR 0, vI c, vI v, vI w] M Q := by
  refine AM.of mt_X7_addStation (Nat.le_of_ble_eq_true rfl) ?_
  change AW ev true 7 t_X7_addStation Q 0 [some (vR 0), some (vI c), some (vI v), some (vI w)] [] M
  refine AW.go pk_X7_addStation 0 2 rfl rfl ?_
  change AW ev true 7 t_X7_addStation Q 1 [some (vR 0), some (vI c), some (vI v), some (vI w)] [vI c] M
  refine AW.callST (d' := 6) [vI c] [] sm_X7_requireCell hX7_74 (okP_d pk_X7_addStation 1 1 (.invokestatic 74) 3 rfl) (by decide) rfl (Nat.le_of_ble_eq_true rfl) ?_
  exact c_X7_requireCell_x c (by omega) (by omega) zQ
theorem c_X7_addStation_x2 {ev : Ev} {Q : Out → Mem → Prop} {M : Mem}  (c : Int) (v : Int) (w : Int) (zp0 : -2147483648 ≤ c ∧ c < 2147483648) (zp1 : -2147483648 ≤ v ∧ v < 2147483648) (zp2 : -2147483648 ≤ w ∧ w < 2147483648) (zp3 : 0 ≤ c ∧ c < 144) (zp4 : ¬ (0 ≤ v ∧ v ≤ 50)) (zQ : Q (.inr "java/lang/IllegalArgumentException") M) : AM ev true 7 t_X7_addStation [vR 0, vI c, vI v, vI w] M Q := by
  refine AM.of mt_X7_addStation (Nat.le_of_ble_eq_true rfl) ?_
  change AW ev true 7 t_X7_addStation Q 0 [some (vR 0), some (vI c), some (vI v), some (vI w)] [] M
  refine AW.go pk_X7_addStation 0 2 rfl rfl ?_
  change AW ev true 7 t_X7_addStation Q 1 [some (vR 0), some (vI c), some (vI v), some (vI w)] [vI c] M
  refine AW.callS (d' := 6) [vI c] [] sm_X7_requireCell hX7_74 (okP_d pk_X7_addStation 1 1 (.invokestatic 74) 3 rfl) (by decide) rfl (Nat.le_of_ble_eq_true rfl) ?_
  refine c_X7_requireCell c (by omega) ?_
  change AW ev true 7 t_X7_addStation Q 4 [some (vR 0), some (vI c), some (vI v), some (vI w)] [] M
  refine AW.go pk_X7_addStation 2 4 rfl rfl ?_
  change AW ev true 7 t_X7_addStation Q 8 [some (vR 0), some (vI c), some (vI v), some (vI w)] [vI 50, vI 0, vI v] M
  refine AW.callST (d' := 6) [vI v, vI 0, vI 50] [] sm_X7_requireRange hX7_78 (okP_d pk_X7_addStation 5 8 (.invokestatic 78) 3 rfl) (by decide) rfl (Nat.le_of_ble_eq_true rfl) ?_
  exact c_X7_requireRange_x v 0 50 (by omega) (by omega) (by omega) (by omega) zQ
theorem c_X7_addStation_x3 {ev : Ev} {Q : Out → Mem → Prop} {M : Mem}  (c : Int) (v : Int) (w : Int) (zp0 : -2147483648 ≤ c ∧ c < 2147483648) (zp1 : -2147483648 ≤ v ∧ v < 2147483648) (zp2 : -2147483648 ≤ w ∧ w < 2147483648) (zp3 : 0 ≤ c ∧ c < 144) (zp4 : 0 ≤ v ∧ v ≤ 50) (zp5 : ¬ (1 ≤ w ∧ w ≤ 2)) (zQ : Q (.inr "java/lang/IllegalArgumentException") M) : AM ev true 7 t_X7_addStation [vR 0, vI c, vI v, vI w] M Q := by
  refine AM.of mt_X7_addStation (Nat.le_of_ble_eq_true rfl) ?_
  change AW ev true 7 t_X7_addStation Q 0 [some (vR 0), some (vI c), some (vI v), some (vI w)] [] M
  refine AW.go pk_X7_addStation 0 2 rfl rfl ?_
  change AW ev true 7 t_X7_addStation Q 1 [some (vR 0), some (vI c), some (vI v), some (vI w)] [vI c] M
  refine AW.callS (d' := 6) [vI c] [] sm_X7_requireCell hX7_74 (okP_d pk_X7_addStation 1 1 (.invokestatic 74) 3 rfl) (by decide) rfl (Nat.le_of_ble_eq_true rfl) ?_
  refine c_X7_requireCell c (by omega) ?_
  change AW ev true 7 t_X7_addStation Q 4 [some (vR 0), some (vI c), some (vI v), some (vI w)] [] M
  refine AW.go pk_X7_addStation 2 4 rfl rfl ?_
  change AW ev true 7 t_X7_addStation Q 8 [some (vR 0), some (vI c), some (vI v), some (vI w)] [vI 50, vI 0, vI v] M
  refine AW.callS (d' := 6) [vI v, vI 0, vI 50] [] sm_X7_requireRange hX7_78 (okP_d pk_X7_addStation 5 8 (.invokestatic 78) 3 rfl) (by decide) rfl (Nat.le_of_ble_eq_true rfl) ?_
  refine c_X7_requireRange v 0 50 (by omega) (by omega) (by omega) (by omega) ?_
  change AW ev true 7 t_X7_addStation Q 11 [some (vR 0), some (vI c), some (vI v), some (vI w)] [] M
  refine AW.go pk_X7_addStation 6 4 rfl rfl ?_
  change AW ev true 7 t_X7_addStation Q 14 [some (vR 0), some (vI c), some (vI v), some (vI w)] [vI 2, vI 1, vI w] M
  refine AW.callST (d' := 6) [vI w, vI 1, vI 2] [] sm_X7_requireRange hX7_78 (okP_d pk_X7_addStation 9 14 (.invokestatic 78) 3 rfl) (by decide) rfl (Nat.le_of_ble_eq_true rfl) ?_
  exact c_X7_requireRange_x w 1 2 (by omega) (by omega) (by omega) (by omega) zQ
theorem c_X7_addStation_x4 {ev : Ev} {Q : Out → Mem → Prop} {M : Mem}  (c : Int) (v : Int) (w : Int) (zp0 : SInv M) (zp1 : 0 ≤ c ∧ c < 144) (zp2 : 0 ≤ v ∧ v ≤ 50) (zp3 : 1 ≤ w ∧ w ≤ 2) (zp4 : ∃ i, 0 ≤ i ∧ i < M 7 3 ∧ M 8 i = c) (zQ : Q (.inr "java/lang/IllegalStateException") M) : AM ev true 7 t_X7_addStation [vR 0, vI c, vI v, vI w] M Q := by
  have zs := zp0.1
  refine AM.of mt_X7_addStation (Nat.le_of_ble_eq_true rfl) ?_
  change AW ev true 7 t_X7_addStation Q 0 [some (vR 0), some (vI c), some (vI v), some (vI w)] [] M
  refine AW.go pk_X7_addStation 0 2 rfl rfl ?_
  change AW ev true 7 t_X7_addStation Q 1 [some (vR 0), some (vI c), some (vI v), some (vI w)] [vI c] M
  refine AW.callS (d' := 6) [vI c] [] sm_X7_requireCell hX7_74 (okP_d pk_X7_addStation 1 1 (.invokestatic 74) 3 rfl) (by decide) rfl (Nat.le_of_ble_eq_true rfl) ?_
  refine c_X7_requireCell c (by omega) ?_
  change AW ev true 7 t_X7_addStation Q 4 [some (vR 0), some (vI c), some (vI v), some (vI w)] [] M
  refine AW.go pk_X7_addStation 2 4 rfl rfl ?_
  change AW ev true 7 t_X7_addStation Q 8 [some (vR 0), some (vI c), some (vI v), some (vI w)] [vI 50, vI 0, vI v] M
  refine AW.callS (d' := 6) [vI v, vI 0, vI 50] [] sm_X7_requireRange hX7_78 (okP_d pk_X7_addStation 5 8 (.invokestatic 78) 3 rfl) (by decide) rfl (Nat.le_of_ble_eq_true rfl) ?_
  refine c_X7_requireRange v 0 50 (by omega) (by omega) (by omega) (by omega) ?_
  change AW ev true 7 t_X7_addStation Q 11 [some (vR 0), some (vI c), some (vI v), some (vI w)] [] M
  refine AW.go pk_X7_addStation 6 4 rfl rfl ?_
  change AW ev true 7 t_X7_addStation Q 14 [some (vR 0), some (vI c), some (vI v), some (vI w)] [vI 2, vI 1, vI w] M
  refine AW.callS (d' := 6) [vI w, vI 1, vI 2] [] sm_X7_requireRange hX7_78 (okP_d pk_X7_addStation 9 14 (.invokestatic 78) 3 rfl) (by decide) rfl (Nat.le_of_ble_eq_true rfl) ?_
  refine c_X7_requireRange w 1 2 (by omega) (by omega) (by omega) (by omega) ?_
  change AW ev true 7 t_X7_addStation Q 17 [some (vR 0), some (vI c), some (vI v), some (vI w)] [] M
  refine AW.go pk_X7_addStation 10 4 rfl rfl ?_
  change AW ev true 7 t_X7_addStation Q 22 [some (vR 0), some (vI c), some (vI v), some (vI w)] [vI c, vR 7] M
  refine AW.callV (d' := 0) [vI c] [] vm_X4_isTaken rfl hX7_129 (okP_d pk_X7_addStation 13 22 (.invokevirtual 129) 3 rfl) (by decide) rfl (Nat.le_of_ble_eq_true rfl) ?_
  refine c_X4_isTaken c zp0 (by omega) (fun w1 zw1 => ?_)
  change AW ev true 7 t_X7_addStation Q 25 [some (vR 0), some (vI c), some (vI v), some (vI w)] [vI w1] M
  refine AW.go pk_X7_addStation 14 2 rfl rfl ?_
  refine And.intro (show Inr w1 from ⟨by omega, by omega⟩) (And.intro (fun zh4 => ?_) (fun zh4 => ?_))
  · replace zh4 : w1 = (0 : Int) := zh4
    exfalso; have := zw1.2.mpr zp4; omega
  · replace zh4 : ¬ (w1 = (0 : Int)) := zh4
    change AW ev true 7 t_X7_addStation Q 28 [some (vR 0), some (vI c), some (vI v), some (vI w)] [] M
    exact AW.thr 5 (by decide) x_7_ISE rfl (by decide) (okP_d pk_X7_addStation 15 28 (.new 97) 3 rfl) (okP_d pk_X7_addStation 16 31 (.dup) 1 rfl) (okP_d pk_X7_addStation 17 32 (.ldc 133) 2 rfl) (okP_d pk_X7_addStation 18 34 (.invokespecial 101) 3 rfl) (okP_d pk_X7_addStation 19 37 (.athrow) 1 rfl) zQ
theorem c_X7_addStation_x5 {ev : Ev} {Q : Out → Mem → Prop} {M : Mem}  (c : Int) (v : Int) (w : Int) (zp0 : SInv M) (zp1 : 0 ≤ c ∧ c < 144) (zp2 : 0 ≤ v ∧ v ≤ 50) (zp3 : 1 ≤ w ∧ w ≤ 2) (zp4 : ¬ (∃ i, 0 ≤ i ∧ i < M 7 3 ∧ M 8 i = c)) (zp5 : M 7 3 = 8) (zQ : Q (.inr "java/lang/IllegalStateException") M) : AM ev true 7 t_X7_addStation [vR 0, vI c, vI v, vI w] M Q := by
  have zs := zp0.1
  refine AM.of mt_X7_addStation (Nat.le_of_ble_eq_true rfl) ?_
  change AW ev true 7 t_X7_addStation Q 0 [some (vR 0), some (vI c), some (vI v), some (vI w)] [] M
  refine AW.go pk_X7_addStation 0 2 rfl rfl ?_
  change AW ev true 7 t_X7_addStation Q 1 [some (vR 0), some (vI c), some (vI v), some (vI w)] [vI c] M
  refine AW.callS (d' := 6) [vI c] [] sm_X7_requireCell hX7_74 (okP_d pk_X7_addStation 1 1 (.invokestatic 74) 3 rfl) (by decide) rfl (Nat.le_of_ble_eq_true rfl) ?_
  refine c_X7_requireCell c (by omega) ?_
  change AW ev true 7 t_X7_addStation Q 4 [some (vR 0), some (vI c), some (vI v), some (vI w)] [] M
  refine AW.go pk_X7_addStation 2 4 rfl rfl ?_
  change AW ev true 7 t_X7_addStation Q 8 [some (vR 0), some (vI c), some (vI v), some (vI w)] [vI 50, vI 0, vI v] M
  refine AW.callS (d' := 6) [vI v, vI 0, vI 50] [] sm_X7_requireRange hX7_78 (okP_d pk_X7_addStation 5 8 (.invokestatic 78) 3 rfl) (by decide) rfl (Nat.le_of_ble_eq_true rfl) ?_
  refine c_X7_requireRange v 0 50 (by omega) (by omega) (by omega) (by omega) ?_
  change AW ev true 7 t_X7_addStation Q 11 [some (vR 0), some (vI c), some (vI v), some (vI w)] [] M
  refine AW.go pk_X7_addStation 6 4 rfl rfl ?_
  change AW ev true 7 t_X7_addStation Q 14 [some (vR 0), some (vI c), some (vI v), some (vI w)] [vI 2, vI 1, vI w] M
  refine AW.callS (d' := 6) [vI w, vI 1, vI 2] [] sm_X7_requireRange hX7_78 (okP_d pk_X7_addStation 9 14 (.invokestatic 78) 3 rfl) (by decide) rfl (Nat.le_of_ble_eq_true rfl) ?_
  refine c_X7_requireRange w 1 2 (by omega) (by omega) (by omega) (by omega) ?_
  change AW ev true 7 t_X7_addStation Q 17 [some (vR 0), some (vI c), some (vI v), some (vI w)] [] M
  refine AW.go pk_X7_addStation 10 4 rfl rfl ?_
  change AW ev true 7 t_X7_addStation Q 22 [some (vR 0), some (vI c), some (vI v), some (vI w)] [vI c, vR 7] M
  refine AW.callV (d' := 0) [vI c] [] vm_X4_isTaken rfl hX7_129 (okP_d pk_X7_addStation 13 22 (.invokevirtual 129) 3 rfl) (by decide) rfl (Nat.le_of_ble_eq_true rfl) ?_
  refine c_X4_isTaken c zp0 (by omega) (fun w1 zw1 => ?_)
  change AW ev true 7 t_X7_addStation Q 25 [some (vR 0), some (vI c), some (vI v), some (vI w)] [vI w1] M
  refine AW.go pk_X7_addStation 14 2 rfl rfl ?_
  refine And.intro (show Inr w1 from ⟨by omega, by omega⟩) (And.intro (fun zh4 => ?_) (fun zh4 => ?_))
  · replace zh4 : w1 = (0 : Int) := zh4
    change AW ev true 7 t_X7_addStation Q 38 [some (vR 0), some (vI c), some (vI v), some (vI w)] [] M
    refine AW.go pk_X7_addStation 20 3 rfl rfl ?_
    change AW ev true 7 t_X7_addStation Q 42 [some (vR 0), some (vI c), some (vI v), some (vI w)] [vR 7] M
    refine AW.callV (d' := 0) [] [] vm_X4_size rfl hX7_62 (okP_d pk_X7_addStation 22 42 (.invokevirtual 62) 3 rfl) (by decide) rfl (Nat.le_of_ble_eq_true rfl) ?_
    refine c_X4_size   (fun zr5 zzr5 => ?_)
    change AW ev true 7 t_X7_addStation Q 45 [some (vR 0), some (vI c), some (vI v), some (vI w)] [vI zr5] M
    refine AW.go pk_X7_addStation 23 3 rfl rfl ?_
    refine And.intro (show Inr zr5 ∧ Inr 8 from ⟨⟨by omega, by omega⟩, ⟨by omega, by omega⟩⟩) (And.intro (fun zh6 => ?_) (fun zh6 => ?_))
    · replace zh6 : zr5 < (8 : Int) := zh6
      exfalso; omega
    · replace zh6 : ¬ (zr5 < (8 : Int)) := zh6
      change AW ev true 7 t_X7_addStation Q 50 [some (vR 0), some (vI c), some (vI v), some (vI w)] [] M
      exact AW.thr 6 (by decide) x_7_ISE rfl (by decide) (okP_d pk_X7_addStation 25 50 (.new 97) 3 rfl) (okP_d pk_X7_addStation 26 53 (.dup) 1 rfl) (okP_d pk_X7_addStation 27 54 (.ldc 135) 2 rfl) (okP_d pk_X7_addStation 28 56 (.invokespecial 101) 3 rfl) (okP_d pk_X7_addStation 29 59 (.athrow) 1 rfl) zQ
  · replace zh4 : ¬ (w1 = (0 : Int)) := zh4
    exfalso; exact zp4 (zw1.2.mp (by omega))
theorem c_X7_setMast {ev : Ev} {Q : Out → Mem → Prop} {M : Mem}  (s : Int) (v : Int) (zp0 : SInv M) (zp1 : -2147483648 ≤ s ∧ s < 2147483648) (zp2 : -2147483648 ≤ v ∧ v < 2147483648) (zp3 : 0 ≤ s ∧ s < M 7 3) (zp4 : 0 ≤ v ∧ v ≤ 50) (zQ : ∀ (r : Int), r = M 9 s → Q (.inl (some (vI r))) (upM M 9 s v)) : AM ev false 7 t_X7_setMast [vR 0, vI s, vI v] M Q := by
  refine AM.of mt_X7_setMast (Nat.le_of_ble_eq_true rfl) ?_
  change AW ev false 7 t_X7_setMast Q 0 [some (vR 0), some (vI s), some (vI v), none] [] M
  refine AW.go pk_X7_setMast 0 3 rfl rfl ?_
  change AW ev false 7 t_X7_setMast Q 2 [some (vR 0), some (vI s), some (vI v), none] [vI s, vR 0] M
  refine AW.callV (d' := 6) [vI s] [] vm_X7_requireStation rfl hX7_139 (okP_d pk_X7_setMast 2 2 (.invokevirtual 139) 3 rfl) (by decide) rfl (Nat.le_of_ble_eq_true rfl) ?_
  refine c_X7_requireStation s zp0 (by omega) (by omega) ?_
  change AW ev false 7 t_X7_setMast Q 5 [some (vR 0), some (vI s), some (vI v), none] [] M
  refine AW.go pk_X7_setMast 3 4 rfl rfl ?_
  change AW ev false 7 t_X7_setMast Q 9 [some (vR 0), some (vI s), some (vI v), none] [vI 50, vI 0, vI v] M
  refine AW.callS (d' := 6) [vI v, vI 0, vI 50] [] sm_X7_requireRange hX7_78 (okP_d pk_X7_setMast 6 9 (.invokestatic 78) 3 rfl) (by decide) rfl (Nat.le_of_ble_eq_true rfl) ?_
  refine c_X7_requireRange v 0 50 (by omega) (by omega) (by omega) (by omega) ?_
  change AW ev false 7 t_X7_setMast Q 12 [some (vR 0), some (vI s), some (vI v), none] [] M
  refine AW.go pk_X7_setMast 7 4 rfl rfl ?_
  change AW ev false 7 t_X7_setMast Q 17 [some (vR 0), some (vI s), some (vI v), none] [vI s, vR 7] M
  refine AW.callV (d' := 1) [vI s] [] vm_X4_mastOf rfl hX7_142 (okP_d pk_X7_setMast 10 17 (.invokevirtual 142) 3 rfl) (by decide) rfl (Nat.le_of_ble_eq_true rfl) ?_
  refine c_X4_mastOf s zp0 (by omega) (fun zr3 zzr3 => ?_)
  change AW ev false 7 t_X7_setMast Q 20 [some (vR 0), some (vI s), some (vI v), none] [vI zr3] M
  refine AW.go pk_X7_setMast 11 6 rfl rfl ?_
  refine And.intro (show 3 < mL t_X7_setMast from (by decide)) ?_
  change AW ev false 7 t_X7_setMast Q 27 [some (vR 0), some (vI s), some (vI v), some (vI zr3)] [vI v, vI s, vR 7] M
  refine AW.callV (d' := 1) [vI s, vI v] [] vm_X4_changeMast rfl hX7_145 (okP_d pk_X7_setMast 16 27 (.invokevirtual 145) 3 rfl) (by decide) rfl (Nat.le_of_ble_eq_true rfl) ?_
  refine c_X4_changeMast s v zp0 (by omega) ?_
  change AW ev false 7 t_X7_setMast Q 30 [some (vR 0), some (vI s), some (vI v), some (vI zr3)] [] (upM M 9 s v)
  refine AW.go pk_X7_setMast 17 2 rfl rfl ?_
  refine And.intro rfl ?_
  exact zQ zr3 (by first | rfl | omega)
theorem c_X7_setMast_x1 {ev : Ev} {Q : Out → Mem → Prop} {M : Mem}  (s : Int) (v : Int) (zp0 : SInv M) (zp1 : -2147483648 ≤ s ∧ s < 2147483648) (zp2 : -2147483648 ≤ v ∧ v < 2147483648) (zp3 : ¬ (0 ≤ s ∧ s < M 7 3)) (zQ : Q (.inr "java/lang/IndexOutOfBoundsException") M) : AM ev true 7 t_X7_setMast [vR 0, vI s, vI v] M Q := by
  refine AM.of mt_X7_setMast (Nat.le_of_ble_eq_true rfl) ?_
  change AW ev true 7 t_X7_setMast Q 0 [some (vR 0), some (vI s), some (vI v), none] [] M
  refine AW.go pk_X7_setMast 0 3 rfl rfl ?_
  change AW ev true 7 t_X7_setMast Q 2 [some (vR 0), some (vI s), some (vI v), none] [vI s, vR 0] M
  refine AW.callVT (d' := 6) [vI s] [] vm_X7_requireStation rfl hX7_139 (okP_d pk_X7_setMast 2 2 (.invokevirtual 139) 3 rfl) (by decide) rfl (Nat.le_of_ble_eq_true rfl) ?_
  exact c_X7_requireStation_x s zp0 (by omega) (by omega) zQ
theorem c_X7_setMast_x2 {ev : Ev} {Q : Out → Mem → Prop} {M : Mem}  (s : Int) (v : Int) (zp0 : SInv M) (zp1 : -2147483648 ≤ s ∧ s < 2147483648) (zp2 : -2147483648 ≤ v ∧ v < 2147483648) (zp3 : 0 ≤ s ∧ s < M 7 3) (zp4 : ¬ (0 ≤ v ∧ v ≤ 50)) (zQ : Q (.inr "java/lang/IllegalArgumentException") M) : AM ev true 7 t_X7_setMast [vR 0, vI s, vI v] M Q := by
  refine AM.of mt_X7_setMast (Nat.le_of_ble_eq_true rfl) ?_
  change AW ev true 7 t_X7_setMast Q 0 [some (vR 0), some (vI s), some (vI v), none] [] M
  refine AW.go pk_X7_setMast 0 3 rfl rfl ?_
  change AW ev true 7 t_X7_setMast Q 2 [some (vR 0), some (vI s), some (vI v), none] [vI s, vR 0] M
  refine AW.callV (d' := 6) [vI s] [] vm_X7_requireStation rfl hX7_139 (okP_d pk_X7_setMast 2 2 (.invokevirtual 139) 3 rfl) (by decide) rfl (Nat.le_of_ble_eq_true rfl) ?_
  refine c_X7_requireStation s zp0 (by omega) (by omega) ?_
  change AW ev true 7 t_X7_setMast Q 5 [some (vR 0), some (vI s), some (vI v), none] [] M
  refine AW.go pk_X7_setMast 3 4 rfl rfl ?_
  change AW ev true 7 t_X7_setMast Q 9 [some (vR 0), some (vI s), some (vI v), none] [vI 50, vI 0, vI v] M
  refine AW.callST (d' := 6) [vI v, vI 0, vI 50] [] sm_X7_requireRange hX7_78 (okP_d pk_X7_setMast 6 9 (.invokestatic 78) 3 rfl) (by decide) rfl (Nat.le_of_ble_eq_true rfl) ?_
  exact c_X7_requireRange_x v 0 50 (by omega) (by omega) (by omega) (by omega) zQ
theorem c_X7_clearClouds {ev : Ev} {Q : Out → Mem → Prop} {M : Mem}    (zQ : ∀ (r : Int), r = M 11 6 → Q (.inl (some (vI r))) (upM M 11 6 0)) : AM ev false 1 t_X7_clearClouds [vR 0] M Q := by
  refine AM.of mt_X7_clearClouds (Nat.le_of_ble_eq_true rfl) ?_
  change AW ev false 1 t_X7_clearClouds Q 0 [some (vR 0), none] [] M
  refine AW.go pk_X7_clearClouds 0 3 rfl rfl ?_
  change AW ev false 1 t_X7_clearClouds Q 4 [some (vR 0), none] [vR 11] M
  refine AW.callV (d' := 0) [] [] vm_X0_size rfl hX7_159 (okP_d pk_X7_clearClouds 2 4 (.invokevirtual 159) 3 rfl) (by decide) rfl (Nat.le_of_ble_eq_true rfl) ?_
  refine c_X0_size   (fun zr1 zzr1 => ?_)
  change AW ev false 1 t_X7_clearClouds Q 7 [some (vR 0), none] [vI zr1] M
  refine AW.go pk_X7_clearClouds 3 4 rfl rfl ?_
  refine And.intro (show 1 < mL t_X7_clearClouds from (by decide)) ?_
  change AW ev false 1 t_X7_clearClouds Q 12 [some (vR 0), some (vI zr1)] [vR 11] M
  refine AW.callV (d' := 0) [] [] vm_X0_clear rfl hX7_72 (okP_d pk_X7_clearClouds 6 12 (.invokevirtual 72) 3 rfl) (by decide) rfl (Nat.le_of_ble_eq_true rfl) ?_
  refine c_X0_clear   ?_
  change AW ev false 1 t_X7_clearClouds Q 15 [some (vR 0), some (vI zr1)] [] (upM M 11 6 0)
  refine AW.go pk_X7_clearClouds 7 2 rfl rfl ?_
  refine And.intro rfl ?_
  exact zQ zr1 (by first | rfl | omega)
theorem c_X7_addCloud {ev : Ev} {Q : Out → Mem → Prop} {M : Mem}  (a : Int) (b : Int) (f : Int) (t : Int) (zp0 : 0 ≤ a ∧ a < 144) (zp1 : 0 ≤ b ∧ b < 144) (zp2 : 6 ≤ f ∧ f ≤ 17) (zp3 : f ≤ t ∧ t ≤ 17) (zp4 : 0 ≤ M 11 6 ∧ M 11 6 < 6) (zQ : ∀ (r : Int), r = M 11 6 → Q (.inl (some (vI r))) (upM (upM (upM (upM (upM (upM (upM M 12 (M 11 6) (imin (a % 12) (b % 12))) 13 (M 11 6) (imax (a % 12) (b % 12))) 14 (M 11 6) (imin (a / 12) (b / 12))) 15 (M 11 6) (imax (a / 12) (b / 12))) 16 (M 11 6) f) 17 (M 11 6) t) 11 6 (M 11 6 + 1))) : AM ev false 7 t_X7_addCloud [vR 0, vI a, vI b, vI f, vI t] M Q := by
  refine AM.of mt_X7_addCloud (Nat.le_of_ble_eq_true rfl) ?_
  change AW ev false 7 t_X7_addCloud Q 0 [some (vR 0), some (vI a), some (vI b), some (vI f), some (vI t)] [] M
  refine AW.go pk_X7_addCloud 0 2 rfl rfl ?_
  change AW ev false 7 t_X7_addCloud Q 1 [some (vR 0), some (vI a), some (vI b), some (vI f), some (vI t)] [vI a] M
  refine AW.callS (d' := 6) [vI a] [] sm_X7_requireCell hX7_74 (okP_d pk_X7_addCloud 1 1 (.invokestatic 74) 3 rfl) (by decide) rfl (Nat.le_of_ble_eq_true rfl) ?_
  refine c_X7_requireCell a (by omega) ?_
  change AW ev false 7 t_X7_addCloud Q 4 [some (vR 0), some (vI a), some (vI b), some (vI f), some (vI t)] [] M
  refine AW.go pk_X7_addCloud 2 2 rfl rfl ?_
  change AW ev false 7 t_X7_addCloud Q 5 [some (vR 0), some (vI a), some (vI b), some (vI f), some (vI t)] [vI b] M
  refine AW.callS (d' := 6) [vI b] [] sm_X7_requireCell hX7_74 (okP_d pk_X7_addCloud 3 5 (.invokestatic 74) 3 rfl) (by decide) rfl (Nat.le_of_ble_eq_true rfl) ?_
  refine c_X7_requireCell b (by omega) ?_
  change AW ev false 7 t_X7_addCloud Q 8 [some (vR 0), some (vI a), some (vI b), some (vI f), some (vI t)] [] M
  refine AW.go pk_X7_addCloud 4 4 rfl rfl ?_
  change AW ev false 7 t_X7_addCloud Q 13 [some (vR 0), some (vI a), some (vI b), some (vI f), some (vI t)] [vI 17, vI 6, vI f] M
  refine AW.callS (d' := 6) [vI f, vI 6, vI 17] [] sm_X7_requireRange hX7_78 (okP_d pk_X7_addCloud 7 13 (.invokestatic 78) 3 rfl) (by decide) rfl (Nat.le_of_ble_eq_true rfl) ?_
  refine c_X7_requireRange f 6 17 (by omega) (by omega) (by omega) (by omega) ?_
  change AW ev false 7 t_X7_addCloud Q 16 [some (vR 0), some (vI a), some (vI b), some (vI f), some (vI t)] [] M
  refine AW.go pk_X7_addCloud 8 4 rfl rfl ?_
  change AW ev false 7 t_X7_addCloud Q 21 [some (vR 0), some (vI a), some (vI b), some (vI f), some (vI t)] [vI 17, vI f, vI t] M
  refine AW.callS (d' := 6) [vI t, vI f, vI 17] [] sm_X7_requireRange hX7_78 (okP_d pk_X7_addCloud 11 21 (.invokestatic 78) 3 rfl) (by decide) rfl (Nat.le_of_ble_eq_true rfl) ?_
  refine c_X7_requireRange t f 17 (by omega) (by omega) (by omega) (by omega) ?_
  change AW ev false 7 t_X7_addCloud Q 24 [some (vR 0), some (vI a), some (vI b), some (vI f), some (vI t)] [] M
  refine AW.go pk_X7_addCloud 12 3 rfl rfl ?_
  change AW ev false 7 t_X7_addCloud Q 28 [some (vR 0), some (vI a), some (vI b), some (vI f), some (vI t)] [vR 11] M
  refine AW.callV (d' := 0) [] [] vm_X0_size rfl hX7_159 (okP_d pk_X7_addCloud 14 28 (.invokevirtual 159) 3 rfl) (by decide) rfl (Nat.le_of_ble_eq_true rfl) ?_
  refine c_X0_size   (fun zr5 zzr5 => ?_)
  change AW ev false 7 t_X7_addCloud Q 31 [some (vR 0), some (vI a), some (vI b), some (vI f), some (vI t)] [vI zr5] M
  refine AW.go pk_X7_addCloud 15 3 rfl rfl ?_
  refine And.intro (show Inr zr5 ∧ Inr 6 from ⟨⟨by omega, by omega⟩, ⟨by omega, by omega⟩⟩) (And.intro (fun zh6 => ?_) (fun zh6 => ?_))
  · replace zh6 : zr5 < (6 : Int) := zh6
    change AW ev false 7 t_X7_addCloud Q 46 [some (vR 0), some (vI a), some (vI b), some (vI f), some (vI t)] [] M
    refine AW.go pk_X7_addCloud 22 7 rfl rfl ?_
    change AW ev false 7 t_X7_addCloud Q 55 [some (vR 0), some (vI a), some (vI b), some (vI f), some (vI t)] [vI t, vI f, vI b, vI a, vR 11] M
    refine AW.callV (d' := 1) [vI a, vI b, vI f, vI t] [] vm_X0_add rfl hX7_162 (okP_d pk_X7_addCloud 28 55 (.invokevirtual 162) 3 rfl) (by decide) rfl (Nat.le_of_ble_eq_true rfl) ?_
    refine c_X0_add a b f t (by omega) (by omega) (by omega) (fun zr7 zzr7 => ?_)
    change AW ev false 7 t_X7_addCloud Q 58 [some (vR 0), some (vI a), some (vI b), some (vI f), some (vI t)] [vI zr7] (upM (upM (upM (upM (upM (upM (upM M 12 (M 11 6) (imin (a % 12) (b % 12))) 13 (M 11 6) (imax (a % 12) (b % 12))) 14 (M 11 6) (imin (a / 12) (b / 12))) 15 (M 11 6) (imax (a / 12) (b / 12))) 16 (M 11 6) f) 17 (M 11 6) t) 11 6 (M 11 6 + 1))
    refine AW.go pk_X7_addCloud 29 1 rfl rfl ?_
    refine And.intro rfl ?_
    exact zQ zr7 (by first | rfl | omega)
  · replace zh6 : ¬ (zr5 < (6 : Int)) := zh6
    exfalso; omega
theorem c_X7_addCloud_x1 {ev : Ev} {Q : Out → Mem → Prop} {M : Mem}  (a : Int) (b : Int) (f : Int) (t : Int) (zp0 : -2147483648 ≤ a ∧ a < 2147483648) (zp1 : -2147483648 ≤ b ∧ b < 2147483648) (zp2 : -2147483648 ≤ f ∧ f < 2147483648) (zp3 : -2147483648 ≤ t ∧ t < 2147483648) (zp4 : ¬ (0 ≤ a ∧ a < 144)) (zQ : Q (.inr "java/lang/IndexOutOfBoundsException") M) : AM ev true 7 t_X7_addCloud [vR 0, vI a, vI b, vI f, vI t] M Q := by
  refine AM.of mt_X7_addCloud (Nat.le_of_ble_eq_true rfl) ?_
  change AW ev true 7 t_X7_addCloud Q 0 [some (vR 0), some (vI a), some (vI b), some (vI f), some (vI t)] [] M
  refine AW.go pk_X7_addCloud 0 2 rfl rfl ?_
  change AW ev true 7 t_X7_addCloud Q 1 [some (vR 0), some (vI a), some (vI b), some (vI f), some (vI t)] [vI a] M
  refine AW.callST (d' := 6) [vI a] [] sm_X7_requireCell hX7_74 (okP_d pk_X7_addCloud 1 1 (.invokestatic 74) 3 rfl) (by decide) rfl (Nat.le_of_ble_eq_true rfl) ?_
  exact c_X7_requireCell_x a (by omega) (by omega) zQ
theorem c_X7_addCloud_x2 {ev : Ev} {Q : Out → Mem → Prop} {M : Mem}  (a : Int) (b : Int) (f : Int) (t : Int) (zp0 : -2147483648 ≤ a ∧ a < 2147483648) (zp1 : -2147483648 ≤ b ∧ b < 2147483648) (zp2 : -2147483648 ≤ f ∧ f < 2147483648) (zp3 : -2147483648 ≤ t ∧ t < 2147483648) (zp4 : 0 ≤ a ∧ a < 144) (zp5 : ¬ (0 ≤ b ∧ b < 144)) (zQ : Q (.inr "java/lang/IndexOutOfBoundsException") M) : AM ev true 7 t_X7_addCloud [vR 0, vI a, vI b, vI f, vI t] M Q := by
  refine AM.of mt_X7_addCloud (Nat.le_of_ble_eq_true rfl) ?_
  change AW ev true 7 t_X7_addCloud Q 0 [some (vR 0), some (vI a), some (vI b), some (vI f), some (vI t)] [] M
  refine AW.go pk_X7_addCloud 0 2 rfl rfl ?_
  change AW ev true 7 t_X7_addCloud Q 1 [some (vR 0), some (vI a), some (vI b), some (vI f), some (vI t)] [vI a] M
  refine AW.callS (d' := 6) [vI a] [] sm_X7_requireCell hX7_74 (okP_d pk_X7_addCloud 1 1 (.invokestatic 74) 3 rfl) (by decide) rfl (Nat.le_of_ble_eq_true rfl) ?_
  refine c_X7_requireCell a (by omega) ?_
  change AW ev true 7 t_X7_addCloud Q 4 [some (vR 0), some (vI a), some (vI b), some (vI f), some (vI t)] [] M
  refine AW.go pk_X7_addCloud 2 2 rfl rfl ?_
  change AW ev true 7 t_X7_addCloud Q 5 [some (vR 0), some (vI a), some (vI b), some (vI f), some (vI t)] [vI b] M
  refine AW.callST (d' := 6) [vI b] [] sm_X7_requireCell hX7_74 (okP_d pk_X7_addCloud 3 5 (.invokestatic 74) 3 rfl) (by decide) rfl (Nat.le_of_ble_eq_true rfl) ?_
  exact c_X7_requireCell_x b (by omega) (by omega) zQ
theorem c_X7_addCloud_x3 {ev : Ev} {Q : Out → Mem → Prop} {M : Mem}  (a : Int) (b : Int) (f : Int) (t : Int) (zp0 : -2147483648 ≤ a ∧ a < 2147483648) (zp1 : -2147483648 ≤ b ∧ b < 2147483648) (zp2 : -2147483648 ≤ f ∧ f < 2147483648) (zp3 : -2147483648 ≤ t ∧ t < 2147483648) (zp4 : 0 ≤ a ∧ a < 144) (zp5 : 0 ≤ b ∧ b < 144) (zp6 : ¬ (6 ≤ f ∧ f ≤ 17)) (zQ : Q (.inr "java/lang/IllegalArgumentException") M) : AM ev true 7 t_X7_addCloud [vR 0, vI a, vI b, vI f, vI t] M Q := by
  refine AM.of mt_X7_addCloud (Nat.le_of_ble_eq_true rfl) ?_
  change AW ev true 7 t_X7_addCloud Q 0 [some (vR 0), some (vI a), some (vI b), some (vI f), some (vI t)] [] M
  refine AW.go pk_X7_addCloud 0 2 rfl rfl ?_
  change AW ev true 7 t_X7_addCloud Q 1 [some (vR 0), some (vI a), some (vI b), some (vI f), some (vI t)] [vI a] M
  refine AW.callS (d' := 6) [vI a] [] sm_X7_requireCell hX7_74 (okP_d pk_X7_addCloud 1 1 (.invokestatic 74) 3 rfl) (by decide) rfl (Nat.le_of_ble_eq_true rfl) ?_
  refine c_X7_requireCell a (by omega) ?_
  change AW ev true 7 t_X7_addCloud Q 4 [some (vR 0), some (vI a), some (vI b), some (vI f), some (vI t)] [] M
  refine AW.go pk_X7_addCloud 2 2 rfl rfl ?_
  change AW ev true 7 t_X7_addCloud Q 5 [some (vR 0), some (vI a), some (vI b), some (vI f), some (vI t)] [vI b] M
  refine AW.callS (d' := 6) [vI b] [] sm_X7_requireCell hX7_74 (okP_d pk_X7_addCloud 3 5 (.invokestatic 74) 3 rfl) (by decide) rfl (Nat.le_of_ble_eq_true rfl) ?_
  refine c_X7_requireCell b (by omega) ?_
  change AW ev true 7 t_X7_addCloud Q 8 [some (vR 0), some (vI a), some (vI b), some (vI f), some (vI t)] [] M
  refine AW.go pk_X7_addCloud 4 4 rfl rfl ?_
  change AW ev true 7 t_X7_addCloud Q 13 [some (vR 0), some (vI a), some (vI b), some (vI f), some (vI t)] [vI 17, vI 6, vI f] M
  refine AW.callST (d' := 6) [vI f, vI 6, vI 17] [] sm_X7_requireRange hX7_78 (okP_d pk_X7_addCloud 7 13 (.invokestatic 78) 3 rfl) (by decide) rfl (Nat.le_of_ble_eq_true rfl) ?_
  exact c_X7_requireRange_x f 6 17 (by omega) (by omega) (by omega) (by omega) zQ
theorem c_X7_addCloud_x4 {ev : Ev} {Q : Out → Mem → Prop} {M : Mem}  (a : Int) (b : Int) (f : Int) (t : Int) (zp0 : -2147483648 ≤ a ∧ a < 2147483648) (zp1 : -2147483648 ≤ b ∧ b < 2147483648) (zp2 : -2147483648 ≤ f ∧ f < 2147483648) (zp3 : -2147483648 ≤ t ∧ t < 2147483648) (zp4 : 0 ≤ a ∧ a < 144) (zp5 : 0 ≤ b ∧ b < 144) (zp6 : 6 ≤ f ∧ f ≤ 17) (zp7 : ¬ (f ≤ t ∧ t ≤ 17)) (zQ : Q (.inr "java/lang/IllegalArgumentException") M) : AM ev true 7 t_X7_addCloud [vR 0, vI a, vI b, vI f, vI t] M Q := by
  refine AM.of mt_X7_addCloud (Nat.le_of_ble_eq_true rfl) ?_
  change AW ev true 7 t_X7_addCloud Q 0 [some (vR 0), some (vI a), some (vI b), some (vI f), some (vI t)] [] M
  refine AW.go pk_X7_addCloud 0 2 rfl rfl ?_
  change AW ev true 7 t_X7_addCloud Q 1 [some (vR 0), some (vI a), some (vI b), some (vI f), some (vI t)] [vI a] M
  refine AW.callS (d' := 6) [vI a] [] sm_X7_requireCell hX7_74 (okP_d pk_X7_addCloud 1 1 (.invokestatic 74) 3 rfl) (by decide) rfl (Nat.le_of_ble_eq_true rfl) ?_
  refine c_X7_requireCell a (by omega) ?_
  change AW ev true 7 t_X7_addCloud Q 4 [some (vR 0), some (vI a), some (vI b), some (vI f), some (vI t)] [] M
  refine AW.go pk_X7_addCloud 2 2 rfl rfl ?_
  change AW ev true 7 t_X7_addCloud Q 5 [some (vR 0), some (vI a), some (vI b), some (vI f), some (vI t)] [vI b] M
  refine AW.callS (d' := 6) [vI b] [] sm_X7_requireCell hX7_74 (okP_d pk_X7_addCloud 3 5 (.invokestatic 74) 3 rfl) (by decide) rfl (Nat.le_of_ble_eq_true rfl) ?_
  refine c_X7_requireCell b (by omega) ?_
  change AW ev true 7 t_X7_addCloud Q 8 [some (vR 0), some (vI a), some (vI b), some (vI f), some (vI t)] [] M
  refine AW.go pk_X7_addCloud 4 4 rfl rfl ?_
  change AW ev true 7 t_X7_addCloud Q 13 [some (vR 0), some (vI a), some (vI b), some (vI f), some (vI t)] [vI 17, vI 6, vI f] M
  refine AW.callS (d' := 6) [vI f, vI 6, vI 17] [] sm_X7_requireRange hX7_78 (okP_d pk_X7_addCloud 7 13 (.invokestatic 78) 3 rfl) (by decide) rfl (Nat.le_of_ble_eq_true rfl) ?_
  refine c_X7_requireRange f 6 17 (by omega) (by omega) (by omega) (by omega) ?_
  change AW ev true 7 t_X7_addCloud Q 16 [some (vR 0), some (vI a), some (vI b), some (vI f), some (vI t)] [] M
  refine AW.go pk_X7_addCloud 8 4 rfl rfl ?_
  change AW ev true 7 t_X7_addCloud Q 21 [some (vR 0), some (vI a), some (vI b), some (vI f), some (vI t)] [vI 17, vI f, vI t] M
  refine AW.callST (d' := 6) [vI t, vI f, vI 17] [] sm_X7_requireRange hX7_78 (okP_d pk_X7_addCloud 11 21 (.invokestatic 78) 3 rfl) (by decide) rfl (Nat.le_of_ble_eq_true rfl) ?_
  exact c_X7_requireRange_x t f 17 (by omega) (by omega) (by omega) (by omega) zQ
theorem c_X7_addCloud_x5 {ev : Ev} {Q : Out → Mem → Prop} {M : Mem}  (a : Int) (b : Int) (f : Int) (t : Int) (zp0 : -2147483648 ≤ a ∧ a < 2147483648) (zp1 : -2147483648 ≤ b ∧ b < 2147483648) (zp2 : -2147483648 ≤ f ∧ f < 2147483648) (zp3 : -2147483648 ≤ t ∧ t < 2147483648) (zp4 : 0 ≤ a ∧ a < 144) (zp5 : 0 ≤ b ∧ b < 144) (zp6 : 6 ≤ f ∧ f ≤ 17) (zp7 : f ≤ t ∧ t ≤ 17) (zp8 : M 11 6 = 6) (zQ : Q (.inr "java/lang/IllegalStateException") M) : AM ev true 7 t_X7_addCloud [vR 0, vI a, vI b, vI f, vI t] M Q := by
  refine AM.of mt_X7_addCloud (Nat.le_of_ble_eq_true rfl) ?_
  change AW ev true 7 t_X7_addCloud Q 0 [some (vR 0), some (vI a), some (vI b), some (vI f), some (vI t)] [] M
  refine AW.go pk_X7_addCloud 0 2 rfl rfl ?_
  change AW ev true 7 t_X7_addCloud Q 1 [some (vR 0), some (vI a), some (vI b), some (vI f), some (vI t)] [vI a] M
  refine AW.callS (d' := 6) [vI a] [] sm_X7_requireCell hX7_74 (okP_d pk_X7_addCloud 1 1 (.invokestatic 74) 3 rfl) (by decide) rfl (Nat.le_of_ble_eq_true rfl) ?_
  refine c_X7_requireCell a (by omega) ?_
  change AW ev true 7 t_X7_addCloud Q 4 [some (vR 0), some (vI a), some (vI b), some (vI f), some (vI t)] [] M
  refine AW.go pk_X7_addCloud 2 2 rfl rfl ?_
  change AW ev true 7 t_X7_addCloud Q 5 [some (vR 0), some (vI a), some (vI b), some (vI f), some (vI t)] [vI b] M
  refine AW.callS (d' := 6) [vI b] [] sm_X7_requireCell hX7_74 (okP_d pk_X7_addCloud 3 5 (.invokestatic 74) 3 rfl) (by decide) rfl (Nat.le_of_ble_eq_true rfl) ?_
  refine c_X7_requireCell b (by omega) ?_
  change AW ev true 7 t_X7_addCloud Q 8 [some (vR 0), some (vI a), some (vI b), some (vI f), some (vI t)] [] M
  refine AW.go pk_X7_addCloud 4 4 rfl rfl ?_
  change AW ev true 7 t_X7_addCloud Q 13 [some (vR 0), some (vI a), some (vI b), some (vI f), some (vI t)] [vI 17, vI 6, vI f] M
  refine AW.callS (d' := 6) [vI f, vI 6, vI 17] [] sm_X7_requireRange hX7_78 (okP_d pk_X7_addCloud 7 13 (.invokestatic 78) 3 rfl) (by decide) rfl (Nat.le_of_ble_eq_true rfl) ?_
  refine c_X7_requireRange f 6 17 (by omega) (by omega) (by omega) (by omega) ?_
  change AW ev true 7 t_X7_addCloud Q 16 [some (vR 0), some (vI a), some (vI b), some (vI f), some (vI t)] [] M
  refine AW.go pk_X7_addCloud 8 4 rfl rfl ?_
  change AW ev true 7 t_X7_addCloud Q 21 [some (vR 0), some (vI a), some (vI b), some (vI f), some (vI t)] [vI 17, vI f, vI t] M
  refine AW.callS (d' := 6) [vI t, vI f, vI 17] [] sm_X7_requireRange hX7_78 (okP_d pk_X7_addCloud 11 21 (.invokestatic 78) 3 rfl) (by decide) rfl (Nat.le_of_ble_eq_true rfl) ?_
  refine c_X7_requireRange t f 17 (by omega) (by omega) (by omega) (by omega) ?_
  change AW ev true 7 t_X7_addCloud Q 24 [some (vR 0), some (vI a), some (vI b), some (vI f), some (vI t)] [] M
  refine AW.go pk_X7_addCloud 12 3 rfl rfl ?_
  change AW ev true 7 t_X7_addCloud Q 28 [some (vR 0), some (vI a), some (vI b), some (vI f), some (vI t)] [vR 11] M
  refine AW.callV (d' := 0) [] [] vm_X0_size rfl hX7_159 (okP_d pk_X7_addCloud 14 28 (.invokevirtual 159) 3 rfl) (by decide) rfl (Nat.le_of_ble_eq_true rfl) ?_
  refine c_X0_size   (fun zr5 zzr5 => ?_)
  change AW ev true 7 t_X7_addCloud Q 31 [some (vR 0), some (vI a), some (vI b), some (vI f), some (vI t)] [vI zr5] M
  refine AW.go pk_X7_addCloud 15 3 rfl rfl ?_
  refine And.intro (show Inr zr5 ∧ Inr 6 from ⟨⟨by omega, by omega⟩, ⟨by omega, by omega⟩⟩) (And.intro (fun zh6 => ?_) (fun zh6 => ?_))
  · replace zh6 : zr5 < (6 : Int) := zh6
    exfalso; omega
  · replace zh6 : ¬ (zr5 < (6 : Int)) := zh6
    change AW ev true 7 t_X7_addCloud Q 36 [some (vR 0), some (vI a), some (vI b), some (vI f), some (vI t)] [] M
    exact AW.thr 9 (by decide) x_7_ISE rfl (by decide) (okP_d pk_X7_addCloud 17 36 (.new 97) 3 rfl) (okP_d pk_X7_addCloud 18 39 (.dup) 1 rfl) (okP_d pk_X7_addCloud 19 40 (.ldc 160) 2 rfl) (okP_d pk_X7_addCloud 20 42 (.invokespecial 101) 3 rfl) (okP_d pk_X7_addCloud 21 45 (.athrow) 1 rfl) zQ
