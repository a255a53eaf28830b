theorem c_J6_bitCount_0f7a4 {ev : Ev} {Q : Out → Mem → Prop} {M : Mem}  (x : Int)  (zQ : ∀ (r : Int), r = bcI x → Q (.inl (some (vI r))) M) : AM ev false 0 t_J6_bitCount_0f7a4 [vI x] M Q := by
  refine AM.of mt_J6_bitCount_0f7a4 (Nat.le_of_ble_eq_true rfl) ?_
  change AW ev false 0 t_J6_bitCount_0f7a4 Q 0 [some (vI x)] [] M
  refine AW.go pk_J6_bitCount_0f7a4 0 42 rfl rfl ?_
  refine And.intro (show 0 < mL t_J6_bitCount_0f7a4 from (by decide)) ?_
  refine And.intro (show 0 < mL t_J6_bitCount_0f7a4 from (by decide)) ?_
  refine And.intro (show 0 < mL t_J6_bitCount_0f7a4 from (by decide)) ?_
  refine And.intro (show 0 < mL t_J6_bitCount_0f7a4 from (by decide)) ?_
  refine And.intro (show 0 < mL t_J6_bitCount_0f7a4 from (by decide)) ?_
  refine And.intro rfl ?_
  exact zQ (bcI x) rfl
theorem c_X7_requireCell {ev : Ev} {Q : Out → Mem → Prop} {M : Mem}  (c : Int) (zp0 : 0 ≤ c ∧ c < 144) (zQ : Q (.inl none) M) : AM ev false 6 t_X7_requireCell [vI c] M Q := by
  refine AM.of mt_X7_requireCell (Nat.le_of_ble_eq_true rfl) ?_
  change AW ev false 6 t_X7_requireCell Q 0 [some (vI c)] [] M
  refine AW.go pk_X7_requireCell 0 2 rfl rfl ?_
  change AW ev false 6 t_X7_requireCell Q 1 [some (vI c)] [vI c] M
  refine AW.callS (d' := 0) [vI c] [] sm_X5_isCell hX7_287 (okP_d pk_X7_requireCell 1 1 (.invokestatic 287) 3 rfl) (by decide) rfl (Nat.le_of_ble_eq_true rfl) ?_
  refine c_X5_isCell c (by omega) (fun zr1 zzr1 => ?_)
  change AW ev false 6 t_X7_requireCell Q 4 [some (vI c)] [vI zr1] M
  refine AW.go pk_X7_requireCell 2 2 rfl rfl ?_
  refine And.intro (show Inr zr1 from ⟨by omega, by omega⟩) (And.intro (fun zh2 => ?_) (fun zh2 => ?_))
  · replace zh2 : zr1 ≠ (0 : Int) := zh2
    change AW ev false 6 t_X7_requireCell Q 18 [some (vI c)] [] M
    refine AW.go pk_X7_requireCell 8 1 rfl rfl ?_
    refine And.intro rfl ?_
    exact zQ
  · replace zh2 : ¬ (zr1 ≠ (0 : Int)) := zh2
    exfalso; omega
theorem c_X7_requireCell_x {ev : Ev} {Q : Out → Mem → Prop} {M : Mem}  (c : Int) (zp0 : -2147483648 ≤ c ∧ c < 2147483648) (zp1 : ¬ (0 ≤ c ∧ c < 144)) (zQ : Q (.inr "java/lang/IndexOutOfBoundsException") M) : AM ev true 6 t_X7_requireCell [vI c] M Q := by
  refine AM.of mt_X7_requireCell (Nat.le_of_ble_eq_true rfl) ?_
  change AW ev true 6 t_X7_requireCell Q 0 [some (vI c)] [] M
  refine AW.go pk_X7_requireCell 0 2 rfl rfl ?_
  change AW ev true 6 t_X7_requireCell Q 1 [some (vI c)] [vI c] M
  refine AW.callS (d' := 0) [vI c] [] sm_X5_isCell hX7_287 (okP_d pk_X7_requireCell 1 1 (.invokestatic 287) 3 rfl) (by decide) rfl (Nat.le_of_ble_eq_true rfl) ?_
  refine c_X5_isCell c (by omega) (fun zr1 zzr1 => ?_)
  change AW ev true 6 t_X7_requireCell Q 4 [some (vI c)] [vI zr1] M
  refine AW.go pk_X7_requireCell 2 2 rfl rfl ?_
  refine And.intro (show Inr zr1 from ⟨by omega, by omega⟩) (And.intro (fun zh2 => ?_) (fun zh2 => ?_))
  · replace zh2 : zr1 ≠ (0 : Int) := zh2
    exfalso; omega
  · replace zh2 : ¬ (zr1 ≠ (0 : Int)) := zh2
    change AW ev true 6 t_X7_requireCell Q 7 [some (vI c)] [] M
    exact AW.thrW 0 (by decide) x_7_IOOBE rfl (by decide) (okP_d pk_X7_requireCell 3 7 (.new 217) 3 rfl) (okP_d pk_X7_requireCell 4 10 (.dup) 1 rfl) (okP_d pk_X7_requireCell 5 11 (.ldc_w 290) 3 rfl) (okP_d pk_X7_requireCell 6 14 (.invokespecial 221) 3 rfl) (okP_d pk_X7_requireCell 7 17 (.athrow) 1 rfl) zQ
theorem c_X7_requireRange {ev : Ev} {Q : Out → Mem → Prop} {M : Mem}  (v : Int) (a : Int) (b : Int) (zp0 : -2147483648 ≤ v ∧ v < 2147483648) (zp1 : -2147483648 ≤ a ∧ a < 2147483648) (zp2 : -2147483648 ≤ b ∧ b < 2147483648) (zp3 : a ≤ v ∧ v ≤ b) (zQ : Q (.inl none) M) : AM ev false 6 t_X7_requireRange [vI v, vI a, vI b] M Q := by
  refine AM.of mt_X7_requireRange (Nat.le_of_ble_eq_true rfl) ?_
  change AW ev false 6 t_X7_requireRange Q 0 [some (vI v), some (vI a), some (vI b)] [] M
  refine AW.go pk_X7_requireRange 0 7 rfl rfl ?_
  refine And.intro (show Inr v ∧ Inr a from ⟨⟨by omega, by omega⟩, ⟨by omega, by omega⟩⟩) (And.intro (fun zh1 => ?_) (fun zh1 => ?_))
  · replace zh1 : v < a := zh1
    exfalso; omega
  · replace zh1 : ¬ (v < a) := zh1
    refine And.intro (show Inr v ∧ Inr b from ⟨⟨by omega, by omega⟩, ⟨by omega, by omega⟩⟩) (And.intro (fun zh2 => ?_) (fun zh2 => ?_))
    · replace zh2 : v ≤ b := zh2
      change AW ev false 6 t_X7_requireRange Q 21 [some (vI v), some (vI a), some (vI b)] [] M
      refine AW.go pk_X7_requireRange 11 1 rfl rfl ?_
      refine And.intro rfl ?_
      exact zQ
    · replace zh2 : ¬ (v ≤ b) := zh2
      exfalso; omega
theorem c_X7_requireRange_x {ev : Ev} {Q : Out → Mem → Prop} {M : Mem}  (v : Int) (a : Int) (b : Int) (zp0 : -2147483648 ≤ v ∧ v < 2147483648) (zp1 : -2147483648 ≤ a ∧ a < 2147483648) (zp2 : -2147483648 ≤ b ∧ b < 2147483648) (zp3 : ¬ (a ≤ v ∧ v ≤ b)) (zQ : Q (.inr "java/lang/IllegalArgumentException") M) : AM ev true 6 t_X7_requireRange [vI v, vI a, vI b] M Q := by
  refine AM.of mt_X7_requireRange (Nat.le_of_ble_eq_true rfl) ?_
  change AW ev true 6 t_X7_requireRange Q 0 [some (vI v), some (vI a), some (vI b)] [] M
  refine AW.go pk_X7_requireRange 0 7 rfl rfl ?_
  refine And.intro (show Inr v ∧ Inr a from ⟨⟨by omega, by omega⟩, ⟨by omega, by omega⟩⟩) (And.intro (fun zh1 => ?_) (fun zh1 => ?_))
  · replace zh1 : v < a := zh1
    change AW ev true 6 t_X7_requireRange Q 10 [some (vI v), some (vI a), some (vI b)] [] M
    exact AW.thrW 1 (by decide) x_7_IAE rfl (by decide) (okP_d pk_X7_requireRange 6 10 (.new 115) 3 rfl) (okP_d pk_X7_requireRange 7 13 (.dup) 1 rfl) (okP_d pk_X7_requireRange 8 14 (.ldc_w 302) 3 rfl) (okP_d pk_X7_requireRange 9 17 (.invokespecial 119) 3 rfl) (okP_d pk_X7_requireRange 10 20 (.athrow) 1 rfl) zQ
  · replace zh1 : ¬ (v < a) := zh1
    refine And.intro (show Inr v ∧ Inr b from ⟨⟨by omega, by omega⟩, ⟨by omega, by omega⟩⟩) (And.intro (fun zh2 => ?_) (fun zh2 => ?_))
    · replace zh2 : v ≤ b := zh2
      exfalso; omega
    · replace zh2 : ¬ (v ≤ b) := zh2
      change AW ev true 6 t_X7_requireRange Q 10 [some (vI v), some (vI a), some (vI b)] [] M
      exact AW.thrW 1 (by decide) x_7_IAE rfl (by decide) (okP_d pk_X7_requireRange 6 10 (.new 115) 3 rfl) (okP_d pk_X7_requireRange 7 13 (.dup) 1 rfl) (okP_d pk_X7_requireRange 8 14 (.ldc_w 302) 3 rfl) (okP_d pk_X7_requireRange 9 17 (.invokespecial 119) 3 rfl) (okP_d pk_X7_requireRange 10 20 (.athrow) 1 rfl) zQ
theorem c_X7_requireStation {ev : Ev} {Q : Out → Mem → Prop} {M : Mem}  (s : Int) (zp0 : SInv M) (zp1 : -2147483648 ≤ s ∧ s < 2147483648) (zp2 : 0 ≤ s ∧ s < M 7 3) (zQ : Q (.inl none) M) : AM ev false 6 t_X7_requireStation [vR 0, vI s] M Q := by
  have zs := zp0.1
  refine AM.of mt_X7_requireStation (Nat.le_of_ble_eq_true rfl) ?_
  change AW ev false 6 t_X7_requireStation Q 0 [some (vR 0), some (vI s)] [] M
  refine AW.go pk_X7_requireStation 0 4 rfl rfl ?_
  change AW ev false 6 t_X7_requireStation Q 5 [some (vR 0), some (vI s)] [vI s, vR 7] M
  refine AW.callV (d' := 0) [vI s] [] vm_X4_has rfl hX7_292 (okP_d pk_X7_requireStation 3 5 (.invokevirtual 292) 3 rfl) (by decide) rfl (Nat.le_of_ble_eq_true rfl) ?_
  refine c_X4_has s zp0 (by omega) (fun zr1 zzr1 => ?_)
  change AW ev false 6 t_X7_requireStation Q 8 [some (vR 0), some (vI s)] [vI zr1] M
  refine AW.go pk_X7_requireStation 4 2 rfl rfl ?_
  refine And.intro (show Inr zr1 from ⟨by omega, by omega⟩) (And.intro (fun zh2 => ?_) (fun zh2 => ?_))
  · replace zh2 : zr1 ≠ (0 : Int) := zh2
    change AW ev false 6 t_X7_requireStation Q 22 [some (vR 0), some (vI s)] [] M
    refine AW.go pk_X7_requireStation 10 1 rfl rfl ?_
    refine And.intro rfl ?_
    exact zQ
  · replace zh2 : ¬ (zr1 ≠ (0 : Int)) := zh2
    exfalso; omega
theorem c_X7_requireStation_x {ev : Ev} {Q : Out → Mem → Prop} {M : Mem}  (s : Int) (zp0 : SInv M) (zp1 : -2147483648 ≤ s ∧ s < 2147483648) (zp2 : ¬ (0 ≤ s ∧ s < M 7 3)) (zQ : Q (.inr "java/lang/IndexOutOfBoundsException") M) : AM ev true 6 t_X7_requireStation [vR 0, vI s] M Q := by
  have zs := zp0.1
  refine AM.of mt_X7_requireStation (Nat.le_of_ble_eq_true rfl) ?_
  change AW ev true 6 t_X7_requireStation Q 0 [some (vR 0), some (vI s)] [] M
  refine AW.go pk_X7_requireStation 0 4 rfl rfl ?_
  change AW ev true 6 t_X7_requireStation Q 5 [some (vR 0), some (vI s)] [vI s, vR 7] M
  refine AW.callV (d' := 0) [vI s] [] vm_X4_has rfl hX7_292 (okP_d pk_X7_requireStation 3 5 (.invokevirtual 292) 3 rfl) (by decide) rfl (Nat.le_of_ble_eq_true rfl) ?_
  refine c_X4_has s zp0 (by omega) (fun zr1 zzr1 => ?_)
  change AW ev true 6 t_X7_requireStation Q 8 [some (vR 0), some (vI s)] [vI zr1] M
  refine AW.go pk_X7_requireStation 4 2 rfl rfl ?_
  refine And.intro (show Inr zr1 from ⟨by omega, by omega⟩) (And.intro (fun zh2 => ?_) (fun zh2 => ?_))
  · replace zh2 : zr1 ≠ (0 : Int) := zh2
    exfalso; omega
  · replace zh2 : ¬ (zr1 ≠ (0 : Int)) := zh2
    change AW ev true 6 t_X7_requireStation Q 11 [some (vR 0), some (vI s)] [] M
    exact AW.thrW 7 (by decide) x_7_IOOBE rfl (by decide) (okP_d pk_X7_requireStation 5 11 (.new 217) 3 rfl) (okP_d pk_X7_requireStation 6 14 (.dup) 1 rfl) (okP_d pk_X7_requireStation 7 15 (.ldc_w 295) 3 rfl) (okP_d pk_X7_requireStation 8 18 (.invokespecial 221) 3 rfl) (okP_d pk_X7_requireStation 9 21 (.athrow) 1 rfl) zQ
theorem c_X7_requireMessage {ev : Ev} {Q : Out → Mem → Prop} {M : Mem}  (s : Int) (zp0 : 0 ≤ M 19 2 ∧ M 19 2 ≤ 20) (zp1 : -2147483648 ≤ s ∧ s < 2147483648) (zp2 : 0 ≤ s ∧ s < M 19 2) (zQ : Q (.inl none) M) : AM ev false 6 t_X7_requireMessage [vR 0, vI s] M Q := by
  refine AM.of mt_X7_requireMessage (Nat.le_of_ble_eq_true rfl) ?_
  change AW ev false 6 t_X7_requireMessage Q 0 [some (vR 0), some (vI s)] [] M
  refine AW.go pk_X7_requireMessage 0 4 rfl rfl ?_
  change AW ev false 6 t_X7_requireMessage Q 5 [some (vR 0), some (vI s)] [vI s, vR 19] M
  refine AW.callV (d' := 0) [vI s] [] vm_X6_has rfl hX7_299 (okP_d pk_X7_requireMessage 3 5 (.invokevirtual 299) 3 rfl) (by decide) rfl (Nat.le_of_ble_eq_true rfl) ?_
  refine c_X6_has s (by omega) (by omega) (fun zr1 zzr1 => ?_)
  change AW ev false 6 t_X7_requireMessage Q 8 [some (vR 0), some (vI s)] [vI zr1] M
  refine AW.go pk_X7_requireMessage 4 2 rfl rfl ?_
  refine And.intro (show Inr zr1 from ⟨by omega, by omega⟩) (And.intro (fun zh2 => ?_) (fun zh2 => ?_))
  · replace zh2 : zr1 ≠ (0 : Int) := zh2
    change AW ev false 6 t_X7_requireMessage Q 22 [some (vR 0), some (vI s)] [] M
    refine AW.go pk_X7_requireMessage 10 1 rfl rfl ?_
    refine And.intro rfl ?_
    exact zQ
  · replace zh2 : ¬ (zr1 ≠ (0 : Int)) := zh2
    exfalso; omega
theorem c_X7_requireMessage_x {ev : Ev} {Q : Out → Mem → Prop} {M : Mem}  (s : Int) (zp0 : 0 ≤ M 19 2 ∧ M 19 2 ≤ 20) (zp1 : -2147483648 ≤ s ∧ s < 2147483648) (zp2 : ¬ (0 ≤ s ∧ s < M 19 2)) (zQ : Q (.inr "java/lang/IndexOutOfBoundsException") M) : AM ev true 6 t_X7_requireMessage [vR 0, vI s] M Q := by
  refine AM.of mt_X7_requireMessage (Nat.le_of_ble_eq_true rfl) ?_
  change AW ev true 6 t_X7_requireMessage Q 0 [some (vR 0), some (vI s)] [] M
  refine AW.go pk_X7_requireMessage 0 4 rfl rfl ?_
  change AW ev true 6 t_X7_requireMessage Q 5 [some (vR 0), some (vI s)] [vI s, vR 19] M
  refine AW.callV (d' := 0) [vI s] [] vm_X6_has rfl hX7_299 (okP_d pk_X7_requireMessage 3 5 (.invokevirtual 299) 3 rfl) (by decide) rfl (Nat.le_of_ble_eq_true rfl) ?_
  refine c_X6_has s (by omega) (by omega) (fun zr1 zzr1 => ?_)
  change AW ev true 6 t_X7_requireMessage Q 8 [some (vR 0), some (vI s)] [vI zr1] M
  refine AW.go pk_X7_requireMessage 4 2 rfl rfl ?_
  refine And.intro (show Inr zr1 from ⟨by omega, by omega⟩) (And.intro (fun zh2 => ?_) (fun zh2 => ?_))
  · replace zh2 : zr1 ≠ (0 : Int) := zh2
    exfalso; omega
  · replace zh2 : ¬ (zr1 ≠ (0 : Int)) := zh2
    change AW ev true 6 t_X7_requireMessage Q 11 [some (vR 0), some (vI s)] [] M
    exact AW.thrW 12 (by decide) x_7_IOOBE rfl (by decide) (okP_d pk_X7_requireMessage 5 11 (.new 217) 3 rfl) (okP_d pk_X7_requireMessage 6 14 (.dup) 1 rfl) (okP_d pk_X7_requireMessage 7 15 (.ldc_w 300) 3 rfl) (okP_d pk_X7_requireMessage 8 18 (.invokespecial 221) 3 rfl) (okP_d pk_X7_requireMessage 9 21 (.athrow) 1 rfl) zQ
theorem c_X7_requirePair {ev : Ev} {Q : Out → Mem → Prop} {M : Mem}  (a : Int) (b : Int) (zp0 : SInv M) (zp1 : -2147483648 ≤ a ∧ a < 2147483648) (zp2 : -2147483648 ≤ b ∧ b < 2147483648) (zp3 : 0 ≤ a ∧ a < M 7 3) (zp4 : 0 ≤ b ∧ b < M 7 3) (zp5 : a ≠ b) (zQ : Q (.inl none) M) : AM ev false 7 t_X7_requirePair [vR 0, vI a, vI b] M Q := by
  refine AM.of mt_X7_requirePair (Nat.le_of_ble_eq_true rfl) ?_
  change AW ev false 7 t_X7_requirePair Q 0 [some (vR 0), some (vI a), some (vI b)] [] M
  refine AW.go pk_X7_requirePair 0 3 rfl rfl ?_
  change AW ev false 7 t_X7_requirePair Q 2 [some (vR 0), some (vI a), some (vI b)] [vI a, vR 0] M
  refine AW.callV (d' := 6) [vI a] [] vm_X7_requireStation rfl hX7_139 (okP_d pk_X7_requirePair 2 2 (.invokevirtual 139) 3 rfl) (by decide) rfl (Nat.le_of_ble_eq_true rfl) ?_
  refine c_X7_requireStation a zp0 (by omega) (by omega) ?_
  change AW ev false 7 t_X7_requirePair Q 5 [some (vR 0), some (vI a), some (vI b)] [] M
  refine AW.go pk_X7_requirePair 3 3 rfl rfl ?_
  change AW ev false 7 t_X7_requirePair Q 7 [some (vR 0), some (vI a), some (vI b)] [vI b, vR 0] M
  refine AW.callV (d' := 6) [vI b] [] vm_X7_requireStation rfl hX7_139 (okP_d pk_X7_requirePair 5 7 (.invokevirtual 139) 3 rfl) (by decide) rfl (Nat.le_of_ble_eq_true rfl) ?_
  refine c_X7_requireStation b zp0 (by omega) (by omega) ?_
  change AW ev false 7 t_X7_requirePair Q 10 [some (vR 0), some (vI a), some (vI b)] [] M
  refine AW.go pk_X7_requirePair 6 4 rfl rfl ?_
  refine And.intro (show Inr a ∧ Inr b from ⟨⟨by omega, by omega⟩, ⟨by omega, by omega⟩⟩) (And.intro (fun zh3 => ?_) (fun zh3 => ?_))
  · replace zh3 : a ≠ b := zh3
    change AW ev false 7 t_X7_requirePair Q 26 [some (vR 0), some (vI a), some (vI b)] [] M
    refine AW.go pk_X7_requirePair 14 1 rfl rfl ?_
    refine And.intro rfl ?_
    exact zQ
  · replace zh3 : ¬ (a ≠ b) := zh3
    exfalso; omega
theorem c_X7_requirePair_x1 {ev : Ev} {Q : Out → Mem → Prop} {M : Mem}  (a : Int) (b : Int) (zp0 : SInv M) (zp1 : -2147483648 ≤ a ∧ a < 2147483648) (zp2 : -2147483648 ≤ b ∧ b < 2147483648) (zp3 : ¬ (0 ≤ a ∧ a < M 7 3)) (zQ : Q (.inr "java/lang/IndexOutOfBoundsException") M) : AM ev true 7 t_X7_requirePair [vR 0, vI a, vI b] M Q := by
  refine AM.of mt_X7_requirePair (Nat.le_of_ble_eq_true rfl) ?_
  change AW ev true 7 t_X7_requirePair Q 0 [some (vR 0), some (vI a), some (vI b)] [] M
  refine AW.go pk_X7_requirePair 0 3 rfl rfl ?_
  change AW ev true 7 t_X7_requirePair Q 2 [some (vR 0), some (vI a), some (vI b)] [vI a, vR 0] M
  refine AW.callVT (d' := 6) [vI a] [] vm_X7_requireStation rfl hX7_139 (okP_d pk_X7_requirePair 2 2 (.invokevirtual 139) 3 rfl) (by decide) rfl (Nat.le_of_ble_eq_true rfl) ?_
  exact c_X7_requireStation_x a zp0 (by omega) (by omega) zQ
theorem c_X7_requirePair_x2 {ev : Ev} {Q : Out → Mem → Prop} {M : Mem}  (a : Int) (b : Int) (zp0 : SInv M) (zp1 : -2147483648 ≤ a ∧ a < 2147483648) (zp2 : -2147483648 ≤ b ∧ b < 2147483648) (zp3 : 0 ≤ a ∧ a < M 7 3) (zp4 : ¬ (0 ≤ b ∧ b < M 7 3)) (zQ : Q (.inr "java/lang/IndexOutOfBoundsException") M) : AM ev true 7 t_X7_requirePair [vR 0, vI a, vI b] M Q := by
  refine AM.of mt_X7_requirePair (Nat.le_of_ble_eq_true rfl) ?_
  change AW ev true 7 t_X7_requirePair Q 0 [some (vR 0), some (vI a), some (vI b)] [] M
  refine AW.go pk_X7_requirePair 0 3 rfl rfl ?_
  change AW ev true 7 t_X7_requirePair Q 2 [some (vR 0), some (vI a), some (vI b)] [vI a, vR 0] M
  refine AW.callV (d' := 6) [vI a] [] vm_X7_requireStation rfl hX7_139 (okP_d pk_X7_requirePair 2 2 (.invokevirtual 139) 3 rfl) (by decide) rfl (Nat.le_of_ble_eq_true rfl) ?_
  refine c_X7_requireStation a zp0 (by omega) (by omega) ?_
  change AW ev true 7 t_X7_requirePair Q 5 [some (vR 0), some (vI a), some (vI b)] [] M
  refine AW.go pk_X7_requirePair 3 3 rfl rfl ?_
  change AW ev true 7 t_X7_requirePair Q 7 [some (vR 0), some (vI a), some (vI b)] [vI b, vR 0] M
  refine AW.callVT (d' := 6) [vI b] [] vm_X7_requireStation rfl hX7_139 (okP_d pk_X7_requirePair 5 7 (.invokevirtual 139) 3 rfl) (by decide) rfl (Nat.le_of_ble_eq_true rfl) ?_
  exact c_X7_requireStation_x b zp0 (by omega) (by omega) zQ
theorem c_X7_requirePair_x3 {ev : Ev} {Q : Out → Mem → Prop} {M : Mem}  (a : Int) (b : Int) (zp0 : SInv M) (zp1 : -2147483648 ≤ a ∧ a < 2147483648) (zp2 : -2147483648 ≤ b ∧ b < 2147483648) (zp3 : 0 ≤ a ∧ a < M 7 3) (zp4 : 0 ≤ b ∧ b < M 7 3) (zp5 : a = b) (zQ : Q (.inr "java/lang/IllegalArgumentException") M) : AM ev true 7 t_X7_requirePair [vR 0, vI a, vI b] M Q := by
  refine AM.of mt_X7_requirePair (Nat.le_of_ble_eq_true rfl) ?_
  change AW ev true 7 t_X7_requirePair Q 0 [some (vR 0), some (vI a), some (vI b)] [] M
  refine AW.go pk_X7_requirePair 0 3 rfl rfl ?_
  change AW ev true 7 t_X7_requirePair Q 2 [some (vR 0), some (vI a), some (vI b)] [vI a, vR 0] M
  refine AW.callV (d' := 6) [vI a] [] vm_X7_requireStation rfl hX7_139 (okP_d pk_X7_requirePair 2 2 (.invokevirtual 139) 3 rfl) (by decide) rfl (Nat.le_of_ble_eq_true rfl) ?_
  refine c_X7_requireStation a zp0 (by omega) (by omega) ?_
  change AW ev true 7 t_X7_requirePair Q 5 [some (vR 0), some (vI a), some (vI b)] [] M
  refine AW.go pk_X7_requirePair 3 3 rfl rfl ?_
  change AW ev true 7 t_X7_requirePair Q 7 [some (vR 0), some (vI a), some (vI b)] [vI b, vR 0] M
  refine AW.callV (d' := 6) [vI b] [] vm_X7_requireStation rfl hX7_139 (okP_d pk_X7_requirePair 5 7 (.invokevirtual 139) 3 rfl) (by decide) rfl (Nat.le_of_ble_eq_true rfl) ?_
  refine c_X7_requireStation b zp0 (by omega) (by omega) ?_
  change AW ev true 7 t_X7_requirePair Q 10 [some (vR 0), some (vI a), some (vI b)] [] M
  refine AW.go pk_X7_requirePair 6 4 rfl rfl ?_
  refine And.intro (show Inr a ∧ Inr b from ⟨⟨by omega, by omega⟩, ⟨by omega, by omega⟩⟩) (And.intro (fun zh3 => ?_) (fun zh3 => ?_))
  · replace zh3 : a ≠ b := zh3
    exfalso; omega
  · replace zh3 : ¬ (a ≠ b) := zh3
    change AW ev true 7 t_X7_requirePair Q 15 [some (vR 0), some (vI a), some (vI b)] [] M
    exact AW.thrW 10 (by decide) x_7_IAE rfl (by decide) (okP_d pk_X7_requirePair 9 15 (.new 115) 3 rfl) (okP_d pk_X7_requirePair 10 18 (.dup) 1 rfl) (okP_d pk_X7_requirePair 11 19 (.ldc_w 297) 3 rfl) (okP_d pk_X7_requirePair 12 22 (.invokespecial 119) 3 rfl) (okP_d pk_X7_requirePair 13 25 (.athrow) 1 rfl) zQ
theorem c_X7_begin {ev : Ev} {Q : Out → Mem → Prop} {M : Mem}    (zQ : ∀ (r : Int), r = M 7 3 → Q (.inl (some (vI r))) (fillM (upM (upM (upM (fillM M 2 144 0) 7 3 0) 11 6 0) 19 2 0) 21 576 (-1))) : AM ev false 2 t_X7_begin [vR 0] M Q := by
  refine AM.of mt_X7_begin (Nat.le_of_ble_eq_true rfl) ?_
  change AW ev false 2 t_X7_begin Q 0 [some (vR 0), none] [] M
  refine AW.go pk_X7_begin 0 3 rfl rfl ?_
  change AW ev false 2 t_X7_begin Q 4 [some (vR 0), none] [vR 7] M
  refine AW.callV (d' := 0) [] [] vm_X4_size rfl hX7_62 (okP_d pk_X7_begin 2 4 (.invokevirtual 62) 3 rfl) (by decide) rfl (Nat.le_of_ble_eq_true rfl) ?_
  refine c_X4_size   (fun zr1 zzr1 => ?_)
  change AW ev false 2 t_X7_begin Q 7 [some (vR 0), none] [vI zr1] M
  refine AW.go pk_X7_begin 3 4 rfl rfl ?_
  refine And.intro (show 1 < mL t_X7_begin from (by decide)) ?_
  change AW ev false 2 t_X7_begin Q 12 [some (vR 0), some (vI zr1)] [vR 1] M
  refine AW.callV (d' := 1) [] [] vm_X5_flatten rfl hX7_66 (okP_d pk_X7_begin 6 12 (.invokevirtual 66) 3 rfl) (by decide) rfl (Nat.le_of_ble_eq_true rfl) ?_
  refine c_X5_flatten   ?_
  change AW ev false 2 t_X7_begin Q 15 [some (vR 0), some (vI zr1)] [] (fillM M 2 144 0)
  refine AW.go pk_X7_begin 7 3 rfl rfl ?_
  change AW ev false 2 t_X7_begin Q 19 [some (vR 0), some (vI zr1)] [vR 7] (fillM M 2 144 0)
  refine AW.callV (d' := 0) [] [] vm_X4_clear rfl hX7_69 (okP_d pk_X7_begin 9 19 (.invokevirtual 69) 3 rfl) (by decide) rfl (Nat.le_of_ble_eq_true rfl) ?_
  refine c_X4_clear   ?_
  change AW ev false 2 t_X7_begin Q 22 [some (vR 0), some (vI zr1)] [] (upM (fillM M 2 144 0) 7 3 0)
  refine AW.go pk_X7_begin 10 3 rfl rfl ?_
  change AW ev false 2 t_X7_begin Q 26 [some (vR 0), some (vI zr1)] [vR 11] (upM (fillM M 2 144 0) 7 3 0)
  refine AW.callV (d' := 0) [] [] vm_X0_clear rfl hX7_72 (okP_d pk_X7_begin 12 26 (.invokevirtual 72) 3 rfl) (by decide) rfl (Nat.le_of_ble_eq_true rfl) ?_
  refine c_X0_clear   ?_
  change AW ev false 2 t_X7_begin Q 29 [some (vR 0), some (vI zr1)] [] (upM (upM (fillM M 2 144 0) 7 3 0) 11 6 0)
  refine AW.go pk_X7_begin 13 3 rfl rfl ?_
  change AW ev false 2 t_X7_begin Q 33 [some (vR 0), some (vI zr1)] [vR 19] (upM (upM (fillM M 2 144 0) 7 3 0) 11 6 0)
  refine AW.callV (d' := 1) [] [] vm_X6_clear rfl hX7_73 (okP_d pk_X7_begin 15 33 (.invokevirtual 73) 3 rfl) (by decide) rfl (Nat.le_of_ble_eq_true rfl) ?_
  refine c_X6_clear   ?_
  change AW ev false 2 t_X7_begin Q 36 [some (vR 0), some (vI zr1)] [] (fillM (upM (upM (upM (fillM M 2 144 0) 7 3 0) 11 6 0) 19 2 0) 21 576 (-1))
  refine AW.go pk_X7_begin 16 2 rfl rfl ?_
  refine And.intro rfl ?_
  exact zQ zr1 (by first | rfl | omega)
theorem c_X7_setHeight {ev : Ev} {Q : Out → Mem → Prop} {M : Mem}  (c : Int) (v : Int) (zp0 : 0 ≤ c ∧ c < 144) (zp1 : 0 ≤ v ∧ v ≤ 500) (zQ : ∀ (r : Int), r = M 2 c → Q (.inl (some (vI r))) (upM M 2 c v)) : AM ev false 7 t_X7_setHeight [vR 0, vI c, vI v] M Q := by
  refine AM.of mt_X7_setHeight (Nat.le_of_ble_eq_true rfl) ?_
  change AW ev false 7 t_X7_setHeight Q 0 [some (vR 0), some (vI c), some (vI v), none] [] M
  refine AW.go pk_X7_setHeight 0 2 rfl rfl ?_
  change AW ev false 7 t_X7_setHeight Q 1 [some (vR 0), some (vI c), some (vI v), none] [vI c] M
  refine AW.callS (d' := 6) [vI c] [] sm_X7_requireCell hX7_74 (okP_d pk_X7_setHeight 1 1 (.invokestatic 74) 3 rfl) (by decide) rfl (Nat.le_of_ble_eq_true rfl) ?_
  refine c_X7_requireCell c (by omega) ?_
  change AW ev false 7 t_X7_setHeight Q 4 [some (vR 0), some (vI c), some (vI v), none] [] M
  refine AW.go pk_X7_setHeight 2 4 rfl rfl ?_
  change AW ev false 7 t_X7_setHeight Q 9 [some (vR 0), some (vI c), some (vI v), none] [vI 500, vI 0, vI v] M
  refine AW.callS (d' := 6) [vI v, vI 0, vI 500] [] sm_X7_requireRange hX7_78 (okP_d pk_X7_setHeight 5 9 (.invokestatic 78) 3 rfl) (by decide) rfl (Nat.le_of_ble_eq_true rfl) ?_
  refine c_X7_requireRange v 0 500 (by omega) (by omega) (by omega) (by omega) ?_
  change AW ev false 7 t_X7_setHeight Q 12 [some (vR 0), some (vI c), some (vI v), none] [] M
  refine AW.go pk_X7_setHeight 6 4 rfl rfl ?_
  change AW ev false 7 t_X7_setHeight Q 17 [some (vR 0), some (vI c), some (vI v), none] [vI c, vR 1] M
  refine AW.callV (d' := 1) [vI c] [] vm_X5_heightOf rfl hX7_82 (okP_d pk_X7_setHeight 9 17 (.invokevirtual 82) 3 rfl) (by decide) rfl (Nat.le_of_ble_eq_true rfl) ?_
  refine c_X5_heightOf c (by omega) (fun zr3 zzr3 => ?_)
  change AW ev false 7 t_X7_setHeight Q 20 [some (vR 0), some (vI c), some (vI v), none] [vI zr3] M
  refine AW.go pk_X7_setHeight 10 6 rfl rfl ?_
  refine And.intro (show 3 < mL t_X7_setHeight from (by decide)) ?_
  change AW ev false 7 t_X7_setHeight Q 27 [some (vR 0), some (vI c), some (vI v), some (vI zr3)] [vI v, vI c, vR 1] M
  refine AW.callV (d' := 1) [vI c, vI v] [] vm_X5_change rfl hX7_86 (okP_d pk_X7_setHeight 15 27 (.invokevirtual 86) 3 rfl) (by decide) rfl (Nat.le_of_ble_eq_true rfl) ?_
  refine c_X5_change c v (by omega) ?_
  change AW ev false 7 t_X7_setHeight Q 30 [some (vR 0), some (vI c), some (vI v), some (vI zr3)] [] (upM M 2 c v)
  refine AW.go pk_X7_setHeight 16 2 rfl rfl ?_
  refine And.intro rfl ?_
  exact zQ zr3 (by first | rfl | omega)
theorem c_X7_setHeight_x1 {ev : Ev} {Q : Out → Mem → Prop} {M : Mem}  (c : Int) (v : Int) (zp0 : -2147483648 ≤ c ∧ c < 2147483648) (zp1 : -2147483648 ≤ v ∧ v < 2147483648) (zp2 : ¬ (0 ≤ c ∧ c < 144)) (zQ : Q (.inr "java/lang/IndexOutOfBoundsException") M) : AM ev true 7 t_X7_setHeight [vR 0, vI c, vI v] M Q := by
  refine AM.of mt_X7_setHeight (Nat.le_of_ble_eq_true rfl) ?_
  change AW ev true 7 t_X7_setHeight Q 0 [some (vR 0), some (vI c), some (vI v), none] [] M
  refine AW.go pk_X7_setHeight 0 2 rfl rfl ?_
  change AW ev true 7 t_X7_setHeight Q 1 [some (vR 0), some (vI c), some (vI v), none] [vI c] M
  refine AW.callST (d' := 6) [vI c] [] sm_X7_requireCell hX7_74 (okP_d pk_X7_setHeight 1 1 (.invokestatic 74) 3 rfl) (by decide) rfl (Nat.le_of_ble_eq_true rfl) ?_
  exact c_X7_requireCell_x c (by omega) (by omega) zQ
theorem c_X7_setHeight_x2 {ev : Ev} {Q : Out → Mem → Prop} {M : Mem}  (c : Int) (v : Int) (zp0 : -2147483648 ≤ c ∧ c < 2147483648) (zp1 : -2147483648 ≤ v ∧ v < 2147483648) (zp2 : 0 ≤ c ∧ c < 144) (zp3 : ¬ (0 ≤ v ∧ v ≤ 500)) (zQ : Q (.inr "java/lang/IllegalArgumentException") M) : AM ev true 7 t_X7_setHeight [vR 0, vI c, vI v] M Q := by
  refine AM.of mt_X7_setHeight (Nat.le_of_ble_eq_true rfl) ?_
  change AW ev true 7 t_X7_setHeight Q 0 [some (vR 0), some (vI c), some (vI v), none] [] M
  refine AW.go pk_X7_setHeight 0 2 rfl rfl ?_
  change AW ev true 7 t_X7_setHeight Q 1 [some (vR 0), some (vI c), some (vI v), none] [vI c] M
  refine AW.callS (d' := 6) [vI c] [] sm_X7_requireCell hX7_74 (okP_d pk_X7_setHeight 1 1 (.invokestatic 74) 3 rfl) (by decide) rfl (Nat.le_of_ble_eq_true rfl) ?_
  refine c_X7_requireCell c (by omega) ?_
  change AW ev true 7 t_X7_setHeight Q 4 [some (vR 0), some (vI c), some (vI v), none] [] M
  refine AW.go pk_X7_setHeight 2 4 rfl rfl ?_
  change AW ev true 7 t_X7_setHeight Q 9 [some (vR 0), some (vI c), some (vI v), none] [vI 500, vI 0, vI v] M
  refine AW.callST (d' := 6) [vI v, vI 0, vI 500] [] sm_X7_requireRange hX7_78 (okP_d pk_X7_setHeight 5 9 (.invokestatic 78) 3 rfl) (by decide) rfl (Nat.le_of_ble_eq_true rfl) ?_
  exact c_X7_requireRange_x v 0 500 (by omega) (by omega) (by omega) (by omega) zQ
