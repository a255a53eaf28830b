theorem c_X7_numberOf_0 {ev : Ev} {Q : Out → Mem → Prop} {M : Mem}   (zp0 : TInv M) (zp1 : SInv M) (zp2 : KInv M) (zp3 : GInv M) (zQ : ∀ (r : Int), r = M 7 3 → Q (.inl (some (vI r))) M) : AM ev false 6 t_X7_numberOf [vR 0, vI 0] M Q := by
  refine AM.of mt_X7_numberOf (Nat.le_of_ble_eq_true rfl) ?_
  change AW ev false 6 t_X7_numberOf Q 0 [some (vR 0), some (vI 0)] [] M
  refine AW.go pk_X7_numberOf 0 2 rfl rfl ?_
  refine And.intro (show Inr 0 from ⟨by omega, by omega⟩) ?_
  change AW ev false 6 t_X7_numberOf Q 48 [some (vR 0), some (vI 0)] [] M
  refine AW.go pk_X7_numberOf 2 3 rfl rfl ?_
  change AW ev false 6 t_X7_numberOf Q 52 [some (vR 0), some (vI 0)] [vR 7] M
  refine AW.callV (d' := 0) [] [] vm_X4_size rfl hX7_62 (okP_d pk_X7_numberOf 4 52 (.invokevirtual 62) 3 rfl) (by decide) rfl (Nat.le_of_ble_eq_true rfl) ?_
  refine c_X4_size   (fun w1 zw1 => ?_)
  change AW ev false 6 t_X7_numberOf Q 55 [some (vR 0), some (vI 0)] [vI w1] M
  refine AW.go pk_X7_numberOf 5 1 rfl rfl ?_
  refine And.intro rfl ?_
  exact zQ w1 zw1
theorem c_X7_numberOf_1 {ev : Ev} {Q : Out → Mem → Prop} {M : Mem}   (zp0 : TInv M) (zp1 : SInv M) (zp2 : KInv M) (zp3 : GInv M) (zQ : ∀ (r : Int), r = M 11 6 → Q (.inl (some (vI r))) M) : AM ev false 6 t_X7_numberOf [vR 0, vI 1] M Q := by
  refine AM.of mt_X7_numberOf (Nat.le_of_ble_eq_true rfl) ?_
  change AW ev false 6 t_X7_numberOf Q 0 [some (vR 0), some (vI 1)] [] M
  refine AW.go pk_X7_numberOf 0 2 rfl rfl ?_
  refine And.intro (show Inr 1 from ⟨by omega, by omega⟩) ?_
  change AW ev false 6 t_X7_numberOf Q 56 [some (vR 0), some (vI 1)] [] M
  refine AW.go pk_X7_numberOf 6 3 rfl rfl ?_
  change AW ev false 6 t_X7_numberOf Q 60 [some (vR 0), some (vI 1)] [vR 11] M
  refine AW.callV (d' := 0) [] [] vm_X0_size rfl hX7_159 (okP_d pk_X7_numberOf 8 60 (.invokevirtual 159) 3 rfl) (by decide) rfl (Nat.le_of_ble_eq_true rfl) ?_
  refine c_X0_size   (fun w1 zw1 => ?_)
  change AW ev false 6 t_X7_numberOf Q 63 [some (vR 0), some (vI 1)] [vI w1] M
  refine AW.go pk_X7_numberOf 9 1 rfl rfl ?_
  refine And.intro rfl ?_
  exact zQ w1 zw1
theorem c_X7_numberOf_2 {ev : Ev} {Q : Out → Mem → Prop} {M : Mem}   (zp0 : TInv M) (zp1 : SInv M) (zp2 : KInv M) (zp3 : GInv M) (zQ : ∀ (r : Int), r = M 19 2 → Q (.inl (some (vI r))) M) : AM ev false 6 t_X7_numberOf [vR 0, vI 2] M Q := by
  refine AM.of mt_X7_numberOf (Nat.le_of_ble_eq_true rfl) ?_
  change AW ev false 6 t_X7_numberOf Q 0 [some (vR 0), some (vI 2)] [] M
  refine AW.go pk_X7_numberOf 0 2 rfl rfl ?_
  refine And.intro (show Inr 2 from ⟨by omega, by omega⟩) ?_
  change AW ev false 6 t_X7_numberOf Q 64 [some (vR 0), some (vI 2)] [] M
  refine AW.go pk_X7_numberOf 10 3 rfl rfl ?_
  change AW ev false 6 t_X7_numberOf Q 68 [some (vR 0), some (vI 2)] [vR 19] M
  refine AW.callV (d' := 0) [] [] vm_X6_size rfl hX7_168 (okP_d pk_X7_numberOf 12 68 (.invokevirtual 168) 3 rfl) (by decide) rfl (Nat.le_of_ble_eq_true rfl) ?_
  refine c_X6_size   (fun w1 zw1 => ?_)
  change AW ev false 6 t_X7_numberOf Q 71 [some (vR 0), some (vI 2)] [vI w1] M
  refine AW.go pk_X7_numberOf 13 1 rfl rfl ?_
  refine And.intro rfl ?_
  exact zQ w1 zw1
theorem c_X7_numberOf_3 {ev : Ev} {Q : Out → Mem → Prop} {M : Mem}   (zp0 : TInv M) (zp1 : SInv M) (zp2 : KInv M) (zp3 : GInv M) (zQ : ∀ (r : Int), r = grT (M 2) 144 0 0 → Q (.inl (some (vI r))) M) : AM ev false 6 t_X7_numberOf [vR 0, vI 3] M Q := by
  refine AM.of mt_X7_numberOf (Nat.le_of_ble_eq_true rfl) ?_
  change AW ev false 6 t_X7_numberOf Q 0 [some (vR 0), some (vI 3)] [] M
  refine AW.go pk_X7_numberOf 0 2 rfl rfl ?_
  refine And.intro (show Inr 3 from ⟨by omega, by omega⟩) ?_
  change AW ev false 6 t_X7_numberOf Q 72 [some (vR 0), some (vI 3)] [] M
  refine AW.go pk_X7_numberOf 14 3 rfl rfl ?_
  change AW ev false 6 t_X7_numberOf Q 76 [some (vR 0), some (vI 3)] [vR 1] M
  refine AW.callV (d' := 1) [] [] vm_X5_greatest rfl hX7_266 (okP_d pk_X7_numberOf 16 76 (.invokevirtual 266) 3 rfl) (by decide) rfl (Nat.le_of_ble_eq_true rfl) ?_
  refine c_X5_greatest  zp0 (fun w1 zw1 => ?_)
  change AW ev false 6 t_X7_numberOf Q 79 [some (vR 0), some (vI 3)] [vI w1] M
  refine AW.go pk_X7_numberOf 17 1 rfl rfl ?_
  refine And.intro rfl ?_
  exact zQ w1 zw1
theorem c_X7_numberOf_4 {ev : Ev} {Q : Out → Mem → Prop} {M : Mem}   (zp0 : TInv M) (zp1 : SInv M) (zp2 : KInv M) (zp3 : GInv M) (zQ : ∀ (r : Int), r = smT (M 2) 144 0 0 → Q (.inl (some (vI r))) M) : AM ev false 6 t_X7_numberOf [vR 0, vI 4] M Q := by
  refine AM.of mt_X7_numberOf (Nat.le_of_ble_eq_true rfl) ?_
  change AW ev false 6 t_X7_numberOf Q 0 [some (vR 0), some (vI 4)] [] M
  refine AW.go pk_X7_numberOf 0 2 rfl rfl ?_
  refine And.intro (show Inr 4 from ⟨by omega, by omega⟩) ?_
  change AW ev false 6 t_X7_numberOf Q 80 [some (vR 0), some (vI 4)] [] M
  refine AW.go pk_X7_numberOf 18 3 rfl rfl ?_
  change AW ev false 6 t_X7_numberOf Q 84 [some (vR 0), some (vI 4)] [vR 1] M
  refine AW.callV (d' := 0) [] [] vm_X5_sum rfl hX7_269 (okP_d pk_X7_numberOf 20 84 (.invokevirtual 269) 3 rfl) (by decide) rfl (Nat.le_of_ble_eq_true rfl) ?_
  refine c_X5_sum  zp0 (fun w1 zw1 => ?_)
  change AW ev false 6 t_X7_numberOf Q 87 [some (vR 0), some (vI 4)] [vI w1] M
  refine AW.go pk_X7_numberOf 21 1 rfl rfl ?_
  refine And.intro rfl ?_
  exact zQ w1 zw1
theorem c_X7_numberOf_5 {ev : Ev} {Q : Out → Mem → Prop} {M : Mem}   (zp0 : TInv M) (zp1 : SInv M) (zp2 : KInv M) (zp3 : GInv M) (zQ : ∀ (r : Int), r = c2T (M 10) (M 7 3).toNat 0 0 → Q (.inl (some (vI r))) M) : AM ev false 6 t_X7_numberOf [vR 0, vI 5] M Q := by
  refine AM.of mt_X7_numberOf (Nat.le_of_ble_eq_true rfl) ?_
  change AW ev false 6 t_X7_numberOf Q 0 [some (vR 0), some (vI 5)] [] M
  refine AW.go pk_X7_numberOf 0 2 rfl rfl ?_
  refine And.intro (show Inr 5 from ⟨by omega, by omega⟩) ?_
  change AW ev false 6 t_X7_numberOf Q 88 [some (vR 0), some (vI 5)] [] M
  refine AW.go pk_X7_numberOf 22 3 rfl rfl ?_
  change AW ev false 6 t_X7_numberOf Q 92 [some (vR 0), some (vI 5)] [vR 7] M
  refine AW.callV (d' := 0) [] [] vm_X4_withTwoMirrors rfl hX7_156 (okP_d pk_X7_numberOf 24 92 (.invokevirtual 156) 3 rfl) (by decide) rfl (Nat.le_of_ble_eq_true rfl) ?_
  refine c_X4_withTwoMirrors  zp1 (fun w1 zw1 => ?_)
  change AW ev false 6 t_X7_numberOf Q 95 [some (vR 0), some (vI 5)] [vI w1] M
  refine AW.go pk_X7_numberOf 25 1 rfl rfl ?_
  refine And.intro rfl ?_
  exact zQ w1 zw1
theorem c_X7_numberOf_6 {ev : Ev} {Q : Out → Mem → Prop} {M : Mem}   (zp0 : TInv M) (zp1 : SInv M) (zp2 : KInv M) (zp3 : GInv M) (zQ : ∀ (r : Int), r = siA (betF (M 2) (M 8) (M 9)) (M 7 3).toNat (M 7 3).toNat 0 0 → Q (.inl (some (vI r))) M) : AM ev false 6 t_X7_numberOf [vR 0, vI 6] M Q := by
  refine AM.of mt_X7_numberOf (Nat.le_of_ble_eq_true rfl) ?_
  change AW ev false 6 t_X7_numberOf Q 0 [some (vR 0), some (vI 6)] [] M
  refine AW.go pk_X7_numberOf 0 2 rfl rfl ?_
  refine And.intro (show Inr 6 from ⟨by omega, by omega⟩) ?_
  change AW ev false 6 t_X7_numberOf Q 96 [some (vR 0), some (vI 6)] [] M
  refine AW.go pk_X7_numberOf 26 3 rfl rfl ?_
  change AW ev false 6 t_X7_numberOf Q 100 [some (vR 0), some (vI 6)] [vR 18] M
  refine AW.callV (d' := 5) [] [] vm_X2_pairsInSight rfl hX7_272 (okP_d pk_X7_numberOf 28 100 (.invokevirtual 272) 3 rfl) (by decide) rfl (Nat.le_of_ble_eq_true rfl) ?_
  refine c_X2_pairsInSight  zp0 zp1 (fun w1 zw1 => ?_)
  change AW ev false 6 t_X7_numberOf Q 103 [some (vR 0), some (vI 6)] [vI w1] M
  refine AW.go pk_X7_numberOf 29 1 rfl rfl ?_
  refine And.intro rfl ?_
  exact zQ w1 zw1
theorem c_X7_numberOf_7 {ev : Ev} {Q : Out → Mem → Prop} {M : Mem}   (zp0 : TInv M) (zp1 : SInv M) (zp2 : KInv M) (zp3 : GInv M) (zQ : ∀ (r : Int), r = bzA (M 21) 8 0 0 → Q (.inl (some (vI r))) M) : AM ev false 6 t_X7_numberOf [vR 0, vI 7] M Q := by
  refine AM.of mt_X7_numberOf (Nat.le_of_ble_eq_true rfl) ?_
  change AW ev false 6 t_X7_numberOf Q 0 [some (vR 0), some (vI 7)] [] M
  refine AW.go pk_X7_numberOf 0 2 rfl rfl ?_
  refine And.intro (show Inr 7 from ⟨by omega, by omega⟩) ?_
  change AW ev false 6 t_X7_numberOf Q 104 [some (vR 0), some (vI 7)] [] M
  refine AW.go pk_X7_numberOf 30 3 rfl rfl ?_
  change AW ev false 6 t_X7_numberOf Q 108 [some (vR 0), some (vI 7)] [vR 19] M
  refine AW.callV (d' := 3) [] [] vm_X6_allBusyTurns rfl hX7_228 (okP_d pk_X7_numberOf 32 108 (.invokevirtual 228) 3 rfl) (by decide) rfl (Nat.le_of_ble_eq_true rfl) ?_
  refine c_X6_allBusyTurns  zp3.2.2 (fun w1 zw1 => ?_)
  change AW ev false 6 t_X7_numberOf Q 111 [some (vR 0), some (vI 7)] [vI w1] M
  refine AW.go pk_X7_numberOf 33 1 rfl rfl ?_
  refine And.intro rfl ?_
  exact zQ w1 zw1
theorem c_X7_numberOf_8 {ev : Ev} {Q : Out → Mem → Prop} {M : Mem}   (zp0 : TInv M) (zp1 : SInv M) (zp2 : KInv M) (zp3 : GInv M) (zQ : ∀ (r : Int), r = laT (fun m => M 20 (27 * m + 4)) (M 19 2).toNat 0 (-1) → Q (.inl (some (vI r))) M) : AM ev false 6 t_X7_numberOf [vR 0, vI 8] M Q := by
  refine AM.of mt_X7_numberOf (Nat.le_of_ble_eq_true rfl) ?_
  change AW ev false 6 t_X7_numberOf Q 0 [some (vR 0), some (vI 8)] [] M
  refine AW.go pk_X7_numberOf 0 2 rfl rfl ?_
  refine And.intro (show Inr 8 from ⟨by omega, by omega⟩) ?_
  change AW ev false 6 t_X7_numberOf Q 112 [some (vR 0), some (vI 8)] [] M
  refine AW.go pk_X7_numberOf 34 3 rfl rfl ?_
  change AW ev false 6 t_X7_numberOf Q 116 [some (vR 0), some (vI 8)] [vR 19] M
  refine AW.callV (d' := 2) [] [] vm_X6_latestArrival rfl hX7_275 (okP_d pk_X7_numberOf 36 116 (.invokevirtual 275) 3 rfl) (by decide) rfl (Nat.le_of_ble_eq_true rfl) ?_
  refine c_X6_latestArrival  zp3 (fun w1 zw1 => ?_)
  change AW ev false 6 t_X7_numberOf Q 119 [some (vR 0), some (vI 8)] [vI w1] M
  refine AW.go pk_X7_numberOf 37 1 rfl rfl ?_
  refine And.intro rfl ?_
  exact zQ w1 zw1
theorem c_X7_numberOf {ev : Ev} {Q : Out → Mem → Prop} {M : Mem}  (w : Int) (zp0 : TInv M) (zp1 : SInv M) (zp2 : KInv M) (zp3 : GInv M) (zp4 : 0 ≤ w ∧ w < 9) (zQ : ∀ (r : Int), r = nmC M w ∧ (-2147483648 ≤ r ∧ r < 2147483648) → Q (.inl (some (vI r))) M) : AM ev false 6 t_X7_numberOf [vR 0, vI w] M Q := by
  have zb := nmC_bd zp0 zp1 zp2 zp3 w
  have zc : w = 0 ∨ w = 1 ∨ w = 2 ∨ w = 3 ∨ w = 4 ∨ w = 5 ∨ w = 6 ∨ w = 7 ∨ w = 8 := by omega
  rcases zc with rfl | rfl | rfl | rfl | rfl | rfl | rfl | rfl | rfl
  · exact c_X7_numberOf_0 zp0 zp1 zp2 zp3 (fun r zr => zQ r (by rw [show r = nmC M 0 from zr]; exact ⟨rfl, zb⟩))
  · exact c_X7_numberOf_1 zp0 zp1 zp2 zp3 (fun r zr => zQ r (by rw [show r = nmC M 1 from zr]; exact ⟨rfl, zb⟩))
  · exact c_X7_numberOf_2 zp0 zp1 zp2 zp3 (fun r zr => zQ r (by rw [show r = nmC M 2 from zr]; exact ⟨rfl, zb⟩))
  · exact c_X7_numberOf_3 zp0 zp1 zp2 zp3 (fun r zr => zQ r (by rw [show r = nmC M 3 from zr]; exact ⟨rfl, zb⟩))
  · exact c_X7_numberOf_4 zp0 zp1 zp2 zp3 (fun r zr => zQ r (by rw [show r = nmC M 4 from zr]; exact ⟨rfl, zb⟩))
  · exact c_X7_numberOf_5 zp0 zp1 zp2 zp3 (fun r zr => zQ r (by rw [show r = nmC M 5 from zr]; exact ⟨rfl, zb⟩))
  · exact c_X7_numberOf_6 zp0 zp1 zp2 zp3 (fun r zr => zQ r (by rw [show r = nmC M 6 from zr]; exact ⟨rfl, zb⟩))
  · exact c_X7_numberOf_7 zp0 zp1 zp2 zp3 (fun r zr => zQ r (by rw [show r = nmC M 7 from zr]; exact ⟨rfl, zb⟩))
  · exact c_X7_numberOf_8 zp0 zp1 zp2 zp3 (fun r zr => zQ r (by rw [show r = nmC M 8 from zr]; exact ⟨rfl, zb⟩))
theorem c_X7_count {ev : Ev} {Q : Out → Mem → Prop} {M : Mem}  (w : Int) (zp0 : TInv M) (zp1 : SInv M) (zp2 : KInv M) (zp3 : GInv M) (zp4 : -2147483648 ≤ w ∧ w < 2147483648) (zp5 : 0 ≤ w ∧ w ≤ 8) (zQ : ∀ (r : Int), r = nmC M w ∧ (-2147483648 ≤ r ∧ r < 2147483648) → Q (.inl (some (vI r))) M) : AM ev false 7 t_X7_count [vR 0, vI w] M Q := by
  refine AM.of mt_X7_count (Nat.le_of_ble_eq_true rfl) ?_
  change AW ev false 7 t_X7_count Q 0 [some (vR 0), some (vI w)] [] M
  refine AW.go pk_X7_count 0 4 rfl rfl ?_
  change AW ev false 7 t_X7_count Q 4 [some (vR 0), some (vI w)] [vI 8, vI 0, vI w] M
  refine AW.callS (d' := 6) [vI w, vI 0, vI 8] [] sm_X7_requireRange hX7_78 (okP_d pk_X7_count 3 4 (.invokestatic 78) 3 rfl) (by decide) rfl (Nat.le_of_ble_eq_true rfl) ?_
  refine c_X7_requireRange w 0 8 (by omega) (by omega) (by omega) (by omega) ?_
  change AW ev false 7 t_X7_count Q 7 [some (vR 0), some (vI w)] [] M
  refine AW.go pk_X7_count 4 3 rfl rfl ?_
  change AW ev false 7 t_X7_count Q 9 [some (vR 0), some (vI w)] [vI w, vR 0] M
  refine AW.callV (d' := 6) [vI w] [] vm_X7_numberOf rfl hX7_186 (okP_d pk_X7_count 6 9 (.invokevirtual 186) 3 rfl) (by decide) rfl (Nat.le_of_ble_eq_true rfl) ?_
  refine c_X7_numberOf w zp0 zp1 zp2 zp3 (by omega) (fun w1 zw1 => ?_)
  change AW ev false 7 t_X7_count Q 12 [some (vR 0), some (vI w)] [vI w1] M
  refine AW.go pk_X7_count 7 1 rfl rfl ?_
  refine And.intro rfl ?_
  exact zQ w1 zw1
theorem c_X7_count_x1 {ev : Ev} {Q : Out → Mem → Prop} {M : Mem}  (w : Int) (zp0 : -2147483648 ≤ w ∧ w < 2147483648) (zp1 : ¬ (0 ≤ w ∧ w ≤ 8)) (zQ : Q (.inr "java/lang/IllegalArgumentException") M) : AM ev true 7 t_X7_count [vR 0, vI w] M Q := by
  refine AM.of mt_X7_count (Nat.le_of_ble_eq_true rfl) ?_
  change AW ev true 7 t_X7_count Q 0 [some (vR 0), some (vI w)] [] M
  refine AW.go pk_X7_count 0 4 rfl rfl ?_
  change AW ev true 7 t_X7_count Q 4 [some (vR 0), some (vI w)] [vI 8, vI 0, vI w] M
  refine AW.callST (d' := 6) [vI w, vI 0, vI 8] [] sm_X7_requireRange hX7_78 (okP_d pk_X7_count 3 4 (.invokestatic 78) 3 rfl) (by decide) rfl (Nat.le_of_ble_eq_true rfl) ?_
  exact c_X7_requireRange_x w 0 8 (by omega) (by omega) (by omega) (by omega) zQ
theorem c_X7_stationProperty_0 {ev : Ev} {Q : Out → Mem → Prop} {M : Mem}  (s : Int) (zp0 : TInv M) (zp1 : SInv M) (zp2 : KInv M) (zp3 : GInv M) (zp4 : 0 ≤ s ∧ s < M 7 3) (zQ : ∀ (r : Int), r = M 8 s → Q (.inl (some (vI r))) M) : AM ev false 5 t_X7_stationProperty [vR 0, vI s, vI 0] M Q := by
  have zs := zp1.1
  refine AM.of mt_X7_stationProperty (Nat.le_of_ble_eq_true rfl) ?_
  change AW ev false 5 t_X7_stationProperty Q 0 [some (vR 0), some (vI s), some (vI 0)] [] M
  refine AW.go pk_X7_stationProperty 0 2 rfl rfl ?_
  refine And.intro (show Inr 0 from ⟨by omega, by omega⟩) ?_
  change AW ev false 5 t_X7_stationProperty Q 36 [some (vR 0), some (vI s), some (vI 0)] [] M
  refine AW.go pk_X7_stationProperty 2 4 rfl rfl ?_
  change AW ev false 5 t_X7_stationProperty Q 41 [some (vR 0), some (vI s), some (vI 0)] [vI s, vR 7] M
  refine AW.callV (d' := 1) [vI s] [] vm_X4_cellOf rfl hX7_278 (okP_d pk_X7_stationProperty 5 41 (.invokevirtual 278) 3 rfl) (by decide) rfl (Nat.le_of_ble_eq_true rfl) ?_
  refine c_X4_cellOf s zp1 (by omega) (fun w1 zw1 => ?_)
  change AW ev false 5 t_X7_stationProperty Q 44 [some (vR 0), some (vI s), some (vI 0)] [vI w1] M
  refine AW.go pk_X7_stationProperty 6 1 rfl rfl ?_
  refine And.intro rfl ?_
  exact zQ w1 zw1
theorem c_X7_stationProperty_1 {ev : Ev} {Q : Out → Mem → Prop} {M : Mem}  (s : Int) (zp0 : TInv M) (zp1 : SInv M) (zp2 : KInv M) (zp3 : GInv M) (zp4 : 0 ≤ s ∧ s < M 7 3) (zQ : ∀ (r : Int), r = M 9 s → Q (.inl (some (vI r))) M) : AM ev false 5 t_X7_stationProperty [vR 0, vI s, vI 1] M Q := by
  have zs := zp1.1
  refine AM.of mt_X7_stationProperty (Nat.le_of_ble_eq_true rfl) ?_
  change AW ev false 5 t_X7_stationProperty Q 0 [some (vR 0), some (vI s), some (vI 1)] [] M
  refine AW.go pk_X7_stationProperty 0 2 rfl rfl ?_
  refine And.intro (show Inr 1 from ⟨by omega, by omega⟩) ?_
  change AW ev false 5 t_X7_stationProperty Q 45 [some (vR 0), some (vI s), some (vI 1)] [] M
  refine AW.go pk_X7_stationProperty 7 4 rfl rfl ?_
  change AW ev false 5 t_X7_stationProperty Q 50 [some (vR 0), some (vI s), some (vI 1)] [vI s, vR 7] M
  refine AW.callV (d' := 1) [vI s] [] vm_X4_mastOf rfl hX7_142 (okP_d pk_X7_stationProperty 10 50 (.invokevirtual 142) 3 rfl) (by decide) rfl (Nat.le_of_ble_eq_true rfl) ?_
  refine c_X4_mastOf s zp1 (by omega) (fun w1 zw1 => ?_)
  change AW ev false 5 t_X7_stationProperty Q 53 [some (vR 0), some (vI s), some (vI 1)] [vI w1] M
  refine AW.go pk_X7_stationProperty 11 1 rfl rfl ?_
  refine And.intro rfl ?_
  exact zQ w1 zw1
theorem c_X7_stationProperty_2 {ev : Ev} {Q : Out → Mem → Prop} {M : Mem}  (s : Int) (zp0 : TInv M) (zp1 : SInv M) (zp2 : KInv M) (zp3 : GInv M) (zp4 : 0 ≤ s ∧ s < M 7 3) (zQ : ∀ (r : Int), r = M 10 s → Q (.inl (some (vI r))) M) : AM ev false 5 t_X7_stationProperty [vR 0, vI s, vI 2] M Q := by
  have zs := zp1.1
  refine AM.of mt_X7_stationProperty (Nat.le_of_ble_eq_true rfl) ?_
  change AW ev false 5 t_X7_stationProperty Q 0 [some (vR 0), some (vI s), some (vI 2)] [] M
  refine AW.go pk_X7_stationProperty 0 2 rfl rfl ?_
  refine And.intro (show Inr 2 from ⟨by omega, by omega⟩) ?_
  change AW ev false 5 t_X7_stationProperty Q 54 [some (vR 0), some (vI s), some (vI 2)] [] M
  refine AW.go pk_X7_stationProperty 12 4 rfl rfl ?_
  change AW ev false 5 t_X7_stationProperty Q 59 [some (vR 0), some (vI s), some (vI 2)] [vI s, vR 7] M
  refine AW.callV (d' := 1) [vI s] [] vm_X4_mirrorsOf rfl hX7_148 (okP_d pk_X7_stationProperty 15 59 (.invokevirtual 148) 3 rfl) (by decide) rfl (Nat.le_of_ble_eq_true rfl) ?_
  refine c_X4_mirrorsOf s zp1 (by omega) (fun w1 zw1 => ?_)
  change AW ev false 5 t_X7_stationProperty Q 62 [some (vR 0), some (vI s), some (vI 2)] [vI w1] M
  refine AW.go pk_X7_stationProperty 16 1 rfl rfl ?_
  refine And.intro rfl ?_
  exact zQ w1 zw1
theorem c_X7_stationProperty_3 {ev : Ev} {Q : Out → Mem → Prop} {M : Mem}  (s : Int) (zp0 : TInv M) (zp1 : SInv M) (zp2 : KInv M) (zp3 : GInv M) (zp4 : 0 ≤ s ∧ s < M 7 3) (zQ : ∀ (r : Int), r = eyeF (M 2) (M 8) (M 9) s → Q (.inl (some (vI r))) M) : AM ev false 5 t_X7_stationProperty [vR 0, vI s, vI 3] M Q := by
  have zs := zp1.1
  refine AM.of mt_X7_stationProperty (Nat.le_of_ble_eq_true rfl) ?_
  change AW ev false 5 t_X7_stationProperty Q 0 [some (vR 0), some (vI s), some (vI 3)] [] M
  refine AW.go pk_X7_stationProperty 0 2 rfl rfl ?_
  refine And.intro (show Inr 3 from ⟨by omega, by omega⟩) ?_
  change AW ev false 5 t_X7_stationProperty Q 63 [some (vR 0), some (vI s), some (vI 3)] [] M
  refine AW.go pk_X7_stationProperty 17 4 rfl rfl ?_
  change AW ev false 5 t_X7_stationProperty Q 68 [some (vR 0), some (vI s), some (vI 3)] [vI s, vR 18] M
  refine AW.callV (d' := 2) [vI s] [] vm_X2_eyeOf rfl hX7_281 (okP_d pk_X7_stationProperty 20 68 (.invokevirtual 281) 3 rfl) (by decide) rfl (Nat.le_of_ble_eq_true rfl) ?_
  refine c_X2_eyeOf s zp0 zp1 (by omega) (fun w1 zw1 => ?_)
  change AW ev false 5 t_X7_stationProperty Q 71 [some (vR 0), some (vI s), some (vI 3)] [vI w1] M
  refine AW.go pk_X7_stationProperty 21 1 rfl rfl ?_
  refine And.intro rfl ?_
  exact zQ w1 zw1.1
theorem c_X7_stationProperty_4 {ev : Ev} {Q : Out → Mem → Prop} {M : Mem}  (s : Int) (zp0 : TInv M) (zp1 : SInv M) (zp2 : KInv M) (zp3 : GInv M) (zp4 : 0 ≤ s ∧ s < M 7 3) (zQ : ∀ (r : Int), r = sunT (M 2) (M 8) (M 9) (cvC M) s → Q (.inl (some (vI r))) M) : AM ev false 5 t_X7_stationProperty [vR 0, vI s, vI 4] M Q := by
  have zs := zp1.1
  refine AM.of mt_X7_stationProperty (Nat.le_of_ble_eq_true rfl) ?_
  change AW ev false 5 t_X7_stationProperty Q 0 [some (vR 0), some (vI s), some (vI 4)] [] M
  refine AW.go pk_X7_stationProperty 0 2 rfl rfl ?_
  refine And.intro (show Inr 4 from ⟨by omega, by omega⟩) ?_
  change AW ev false 5 t_X7_stationProperty Q 72 [some (vR 0), some (vI s), some (vI 4)] [] M
  refine AW.go pk_X7_stationProperty 22 4 rfl rfl ?_
  change AW ev false 5 t_X7_stationProperty Q 77 [some (vR 0), some (vI s), some (vI 4)] [vI s, vR 18] M
  refine AW.callV (d' := 4) [vI s] [] vm_X2_sunHours rfl hX7_252 (okP_d pk_X7_stationProperty 25 77 (.invokevirtual 252) 3 rfl) (by decide) rfl (Nat.le_of_ble_eq_true rfl) ?_
  refine c_X2_sunHours s zp0 zp1 zp2 (by omega) (fun w1 zw1 => ?_)
  change AW ev false 5 t_X7_stationProperty Q 80 [some (vR 0), some (vI s), some (vI 4)] [vI w1] M
  refine AW.go pk_X7_stationProperty 26 1 rfl rfl ?_
  refine And.intro rfl ?_
  exact zQ w1 zw1.1
theorem c_X7_stationProperty_5 {ev : Ev} {Q : Out → Mem → Prop} {M : Mem}  (s : Int) (zp0 : TInv M) (zp1 : SInv M) (zp2 : KInv M) (zp3 : GInv M) (zp4 : 0 ≤ s ∧ s < M 7 3) (zQ : ∀ (r : Int), r = bzT (fun t => M 21 (72 * s + t)) 72 0 0 → Q (.inl (some (vI r))) M) : AM ev false 5 t_X7_stationProperty [vR 0, vI s, vI 5] M Q := by
  have zs := zp1.1
  refine AM.of mt_X7_stationProperty (Nat.le_of_ble_eq_true rfl) ?_
  change AW ev false 5 t_X7_stationProperty Q 0 [some (vR 0), some (vI s), some (vI 5)] [] M
  refine AW.go pk_X7_stationProperty 0 2 rfl rfl ?_
  refine And.intro (show Inr 5 from ⟨by omega, by omega⟩) ?_
  change AW ev false 5 t_X7_stationProperty Q 81 [some (vR 0), some (vI s), some (vI 5)] [] M
  refine AW.go pk_X7_stationProperty 27 4 rfl rfl ?_
  change AW ev false 5 t_X7_stationProperty Q 86 [some (vR 0), some (vI s), some (vI 5)] [vI s, vR 19] M
  refine AW.callV (d' := 2) [vI s] [] vm_X6_busyTurns rfl hX7_284 (okP_d pk_X7_stationProperty 30 86 (.invokevirtual 284) 3 rfl) (by decide) rfl (Nat.le_of_ble_eq_true rfl) ?_
  refine c_X6_busyTurns s (by omega) zp3.2.2 (fun w1 zw1 => ?_)
  change AW ev false 5 t_X7_stationProperty Q 89 [some (vR 0), some (vI s), some (vI 5)] [vI w1] M
  refine AW.go pk_X7_stationProperty 31 1 rfl rfl ?_
  refine And.intro rfl ?_
  exact zQ w1 zw1
theorem c_X7_stationProperty {ev : Ev} {Q : Out → Mem → Prop} {M : Mem}  (s : Int) (w : Int) (zp0 : TInv M) (zp1 : SInv M) (zp2 : KInv M) (zp3 : GInv M) (zp4 : 0 ≤ s ∧ s < M 7 3) (zp5 : 0 ≤ w ∧ w < 6) (zQ : ∀ (r : Int), r = spC M s w ∧ (-2147483648 ≤ r ∧ r < 2147483648) → Q (.inl (some (vI r))) M) : AM ev false 5 t_X7_stationProperty [vR 0, vI s, vI w] M Q := by
  have zb := spC_bd zp0 zp1 zp4 w
  have zc : w = 0 ∨ w = 1 ∨ w = 2 ∨ w = 3 ∨ w = 4 ∨ w = 5 := by omega
  rcases zc with rfl | rfl | rfl | rfl | rfl | rfl
  · exact c_X7_stationProperty_0 s zp0 zp1 zp2 zp3 zp4 (fun r zr => zQ r (by rw [show r = spC M s 0 from zr]; exact ⟨rfl, zb⟩))
  · exact c_X7_stationProperty_1 s zp0 zp1 zp2 zp3 zp4 (fun r zr => zQ r (by rw [show r = spC M s 1 from zr]; exact ⟨rfl, zb⟩))
  · exact c_X7_stationProperty_2 s zp0 zp1 zp2 zp3 zp4 (fun r zr => zQ r (by rw [show r = spC M s 2 from zr]; exact ⟨rfl, zb⟩))
  · exact c_X7_stationProperty_3 s zp0 zp1 zp2 zp3 zp4 (fun r zr => zQ r (by rw [show r = spC M s 3 from zr]; exact ⟨rfl, zb⟩))
  · exact c_X7_stationProperty_4 s zp0 zp1 zp2 zp3 zp4 (fun r zr => zQ r (by rw [show r = spC M s 4 from zr]; exact ⟨rfl, zb⟩))
  · exact c_X7_stationProperty_5 s zp0 zp1 zp2 zp3 zp4 (fun r zr => zQ r (by rw [show r = spC M s 5 from zr]; exact ⟨rfl, zb⟩))
theorem c_X7_station {ev : Ev} {Q : Out → Mem → Prop} {M : Mem}  (s : Int) (w : Int) (zp0 : TInv M) (zp1 : SInv M) (zp2 : KInv M) (zp3 : GInv M) (zp4 : -2147483648 ≤ s ∧ s < 2147483648) (zp5 : -2147483648 ≤ w ∧ w < 2147483648) (zp6 : 0 ≤ s ∧ s < M 7 3) (zp7 : 0 ≤ w ∧ w ≤ 5) (zQ : ∀ (r : Int), r = spC M s w ∧ (-2147483648 ≤ r ∧ r < 2147483648) → Q (.inl (some (vI r))) M) : AM ev false 7 t_X7_station [vR 0, vI s, vI w] M Q := by
  refine AM.of mt_X7_station (Nat.le_of_ble_eq_true rfl) ?_
  change AW ev false 7 t_X7_station Q 0 [some (vR 0), some (vI s), some (vI w)] [] M
  refine AW.go pk_X7_station 0 3 rfl rfl ?_
  change AW ev false 7 t_X7_station Q 2 [some (vR 0), some (vI s), some (vI w)] [vI s, vR 0] M
  refine AW.callV (d' := 6) [vI s] [] vm_X7_requireStation rfl hX7_139 (okP_d pk_X7_station 2 2 (.invokevirtual 139) 3 rfl) (by decide) rfl (Nat.le_of_ble_eq_true rfl) ?_
  refine c_X7_requireStation s zp1 (by omega) (by omega) ?_
  change AW ev false 7 t_X7_station Q 5 [some (vR 0), some (vI s), some (vI w)] [] M
  refine AW.go pk_X7_station 3 4 rfl rfl ?_
  change AW ev false 7 t_X7_station Q 8 [some (vR 0), some (vI s), some (vI w)] [vI 5, vI 0, vI w] M
  refine AW.callS (d' := 6) [vI w, vI 0, vI 5] [] sm_X7_requireRange hX7_78 (okP_d pk_X7_station 6 8 (.invokestatic 78) 3 rfl) (by decide) rfl (Nat.le_of_ble_eq_true rfl) ?_
  refine c_X7_requireRange w 0 5 (by omega) (by omega) (by omega) (by omega) ?_
  change AW ev false 7 t_X7_station Q 11 [some (vR 0), some (vI s), some (vI w)] [] M
  refine AW.go pk_X7_station 7 4 rfl rfl ?_
  change AW ev false 7 t_X7_station Q 14 [some (vR 0), some (vI s), some (vI w)] [vI w, vI s, vR 0] M
  refine AW.callV (d' := 5) [vI s, vI w] [] vm_X7_stationProperty rfl hX7_189 (okP_d pk_X7_station 10 14 (.invokevirtual 189) 3 rfl) (by decide) rfl (Nat.le_of_ble_eq_true rfl) ?_
  refine c_X7_stationProperty s w zp0 zp1 zp2 zp3 (by omega) (by omega) (fun w1 zw1 => ?_)
  change AW ev false 7 t_X7_station Q 17 [some (vR 0), some (vI s), some (vI w)] [vI w1] M
  refine AW.go pk_X7_station 11 1 rfl rfl ?_
  refine And.intro rfl ?_
  exact zQ w1 zw1
theorem c_X7_station_x1 {ev : Ev} {Q : Out → Mem → Prop} {M : Mem}  (s : Int) (w : Int) (zp0 : TInv M) (zp1 : SInv M) (zp2 : KInv M) (zp3 : GInv M) (zp4 : -2147483648 ≤ s ∧ s < 2147483648) (zp5 : -2147483648 ≤ w ∧ w < 2147483648) (zp6 : ¬ (0 ≤ s ∧ s < M 7 3)) (zQ : Q (.inr "java/lang/IndexOutOfBoundsException") M) : AM ev true 7 t_X7_station [vR 0, vI s, vI w] M Q := by
  refine AM.of mt_X7_station (Nat.le_of_ble_eq_true rfl) ?_
  change AW ev true 7 t_X7_station Q 0 [some (vR 0), some (vI s), some (vI w)] [] M
  refine AW.go pk_X7_station 0 3 rfl rfl ?_
  change AW ev true 7 t_X7_station Q 2 [some (vR 0), some (vI s), some (vI w)] [vI s, vR 0] M
  refine AW.callVT (d' := 6) [vI s] [] vm_X7_requireStation rfl hX7_139 (okP_d pk_X7_station 2 2 (.invokevirtual 139) 3 rfl) (by decide) rfl (Nat.le_of_ble_eq_true rfl) ?_
  exact c_X7_requireStation_x s zp1 (by omega) (by omega) zQ
theorem c_X7_station_x2 {ev : Ev} {Q : Out → Mem → Prop} {M : Mem}  (s : Int) (w : Int) (zp0 : TInv M) (zp1 : SInv M) (zp2 : KInv M) (zp3 : GInv M) (zp4 : -2147483648 ≤ s ∧ s < 2147483648) (zp5 : -2147483648 ≤ w ∧ w < 2147483648) (zp6 : 0 ≤ s ∧ s < M 7 3) (zp7 : ¬ (0 ≤ w ∧ w ≤ 5)) (zQ : Q (.inr "java/lang/IllegalArgumentException") M) : AM ev true 7 t_X7_station [vR 0, vI s, vI w] M Q := by
  refine AM.of mt_X7_station (Nat.le_of_ble_eq_true rfl) ?_
  change AW ev true 7 t_X7_station Q 0 [some (vR 0), some (vI s), some (vI w)] [] M
  refine AW.go pk_X7_station 0 3 rfl rfl ?_
  change AW ev true 7 t_X7_station Q 2 [some (vR 0), some (vI s), some (vI w)] [vI s, vR 0] M
  refine AW.callV (d' := 6) [vI s] [] vm_X7_requireStation rfl hX7_139 (okP_d pk_X7_station 2 2 (.invokevirtual 139) 3 rfl) (by decide) rfl (Nat.le_of_ble_eq_true rfl) ?_
  refine c_X7_requireStation s zp1 (by omega) (by omega) ?_
  change AW ev true 7 t_X7_station Q 5 [some (vR 0), some (vI s), some (vI w)] [] M
  refine AW.go pk_X7_station 3 4 rfl rfl ?_
  change AW ev true 7 t_X7_station Q 8 [some (vR 0), some (vI s), some (vI w)] [vI 5, vI 0, vI w] M
  refine AW.callST (d' := 6) [vI w, vI 0, vI 5] [] sm_X7_requireRange hX7_78 (okP_d pk_X7_station 6 8 (.invokestatic 78) 3 rfl) (by decide) rfl (Nat.le_of_ble_eq_true rfl) ?_
  exact c_X7_requireRange_x w 0 5 (by omega) (by omega) (by omega) (by omega) zQ
theorem c_X7_send {ev : Ev} {Q : Out → Mem → Prop} {M : Mem}  (a : Int) (b : Int) (l : Int) (t : Int) (zp0 : SInv M) (zp1 : -2147483648 ≤ a ∧ a < 2147483648) (zp2 : -2147483648 ≤ b ∧ b < 2147483648) (zp3 : -2147483648 ≤ l ∧ l < 2147483648) (zp4 : -2147483648 ≤ t ∧ t < 2147483648) (zp5 : 0 ≤ a ∧ a < M 7 3) (zp6 : 0 ≤ b ∧ b < M 7 3) (zp7 : a ≠ b) (zp8 : 1 ≤ l ∧ l ≤ 6) (zp9 : 0 ≤ t ∧ t ≤ 71) (zp10 : 0 ≤ M 19 2 ∧ M 19 2 < 20) (zp11 : TInv M) (zp12 : KInv M) (zp13 : BKI M) (zQ : ∀ (r : Int) (M' : Mem), PostR (lkA M) a b l t r M' → Q (.inl (some (vI r))) M') : AM ev false 8 t_X7_send [vR 0, vI a, vI b, vI l, vI t] M Q := by
  have zs := zp0.1
  refine AM.of mt_X7_send (Nat.le_of_ble_eq_true rfl) ?_
  change AW ev false 8 t_X7_send Q 0 [some (vR 0), some (vI a), some (vI b), some (vI l), some (vI t)] [] M
  refine AW.go pk_X7_send 0 4 rfl rfl ?_
  change AW ev false 8 t_X7_send Q 3 [some (vR 0), some (vI a), some (vI b), some (vI l), some (vI t)] [vI b, vI a, vR 0] M
  refine AW.callV (d' := 7) [vI a, vI b] [] vm_X7_requirePair rfl hX7_165 (okP_d pk_X7_send 3 3 (.invokevirtual 165) 3 rfl) (by decide) rfl (Nat.le_of_ble_eq_true rfl) ?_
  refine c_X7_requirePair a b zp0 (by omega) (by omega) (by omega) (by omega) (by omega) ?_
  change AW ev false 8 t_X7_send Q 6 [some (vR 0), some (vI a), some (vI b), some (vI l), some (vI t)] [] M
  refine AW.go pk_X7_send 4 4 rfl rfl ?_
  change AW ev false 8 t_X7_send Q 10 [some (vR 0), some (vI a), some (vI b), some (vI l), some (vI t)] [vI 6, vI 1, vI l] M
  refine AW.callS (d' := 6) [vI l, vI 1, vI 6] [] sm_X7_requireRange hX7_78 (okP_d pk_X7_send 7 10 (.invokestatic 78) 3 rfl) (by decide) rfl (Nat.le_of_ble_eq_true rfl) ?_
  refine c_X7_requireRange l 1 6 (by omega) (by omega) (by omega) (by omega) ?_
  change AW ev false 8 t_X7_send Q 13 [some (vR 0), some (vI a), some (vI b), some (vI l), some (vI t)] [] M
  refine AW.go pk_X7_send 8 4 rfl rfl ?_
  change AW ev false 8 t_X7_send Q 18 [some (vR 0), some (vI a), some (vI b), some (vI l), some (vI t)] [vI 71, vI 0, vI t] M
  refine AW.callS (d' := 6) [vI t, vI 0, vI 71] [] sm_X7_requireRange hX7_78 (okP_d pk_X7_send 11 18 (.invokestatic 78) 3 rfl) (by decide) rfl (Nat.le_of_ble_eq_true rfl) ?_
  refine c_X7_requireRange t 0 71 (by omega) (by omega) (by omega) (by omega) ?_
  change AW ev false 8 t_X7_send Q 21 [some (vR 0), some (vI a), some (vI b), some (vI l), some (vI t)] [] M
  refine AW.go pk_X7_send 12 3 rfl rfl ?_
  change AW ev false 8 t_X7_send Q 25 [some (vR 0), some (vI a), some (vI b), some (vI l), some (vI t)] [vR 19] M
  refine AW.callV (d' := 0) [] [] vm_X6_size rfl hX7_168 (okP_d pk_X7_send 14 25 (.invokevirtual 168) 3 rfl) (by decide) rfl (Nat.le_of_ble_eq_true rfl) ?_
  refine c_X6_size   (fun zr4 zzr4 => ?_)
  change AW ev false 8 t_X7_send Q 28 [some (vR 0), some (vI a), some (vI b), some (vI l), some (vI t)] [vI zr4] M
  refine AW.go pk_X7_send 15 3 rfl rfl ?_
  refine And.intro (show Inr zr4 ∧ Inr 20 from ⟨⟨by omega, by omega⟩, ⟨by omega, by omega⟩⟩) (And.intro (fun zh5 => ?_) (fun zh5 => ?_))
  · replace zh5 : zr4 < (20 : Int) := zh5
    change AW ev false 8 t_X7_send Q 43 [some (vR 0), some (vI a), some (vI b), some (vI l), some (vI t)] [] M
    refine AW.go pk_X7_send 22 3 rfl rfl ?_
    change AW ev false 8 t_X7_send Q 47 [some (vR 0), some (vI a), some (vI b), some (vI l), some (vI t)] [vR 22] M
    refine AW.callV (d' := 6) [] [] vm_X3_lookAtLinks rfl hX7_171 (okP_d pk_X7_send 24 47 (.invokevirtual 171) 3 rfl) (by decide) rfl (Nat.le_of_ble_eq_true rfl) ?_
    refine c_X3_lookAtLinks  zp11 zp0 zp12 ?_
    change AW ev false 8 t_X7_send Q 50 [some (vR 0), some (vI a), some (vI b), some (vI l), some (vI t)] [] (lkM M (hpC M) (M 7 3) (M 7 3) 0)
    refine AW.go pk_X7_send 25 7 rfl rfl ?_
    change AW ev false 8 t_X7_send Q 59 [some (vR 0), some (vI a), some (vI b), some (vI l), some (vI t)] [vI t, vI l, vI b, vI a, vR 22] (lkM M (hpC M) (M 7 3) (M 7 3) 0)
    refine AW.callV (d' := 5) [vI a, vI b, vI l, vI t] [] vm_X3_post rfl hX7_174 (okP_d pk_X7_send 31 59 (.invokevirtual 174) 3 rfl) (by decide) rfl (Nat.le_of_ble_eq_true rfl) ?_
    refine c_X3_postR a b l t zp0 zp5 zp6 zp7 (by omega) (by omega) zp13 (fun u q0 q1 s q2 q3 => lk_dg (ns := M 7 3) zs.2 (by omega) q0 q1 q2 q3 _) zp10 (fun w1 Y zw1 => ?_)
    change AW ev false 8 t_X7_send Q 62 [some (vR 0), some (vI a), some (vI b), some (vI l), some (vI t)] [vI w1] Y
    refine AW.go pk_X7_send 32 1 rfl rfl ?_
    refine And.intro rfl ?_
    exact zQ w1 Y zw1
  · replace zh5 : ¬ (zr4 < (20 : Int)) := zh5
    exfalso; omega
theorem c_X7_send_x1 {ev : Ev} {Q : Out → Mem → Prop} {M : Mem}  (a : Int) (b : Int) (l : Int) (t : Int) (zp0 : SInv M) (zp1 : -2147483648 ≤ a ∧ a < 2147483648) (zp2 : -2147483648 ≤ b ∧ b < 2147483648) (zp3 : -2147483648 ≤ l ∧ l < 2147483648) (zp4 : -2147483648 ≤ t ∧ t < 2147483648) (zp5 : ¬ (0 ≤ a ∧ a < M 7 3)) (zQ : Q (.inr "java/lang/IndexOutOfBoundsException") M) : AM ev true 8 t_X7_send [vR 0, vI a, vI b, vI l, vI t] M Q := by
  refine AM.of mt_X7_send (Nat.le_of_ble_eq_true rfl) ?_
  change AW ev true 8 t_X7_send Q 0 [some (vR 0), some (vI a), some (vI b), some (vI l), some (vI t)] [] M
  refine AW.go pk_X7_send 0 4 rfl rfl ?_
  change AW ev true 8 t_X7_send Q 3 [some (vR 0), some (vI a), some (vI b), some (vI l), some (vI t)] [vI b, vI a, vR 0] M
  refine AW.callVT (d' := 7) [vI a, vI b] [] vm_X7_requirePair rfl hX7_165 (okP_d pk_X7_send 3 3 (.invokevirtual 165) 3 rfl) (by decide) rfl (Nat.le_of_ble_eq_true rfl) ?_
  exact c_X7_requirePair_x1 a b zp0 (by omega) (by omega) (by omega) zQ
theorem c_X7_send_x2 {ev : Ev} {Q : Out → Mem → Prop} {M : Mem}  (a : Int) (b : Int) (l : Int) (t : Int) (zp0 : SInv M) (zp1 : -2147483648 ≤ a ∧ a < 2147483648) (zp2 : -2147483648 ≤ b ∧ b < 2147483648) (zp3 : -2147483648 ≤ l ∧ l < 2147483648) (zp4 : -2147483648 ≤ t ∧ t < 2147483648) (zp5 : 0 ≤ a ∧ a < M 7 3) (zp6 : ¬ (0 ≤ b ∧ b < M 7 3)) (zQ : Q (.inr "java/lang/IndexOutOfBoundsException") M) : AM ev true 8 t_X7_send [vR 0, vI a, vI b, vI l, vI t] M Q := by
  refine AM.of mt_X7_send (Nat.le_of_ble_eq_true rfl) ?_
  change AW ev true 8 t_X7_send Q 0 [some (vR 0), some (vI a), some (vI b), some (vI l), some (vI t)] [] M
  refine AW.go pk_X7_send 0 4 rfl rfl ?_
  change AW ev true 8 t_X7_send Q 3 [some (vR 0), some (vI a), some (vI b), some (vI l), some (vI t)] [vI b, vI a, vR 0] M
  refine AW.callVT (d' := 7) [vI a, vI b] [] vm_X7_requirePair rfl hX7_165 (okP_d pk_X7_send 3 3 (.invokevirtual 165) 3 rfl) (by decide) rfl (Nat.le_of_ble_eq_true rfl) ?_
  exact c_X7_requirePair_x2 a b zp0 (by omega) (by omega) (by omega) (by omega) zQ
theorem c_X7_send_x3 {ev : Ev} {Q : Out → Mem → Prop} {M : Mem}  (a : Int) (b : Int) (l : Int) (t : Int) (zp0 : SInv M) (zp1 : -2147483648 ≤ a ∧ a < 2147483648) (zp2 : -2147483648 ≤ b ∧ b < 2147483648) (zp3 : -2147483648 ≤ l ∧ l < 2147483648) (zp4 : -2147483648 ≤ t ∧ t < 2147483648) (zp5 : 0 ≤ a ∧ a < M 7 3) (zp6 : 0 ≤ b ∧ b < M 7 3) (zp7 : a = b) (zQ : Q (.inr "java/lang/IllegalArgumentException") M) : AM ev true 8 t_X7_send [vR 0, vI a, vI b, vI l, vI t] M Q := by
  refine AM.of mt_X7_send (Nat.le_of_ble_eq_true rfl) ?_
  change AW ev true 8 t_X7_send Q 0 [some (vR 0), some (vI a), some (vI b), some (vI l), some (vI t)] [] M
  refine AW.go pk_X7_send 0 4 rfl rfl ?_
  change AW ev true 8 t_X7_send Q 3 [some (vR 0), some (vI a), some (vI b), some (vI l), some (vI t)] [vI b, vI a, vR 0] M
  refine AW.callVT (d' := 7) [vI a, vI b] [] vm_X7_requirePair rfl hX7_165 (okP_d pk_X7_send 3 3 (.invokevirtual 165) 3 rfl) (by decide) rfl (Nat.le_of_ble_eq_true rfl) ?_
  exact c_X7_requirePair_x3 a b zp0 (by omega) (by omega) (by omega) (by omega) (by omega) zQ
theorem c_X7_send_x4 {ev : Ev} {Q : Out → Mem → Prop} {M : Mem}  (a : Int) (b : Int) (l : Int) (t : Int) (zp0 : SInv M) (zp1 : -2147483648 ≤ a ∧ a < 2147483648) (zp2 : -2147483648 ≤ b ∧ b < 2147483648) (zp3 : -2147483648 ≤ l ∧ l < 2147483648) (zp4 : -2147483648 ≤ t ∧ t < 2147483648) (zp5 : 0 ≤ a ∧ a < M 7 3) (zp6 : 0 ≤ b ∧ b < M 7 3) (zp7 : a ≠ b) (zp8 : ¬ (1 ≤ l ∧ l ≤ 6)) (zQ : Q (.inr "java/lang/IllegalArgumentException") M) : AM ev true 8 t_X7_send [vR 0, vI a, vI b, vI l, vI t] M Q := by
  refine AM.of mt_X7_send (Nat.le_of_ble_eq_true rfl) ?_
  change AW ev true 8 t_X7_send Q 0 [some (vR 0), some (vI a), some (vI b), some (vI l), some (vI t)] [] M
  refine AW.go pk_X7_send 0 4 rfl rfl ?_
  change AW ev true 8 t_X7_send Q 3 [some (vR 0), some (vI a), some (vI b), some (vI l), some (vI t)] [vI b, vI a, vR 0] M
  refine AW.callV (d' := 7) [vI a, vI b] [] vm_X7_requirePair rfl hX7_165 (okP_d pk_X7_send 3 3 (.invokevirtual 165) 3 rfl) (by decide) rfl (Nat.le_of_ble_eq_true rfl) ?_
  refine c_X7_requirePair a b zp0 (by omega) (by omega) (by omega) (by omega) (by omega) ?_
  change AW ev true 8 t_X7_send Q 6 [some (vR 0), some (vI a), some (vI b), some (vI l), some (vI t)] [] M
  refine AW.go pk_X7_send 4 4 rfl rfl ?_
  change AW ev true 8 t_X7_send Q 10 [some (vR 0), some (vI a), some (vI b), some (vI l), some (vI t)] [vI 6, vI 1, vI l] M
  refine AW.callST (d' := 6) [vI l, vI 1, vI 6] [] sm_X7_requireRange hX7_78 (okP_d pk_X7_send 7 10 (.invokestatic 78) 3 rfl) (by decide) rfl (Nat.le_of_ble_eq_true rfl) ?_
  exact c_X7_requireRange_x l 1 6 (by omega) (by omega) (by omega) (by omega) zQ
theorem c_X7_send_x5 {ev : Ev} {Q : Out → Mem → Prop} {M : Mem}  (a : Int) (b : Int) (l : Int) (t : Int) (zp0 : SInv M) (zp1 : -2147483648 ≤ a ∧ a < 2147483648) (zp2 : -2147483648 ≤ b ∧ b < 2147483648) (zp3 : -2147483648 ≤ l ∧ l < 2147483648) (zp4 : -2147483648 ≤ t ∧ t < 2147483648) (zp5 : 0 ≤ a ∧ a < M 7 3) (zp6 : 0 ≤ b ∧ b < M 7 3) (zp7 : a ≠ b) (zp8 : 1 ≤ l ∧ l ≤ 6) (zp9 : ¬ (0 ≤ t ∧ t ≤ 71)) (zQ : Q (.inr "java/lang/IllegalArgumentException") M) : AM ev true 8 t_X7_send [vR 0, vI a, vI b, vI l, vI t] M Q := by
  refine AM.of mt_X7_send (Nat.le_of_ble_eq_true rfl) ?_
  change AW ev true 8 t_X7_send Q 0 [some (vR 0), some (vI a), some (vI b), some (vI l), some (vI t)] [] M
  refine AW.go pk_X7_send 0 4 rfl rfl ?_
  change AW ev true 8 t_X7_send Q 3 [some (vR 0), some (vI a), some (vI b), some (vI l), some (vI t)] [vI b, vI a, vR 0] M
  refine AW.callV (d' := 7) [vI a, vI b] [] vm_X7_requirePair rfl hX7_165 (okP_d pk_X7_send 3 3 (.invokevirtual 165) 3 rfl) (by decide) rfl (Nat.le_of_ble_eq_true rfl) ?_
  refine c_X7_requirePair a b zp0 (by omega) (by omega) (by omega) (by omega) (by omega) ?_
  change AW ev true 8 t_X7_send Q 6 [some (vR 0), some (vI a), some (vI b), some (vI l), some (vI t)] [] M
  refine AW.go pk_X7_send 4 4 rfl rfl ?_
  change AW ev true 8 t_X7_send Q 10 [some (vR 0), some (vI a), some (vI b), some (vI l), some (vI t)] [vI 6, vI 1, vI l] M
  refine AW.callS (d' := 6) [vI l, vI 1, vI 6] [] sm_X7_requireRange hX7_78 (okP_d pk_X7_send 7 10 (.invokestatic 78) 3 rfl) (by decide) rfl (Nat.le_of_ble_eq_true rfl) ?_
  refine c_X7_requireRange l 1 6 (by omega) (by omega) (by omega) (by omega) ?_
  change AW ev true 8 t_X7_send Q 13 [some (vR 0), some (vI a), some (vI b), some (vI l), some (vI t)] [] M
  refine AW.go pk_X7_send 8 4 rfl rfl ?_
  change AW ev true 8 t_X7_send Q 18 [some (vR 0), some (vI a), some (vI b), some (vI l), some (vI t)] [vI 71, vI 0, vI t] M
  refine AW.callST (d' := 6) [vI t, vI 0, vI 71] [] sm_X7_requireRange hX7_78 (okP_d pk_X7_send 11 18 (.invokestatic 78) 3 rfl) (by decide) rfl (Nat.le_of_ble_eq_true rfl) ?_
  exact c_X7_requireRange_x t 0 71 (by omega) (by omega) (by omega) (by omega) zQ
theorem c_X7_send_x6 {ev : Ev} {Q : Out → Mem → Prop} {M : Mem}  (a : Int) (b : Int) (l : Int) (t : Int) (zp0 : SInv M) (zp1 : -2147483648 ≤ a ∧ a < 2147483648) (zp2 : -2147483648 ≤ b ∧ b < 2147483648) (zp3 : -2147483648 ≤ l ∧ l < 2147483648) (zp4 : -2147483648 ≤ t ∧ t < 2147483648) (zp5 : 0 ≤ a ∧ a < M 7 3) (zp6 : 0 ≤ b ∧ b < M 7 3) (zp7 : a ≠ b) (zp8 : 1 ≤ l ∧ l ≤ 6) (zp9 : 0 ≤ t ∧ t ≤ 71) (zp10 : M 19 2 = 20) (zQ : Q (.inr "java/lang/IllegalStateException") M) : AM ev true 8 t_X7_send [vR 0, vI a, vI b, vI l, vI t] M Q := by
  refine AM.of mt_X7_send (Nat.le_of_ble_eq_true rfl) ?_
  change AW ev true 8 t_X7_send Q 0 [some (vR 0), some (vI a), some (vI b), some (vI l), some (vI t)] [] M
  refine AW.go pk_X7_send 0 4 rfl rfl ?_
  change AW ev true 8 t_X7_send Q 3 [some (vR 0), some (vI a), some (vI b), some (vI l), some (vI t)] [vI b, vI a, vR 0] M
  refine AW.callV (d' := 7) [vI a, vI b] [] vm_X7_requirePair rfl hX7_165 (okP_d pk_X7_send 3 3 (.invokevirtual 165) 3 rfl) (by decide) rfl (Nat.le_of_ble_eq_true rfl) ?_
  refine c_X7_requirePair a b zp0 (by omega) (by omega) (by omega) (by omega) (by omega) ?_
  change AW ev true 8 t_X7_send Q 6 [some (vR 0), some (vI a), some (vI b), some (vI l), some (vI t)] [] M
  refine AW.go pk_X7_send 4 4 rfl rfl ?_
  change AW ev true 8 t_X7_send Q 10 [some (vR 0), some (vI a), some (vI b), some (vI l), some (vI t)] [vI 6, vI 1, vI l] M
  refine AW.callS (d' := 6) [vI l, vI 1, vI 6] [] sm_X7_requireRange hX7_78 (okP_d pk_X7_send 7 10 (.invokestatic 78) 3 rfl) (by decide) rfl (Nat.le_of_ble_eq_true rfl) ?_
  refine c_X7_requireRange l 1 6 (by omega) (by omega) (by omega) (by omega) ?_
  change AW ev true 8 t_X7_send Q 13 [some (vR 0), some (vI a), some (vI b), some (vI l), some (vI t)] [] M
  refine AW.go pk_X7_send 8 4 rfl rfl ?_
  change AW ev true 8 t_X7_send Q 18 [some (vR 0), some (vI a), some (vI b), some (vI l), some (vI t)] [vI 71, vI 0, vI t] M
  refine AW.callS (d' := 6) [vI t, vI 0, vI 71] [] sm_X7_requireRange hX7_78 (okP_d pk_X7_send 11 18 (.invokestatic 78) 3 rfl) (by decide) rfl (Nat.le_of_ble_eq_true rfl) ?_
  refine c_X7_requireRange t 0 71 (by omega) (by omega) (by omega) (by omega) ?_
  change AW ev true 8 t_X7_send Q 21 [some (vR 0), some (vI a), some (vI b), some (vI l), some (vI t)] [] M
  refine AW.go pk_X7_send 12 3 rfl rfl ?_
  change AW ev true 8 t_X7_send Q 25 [some (vR 0), some (vI a), some (vI b), some (vI l), some (vI t)] [vR 19] M
  refine AW.callV (d' := 0) [] [] vm_X6_size rfl hX7_168 (okP_d pk_X7_send 14 25 (.invokevirtual 168) 3 rfl) (by decide) rfl (Nat.le_of_ble_eq_true rfl) ?_
  refine c_X6_size   (fun zr4 zzr4 => ?_)
  change AW ev true 8 t_X7_send Q 28 [some (vR 0), some (vI a), some (vI b), some (vI l), some (vI t)] [vI zr4] M
  refine AW.go pk_X7_send 15 3 rfl rfl ?_
  refine And.intro (show Inr zr4 ∧ Inr 20 from ⟨⟨by omega, by omega⟩, ⟨by omega, by omega⟩⟩) (And.intro (fun zh5 => ?_) (fun zh5 => ?_))
  · replace zh5 : zr4 < (20 : Int) := zh5
    exfalso; omega
  · replace zh5 : ¬ (zr4 < (20 : Int)) := zh5
    change AW ev true 8 t_X7_send Q 33 [some (vR 0), some (vI a), some (vI b), some (vI l), some (vI t)] [] M
    exact AW.thr 11 (by decide) x_7_ISE rfl (by decide) (okP_d pk_X7_send 17 33 (.new 97) 3 rfl) (okP_d pk_X7_send 18 36 (.dup) 1 rfl) (okP_d pk_X7_send 19 37 (.ldc 169) 2 rfl) (okP_d pk_X7_send 20 39 (.invokespecial 101) 3 rfl) (okP_d pk_X7_send 21 42 (.athrow) 1 rfl) zQ
theorem c_X7_arrival {ev : Ev} {Q : Out → Mem → Prop} {M : Mem}  (a : Int) (b : Int) (l : Int) (t : Int) (zp0 : SInv M) (zp1 : -2147483648 ≤ a ∧ a < 2147483648) (zp2 : -2147483648 ≤ b ∧ b < 2147483648) (zp3 : -2147483648 ≤ l ∧ l < 2147483648) (zp4 : -2147483648 ≤ t ∧ t < 2147483648) (zp5 : 0 ≤ a ∧ a < M 7 3) (zp6 : 0 ≤ b ∧ b < M 7 3) (zp7 : 1 ≤ l ∧ l ≤ 6) (zp8 : 0 ≤ t ∧ t ≤ 71) (zp9 : TInv M) (zp10 : KInv M) (zp11 : BKI M) (zQ : ∀ (r : Int) (M' : Mem), (∃ f : Int → Int, ArrOK (EFm (lkA M) l) (M 7 3) a t f ∧ r = f b ∧ M' = arM (upM (lkA M) 22 7 l) f) → Q (.inl (some (vI r))) M') : AM ev false 7 t_X7_arrival [vR 0, vI a, vI b, vI l, vI t] M Q := by
  have zs := zp0.1
  refine AM.of mt_X7_arrival (Nat.le_of_ble_eq_true rfl) ?_
  change AW ev false 7 t_X7_arrival Q 0 [some (vR 0), some (vI a), some (vI b), some (vI l), some (vI t)] [] M
  refine AW.go pk_X7_arrival 0 3 rfl rfl ?_
  change AW ev false 7 t_X7_arrival Q 2 [some (vR 0), some (vI a), some (vI b), some (vI l), some (vI t)] [vI a, vR 0] M
  refine AW.callV (d' := 6) [vI a] [] vm_X7_requireStation rfl hX7_139 (okP_d pk_X7_arrival 2 2 (.invokevirtual 139) 3 rfl) (by decide) rfl (Nat.le_of_ble_eq_true rfl) ?_
  refine c_X7_requireStation a zp0 (by omega) (by omega) ?_
  change AW ev false 7 t_X7_arrival Q 5 [some (vR 0), some (vI a), some (vI b), some (vI l), some (vI t)] [] M
  refine AW.go pk_X7_arrival 3 3 rfl rfl ?_
  change AW ev false 7 t_X7_arrival Q 7 [some (vR 0), some (vI a), some (vI b), some (vI l), some (vI t)] [vI b, vR 0] M
  refine AW.callV (d' := 6) [vI b] [] vm_X7_requireStation rfl hX7_139 (okP_d pk_X7_arrival 5 7 (.invokevirtual 139) 3 rfl) (by decide) rfl (Nat.le_of_ble_eq_true rfl) ?_
  refine c_X7_requireStation b zp0 (by omega) (by omega) ?_
  change AW ev false 7 t_X7_arrival Q 10 [some (vR 0), some (vI a), some (vI b), some (vI l), some (vI t)] [] M
  refine AW.go pk_X7_arrival 6 4 rfl rfl ?_
  change AW ev false 7 t_X7_arrival Q 14 [some (vR 0), some (vI a), some (vI b), some (vI l), some (vI t)] [vI 6, vI 1, vI l] M
  refine AW.callS (d' := 6) [vI l, vI 1, vI 6] [] sm_X7_requireRange hX7_78 (okP_d pk_X7_arrival 9 14 (.invokestatic 78) 3 rfl) (by decide) rfl (Nat.le_of_ble_eq_true rfl) ?_
  refine c_X7_requireRange l 1 6 (by omega) (by omega) (by omega) (by omega) ?_
  change AW ev false 7 t_X7_arrival Q 17 [some (vR 0), some (vI a), some (vI b), some (vI l), some (vI t)] [] M
  refine AW.go pk_X7_arrival 10 4 rfl rfl ?_
  change AW ev false 7 t_X7_arrival Q 22 [some (vR 0), some (vI a), some (vI b), some (vI l), some (vI t)] [vI 71, vI 0, vI t] M
  refine AW.callS (d' := 6) [vI t, vI 0, vI 71] [] sm_X7_requireRange hX7_78 (okP_d pk_X7_arrival 13 22 (.invokestatic 78) 3 rfl) (by decide) rfl (Nat.le_of_ble_eq_true rfl) ?_
  refine c_X7_requireRange t 0 71 (by omega) (by omega) (by omega) (by omega) ?_
  change AW ev false 7 t_X7_arrival Q 25 [some (vR 0), some (vI a), some (vI b), some (vI l), some (vI t)] [] M
  refine AW.go pk_X7_arrival 14 3 rfl rfl ?_
  change AW ev false 7 t_X7_arrival Q 29 [some (vR 0), some (vI a), some (vI b), some (vI l), some (vI t)] [vR 22] M
  refine AW.callV (d' := 6) [] [] vm_X3_lookAtLinks rfl hX7_171 (okP_d pk_X7_arrival 16 29 (.invokevirtual 171) 3 rfl) (by decide) rfl (Nat.le_of_ble_eq_true rfl) ?_
  refine c_X3_lookAtLinks  zp9 zp0 zp10 ?_
  change AW ev false 7 t_X7_arrival Q 32 [some (vR 0), some (vI a), some (vI b), some (vI l), some (vI t)] [] (lkM M (hpC M) (M 7 3) (M 7 3) 0)
  refine AW.go pk_X7_arrival 17 6 rfl rfl ?_
  change AW ev false 7 t_X7_arrival Q 40 [some (vR 0), some (vI a), some (vI b), some (vI l), some (vI t)] [vI t, vI l, vI a, vR 22] (lkM M (hpC M) (M 7 3) (M 7 3) 0)
  refine AW.callV (d' := 4) [vI a, vI l, vI t] [] vm_X3_findArrivals rfl hX7_205 (okP_d pk_X7_arrival 22 40 (.invokevirtual 205) 3 rfl) (by decide) rfl (Nat.le_of_ble_eq_true rfl) ?_
  refine c_X3_findArrivals a l t zp0 zp5 (by omega) (by omega) zp11 (fun u q0 q1 s q2 q3 => lk_dg (ns := M 7 3) zs.2 (by omega) q0 q1 q2 q3 _) (fun f zc7 => ?_)
  · skip
    have zac : ArrOK (EFm (lkA M) l) (M 7 3) a t f := zc7
    change AW ev false 7 t_X7_arrival Q 43 [some (vR 0), some (vI a), some (vI b), some (vI l), some (vI t)] [] (arM (upM (lkM M (hpC M) (M 7 3) (M 7 3) 0) 22 7 l) f)
    refine AW.go pk_X7_arrival 23 4 rfl rfl ?_
    change AW ev false 7 t_X7_arrival Q 48 [some (vR 0), some (vI a), some (vI b), some (vI l), some (vI t)] [vI b, vR 22] (arM (upM (lkM M (hpC M) (M 7 3) (M 7 3) 0) 22 7 l) f)
    refine AW.callV (d' := 1) [vI b] [] vm_X3_arrivalAt rfl hX7_208 (okP_d pk_X7_arrival 26 48 (.invokevirtual 208) 3 rfl) (by decide) rfl (Nat.le_of_ble_eq_true rfl) ?_
    refine c_X3_arrivalAt b zp0 zp6 (fun w1 zw1 => ?_)
    replace zw1 : w1 = (f b) := zw1
    change AW ev false 7 t_X7_arrival Q 51 [some (vR 0), some (vI a), some (vI b), some (vI l), some (vI t)] [vI w1] (arM (upM (lkM M (hpC M) (M 7 3) (M 7 3) 0) 22 7 l) f)
    refine AW.go pk_X7_arrival 27 1 rfl rfl ?_
    refine And.intro rfl ?_
    exact zQ _ _ ⟨f, zac, zw1, rfl⟩
theorem c_X7_arrival_x1 {ev : Ev} {Q : Out → Mem → Prop} {M : Mem}  (a : Int) (b : Int) (l : Int) (t : Int) (zp0 : SInv M) (zp1 : -2147483648 ≤ a ∧ a < 2147483648) (zp2 : -2147483648 ≤ b ∧ b < 2147483648) (zp3 : -2147483648 ≤ l ∧ l < 2147483648) (zp4 : -2147483648 ≤ t ∧ t < 2147483648) (zp5 : ¬ (0 ≤ a ∧ a < M 7 3)) (zQ : Q (.inr "java/lang/IndexOutOfBoundsException") M) : AM ev true 7 t_X7_arrival [vR 0, vI a, vI b, vI l, vI t] M Q := by
  refine AM.of mt_X7_arrival (Nat.le_of_ble_eq_true rfl) ?_
  change AW ev true 7 t_X7_arrival Q 0 [some (vR 0), some (vI a), some (vI b), some (vI l), some (vI t)] [] M
  refine AW.go pk_X7_arrival 0 3 rfl rfl ?_
  change AW ev true 7 t_X7_arrival Q 2 [some (vR 0), some (vI a), some (vI b), some (vI l), some (vI t)] [vI a, vR 0] M
  refine AW.callVT (d' := 6) [vI a] [] vm_X7_requireStation rfl hX7_139 (okP_d pk_X7_arrival 2 2 (.invokevirtual 139) 3 rfl) (by decide) rfl (Nat.le_of_ble_eq_true rfl) ?_
  exact c_X7_requireStation_x a zp0 (by omega) (by omega) zQ
theorem c_X7_arrival_x2 {ev : Ev} {Q : Out → Mem → Prop} {M : Mem}  (a : Int) (b : Int) (l : Int) (t : Int) (zp0 : SInv M) (zp1 : -2147483648 ≤ a ∧ a < 2147483648) (zp2 : -2147483648 ≤ b ∧ b < 2147483648) (zp3 : -2147483648 ≤ l ∧ l < 2147483648) (zp4 : -2147483648 ≤ t ∧ t < 2147483648) (zp5 : 0 ≤ a ∧ a < M 7 3) (zp6 : ¬ (0 ≤ b ∧ b < M 7 3)) (zQ : Q (.inr "java/lang/IndexOutOfBoundsException") M) : AM ev true 7 t_X7_arrival [vR 0, vI a, vI b, vI l, vI t] M Q := by
  refine AM.of mt_X7_arrival (Nat.le_of_ble_eq_true rfl) ?_
  change AW ev true 7 t_X7_arrival Q 0 [some (vR 0), some (vI a), some (vI b), some (vI l), some (vI t)] [] M
  refine AW.go pk_X7_arrival 0 3 rfl rfl ?_
  change AW ev true 7 t_X7_arrival Q 2 [some (vR 0), some (vI a), some (vI b), some (vI l), some (vI t)] [vI a, vR 0] M
  refine AW.callV (d' := 6) [vI a] [] vm_X7_requireStation rfl hX7_139 (okP_d pk_X7_arrival 2 2 (.invokevirtual 139) 3 rfl) (by decide) rfl (Nat.le_of_ble_eq_true rfl) ?_
  refine c_X7_requireStation a zp0 (by omega) (by omega) ?_
  change AW ev true 7 t_X7_arrival Q 5 [some (vR 0), some (vI a), some (vI b), some (vI l), some (vI t)] [] M
  refine AW.go pk_X7_arrival 3 3 rfl rfl ?_
  change AW ev true 7 t_X7_arrival Q 7 [some (vR 0), some (vI a), some (vI b), some (vI l), some (vI t)] [vI b, vR 0] M
  refine AW.callVT (d' := 6) [vI b] [] vm_X7_requireStation rfl hX7_139 (okP_d pk_X7_arrival 5 7 (.invokevirtual 139) 3 rfl) (by decide) rfl (Nat.le_of_ble_eq_true rfl) ?_
  exact c_X7_requireStation_x b zp0 (by omega) (by omega) zQ
theorem c_X7_arrival_x3 {ev : Ev} {Q : Out → Mem → Prop} {M : Mem}  (a : Int) (b : Int) (l : Int) (t : Int) (zp0 : SInv M) (zp1 : -2147483648 ≤ a ∧ a < 2147483648) (zp2 : -2147483648 ≤ b ∧ b < 2147483648) (zp3 : -2147483648 ≤ l ∧ l < 2147483648) (zp4 : -2147483648 ≤ t ∧ t < 2147483648) (zp5 : 0 ≤ a ∧ a < M 7 3) (zp6 : 0 ≤ b ∧ b < M 7 3) (zp7 : ¬ (1 ≤ l ∧ l ≤ 6)) (zQ : Q (.inr "java/lang/IllegalArgumentException") M) : AM ev true 7 t_X7_arrival [vR 0, vI a, vI b, vI l, vI t] M Q := by
  refine AM.of mt_X7_arrival (Nat.le_of_ble_eq_true rfl) ?_
  change AW ev true 7 t_X7_arrival Q 0 [some (vR 0), some (vI a), some (vI b), some (vI l), some (vI t)] [] M
  refine AW.go pk_X7_arrival 0 3 rfl rfl ?_
  change AW ev true 7 t_X7_arrival Q 2 [some (vR 0), some (vI a), some (vI b), some (vI l), some (vI t)] [vI a, vR 0] M
  refine AW.callV (d' := 6) [vI a] [] vm_X7_requireStation rfl hX7_139 (okP_d pk_X7_arrival 2 2 (.invokevirtual 139) 3 rfl) (by decide) rfl (Nat.le_of_ble_eq_true rfl) ?_
  refine c_X7_requireStation a zp0 (by omega) (by omega) ?_
  change AW ev true 7 t_X7_arrival Q 5 [some (vR 0), some (vI a), some (vI b), some (vI l), some (vI t)] [] M
  refine AW.go pk_X7_arrival 3 3 rfl rfl ?_
  change AW ev true 7 t_X7_arrival Q 7 [some (vR 0), some (vI a), some (vI b), some (vI l), some (vI t)] [vI b, vR 0] M
  refine AW.callV (d' := 6) [vI b] [] vm_X7_requireStation rfl hX7_139 (okP_d pk_X7_arrival 5 7 (.invokevirtual 139) 3 rfl) (by decide) rfl (Nat.le_of_ble_eq_true rfl) ?_
  refine c_X7_requireStation b zp0 (by omega) (by omega) ?_
  change AW ev true 7 t_X7_arrival Q 10 [some (vR 0), some (vI a), some (vI b), some (vI l), some (vI t)] [] M
  refine AW.go pk_X7_arrival 6 4 rfl rfl ?_
  change AW ev true 7 t_X7_arrival Q 14 [some (vR 0), some (vI a), some (vI b), some (vI l), some (vI t)] [vI 6, vI 1, vI l] M
  refine AW.callST (d' := 6) [vI l, vI 1, vI 6] [] sm_X7_requireRange hX7_78 (okP_d pk_X7_arrival 9 14 (.invokestatic 78) 3 rfl) (by decide) rfl (Nat.le_of_ble_eq_true rfl) ?_
  exact c_X7_requireRange_x l 1 6 (by omega) (by omega) (by omega) (by omega) zQ
theorem c_X7_arrival_x4 {ev : Ev} {Q : Out → Mem → Prop} {M : Mem}  (a : Int) (b : Int) (l : Int) (t : Int) (zp0 : SInv M) (zp1 : -2147483648 ≤ a ∧ a < 2147483648) (zp2 : -2147483648 ≤ b ∧ b < 2147483648) (zp3 : -2147483648 ≤ l ∧ l < 2147483648) (zp4 : -2147483648 ≤ t ∧ t < 2147483648) (zp5 : 0 ≤ a ∧ a < M 7 3) (zp6 : 0 ≤ b ∧ b < M 7 3) (zp7 : 1 ≤ l ∧ l ≤ 6) (zp8 : ¬ (0 ≤ t ∧ t ≤ 71)) (zQ : Q (.inr "java/lang/IllegalArgumentException") M) : AM ev true 7 t_X7_arrival [vR 0, vI a, vI b, vI l, vI t] M Q := by
  refine AM.of mt_X7_arrival (Nat.le_of_ble_eq_true rfl) ?_
  change AW ev true 7 t_X7_arrival Q 0 [some (vR 0), some (vI a), some (vI b), some (vI l), some (vI t)] [] M
  refine AW.go pk_X7_arrival 0 3 rfl rfl ?_
  change AW ev true 7 t_X7_arrival Q 2 [some (vR 0), some (vI a), some (vI b), some (vI l), some (vI t)] [vI a, vR 0] M
  refine AW.callV (d' := 6) [vI a] [] vm_X7_requireStation rfl hX7_139 (okP_d pk_X7_arrival 2 2 (.invokevirtual 139) 3 rfl) (by decide) rfl (Nat.le_of_ble_eq_true rfl) ?_
  refine c_X7_requireStation a zp0 (by omega) (by omega) ?_
  change AW ev true 7 t_X7_arrival Q 5 [some (vR 0), some (vI a), some (vI b), some (vI l), some (vI t)] [] M
  refine AW.go pk_X7_arrival 3 3 rfl rfl ?_
  change AW ev true 7 t_X7_arrival Q 7 [some (vR 0), some (vI a), some (vI b), some (vI l), some (vI t)] [vI b, vR 0] M
  refine AW.callV (d' := 6) [vI b] [] vm_X7_requireStation rfl hX7_139 (okP_d pk_X7_arrival 5 7 (.invokevirtual 139) 3 rfl) (by decide) rfl (Nat.le_of_ble_eq_true rfl) ?_
  refine c_X7_requireStation b zp0 (by omega) (by omega) ?_
  change AW ev true 7 t_X7_arrival Q 10 [some (vR 0), some (vI a), some (vI b), some (vI l), some (vI t)] [] M
  refine AW.go pk_X7_arrival 6 4 rfl rfl ?_
  change AW ev true 7 t_X7_arrival Q 14 [some (vR 0), some (vI a), some (vI b), some (vI l), some (vI t)] [vI 6, vI 1, vI l] M
  refine AW.callS (d' := 6) [vI l, vI 1, vI 6] [] sm_X7_requireRange hX7_78 (okP_d pk_X7_arrival 9 14 (.invokestatic 78) 3 rfl) (by decide) rfl (Nat.le_of_ble_eq_true rfl) ?_
  refine c_X7_requireRange l 1 6 (by omega) (by omega) (by omega) (by omega) ?_
  change AW ev true 7 t_X7_arrival Q 17 [some (vR 0), some (vI a), some (vI b), some (vI l), some (vI t)] [] M
  refine AW.go pk_X7_arrival 10 4 rfl rfl ?_
  change AW ev true 7 t_X7_arrival Q 22 [some (vR 0), some (vI a), some (vI b), some (vI l), some (vI t)] [vI 71, vI 0, vI t] M
  refine AW.callST (d' := 6) [vI t, vI 0, vI 71] [] sm_X7_requireRange hX7_78 (okP_d pk_X7_arrival 13 22 (.invokestatic 78) 3 rfl) (by decide) rfl (Nat.le_of_ble_eq_true rfl) ?_
  exact c_X7_requireRange_x t 0 71 (by omega) (by omega) (by omega) (by omega) zQ
theorem c_X7_reorder {ev : Ev} {Q : Out → Mem → Prop} {M : Mem}   (zp0 : TInv M) (zp1 : SInv M) (zp2 : KInv M) (zp3 : GInv M) (zp4 : rqV (rqM M (M 19 2) 0 26) (M 7 3) (M 19 2)) (zQ : ∀ (r : Int) (M' : Mem), PCh (rqA (rqM M (M 19 2) 0 26) (M 19 2).toNat 6 1) (againM (lkA M)) M' ∧ r = M' 19 2 → Q (.inl (some (vI r))) M') : AM ev false 7 t_X7_reorder [vR 0] M Q := by
  have zs := zp1.1
  refine AM.of mt_X7_reorder (Nat.le_of_ble_eq_true rfl) ?_
  change AW ev false 7 t_X7_reorder Q 0 [some (vR 0)] [] M
  refine AW.go pk_X7_reorder 0 3 rfl rfl ?_
  change AW ev false 7 t_X7_reorder Q 4 [some (vR 0)] [vR 22] M
  refine AW.callV (d' := 6) [] [] vm_X3_lookAtLinks rfl hX7_171 (okP_d pk_X7_reorder 2 4 (.invokevirtual 171) 3 rfl) (by decide) rfl (Nat.le_of_ble_eq_true rfl) ?_
  refine c_X3_lookAtLinks  zp0 zp1 zp2 ?_
  change AW ev false 7 t_X7_reorder Q 7 [some (vR 0)] [] (lkM M (hpC M) (M 7 3) (M 7 3) 0)
  refine AW.go pk_X7_reorder 3 3 rfl rfl ?_
  change AW ev false 7 t_X7_reorder Q 11 [some (vR 0)] [vR 22] (lkM M (hpC M) (M 7 3) (M 7 3) 0)
  refine AW.callV (d' := 6) [] [] vm_X3_postAllAgain rfl hX7_183 (okP_d pk_X7_reorder 5 11 (.invokevirtual 183) 3 rfl) (by decide) rfl (Nat.le_of_ble_eq_true rfl) ?_
  refine c_X3_postAllAgain (lkA M 23) (rqM M (M 19 2) 0 26) (M 7 3) (M 19 2) zp3 rfl ⟨zp1, again_b _ _, rfl, rfl, rfl⟩ zp4 (fun l q0 q1 u q2 q3 s q4 q5 B => lk_dg (ns := M 7 3) zs.2 q0 q2 q3 q4 q5 B) (fun Y zw0 => ?_)
  change AW ev false 7 t_X7_reorder Q 14 [some (vR 0)] [] Y
  refine AW.go pk_X7_reorder 6 3 rfl rfl ?_
  change AW ev false 7 t_X7_reorder Q 18 [some (vR 0)] [vR 19] Y
  refine AW.callV (d' := 0) [] [] vm_X6_size rfl hX7_168 (okP_d pk_X7_reorder 8 18 (.invokevirtual 168) 3 rfl) (by decide) rfl (Nat.le_of_ble_eq_true rfl) ?_
  refine c_X6_size   (fun w1 zw1 => ?_)
  replace zw1 : w1 = (Y 19 2) := zw1
  change AW ev false 7 t_X7_reorder Q 21 [some (vR 0)] [vI w1] Y
  refine AW.go pk_X7_reorder 9 1 rfl rfl ?_
  refine And.intro rfl ?_
  exact zQ w1 Y ⟨zw0, zw1⟩
theorem c_X7_workload {ev : Ev} {Q : Out → Mem → Prop} {M : Mem}   (zp0 : 0 ≤ M 7 3 ∧ M 7 3 ≤ 8) (zp1 : BKI M) (zQ : ∀ (r : UInt64), r = (if M 7 3 = 0 then FP.dconst0 else wlD (bzA (M 21) 8 0 0) (M 7 3)) → Q (.inl (some (vD r))) M) : AM ev false 4 t_X7_workload [vR 0] M Q := by
  refine AM.of mt_X7_workload (Nat.le_of_ble_eq_true rfl) ?_
  change AW ev false 4 t_X7_workload Q 0 [some (vR 0), none] [] M
  refine AW.go pk_X7_workload 0 4 rfl rfl ?_
  change AW ev false 4 t_X7_workload Q 6 [some (vR 0), none] [vR 7, vI 72] M
  refine AW.callV (d' := 0) [] [vI 72] vm_X4_size rfl hX7_62 (okP_d pk_X7_workload 3 6 (.invokevirtual 62) 3 rfl) (by decide) rfl (Nat.le_of_ble_eq_true rfl) ?_
  refine c_X4_size   (fun w0 zw0 => ?_)
  replace zw0 : w0 = M 7 3 := zw0
  change AW ev false 4 t_X7_workload Q 9 [some (vR 0), none] [vI w0, vI 72] M
  refine AW.go pk_X7_workload 4 6 rfl rfl ?_
  refine And.intro (show 1 < mL t_X7_workload from (by decide)) ?_
  refine And.intro (show Inr (72 * w0) from ⟨by omega, by omega⟩) (And.intro (fun zh1 => ?_) (fun zh1 => ?_))
  · replace zh1 : 72 * w0 ≠ (0 : Int) := zh1
    change AW ev false 4 t_X7_workload Q 17 [some (vR 0), some (vI (72 * w0))] [] M
    refine AW.go pk_X7_workload 10 3 rfl rfl ?_
    change AW ev false 4 t_X7_workload Q 21 [some (vR 0), some (vI (72 * w0))] [vR 19] M
    refine AW.callV (d' := 3) [] [] vm_X6_allBusyTurns rfl hX7_228 (okP_d pk_X7_workload 12 21 (.invokevirtual 228) 3 rfl) (by decide) rfl (Nat.le_of_ble_eq_true rfl) ?_
    refine c_X6_allBusyTurns  zp1 (fun w1 zw1 => ?_)
    have zb := bzA_bd (M 21) 8 0 0
    change AW ev false 4 t_X7_workload Q 24 [some (vR 0), some (vI (72 * w0))] [vI w1] M
    refine AW.go pk_X7_workload 13 5 rfl rfl ?_
    refine And.intro (show vf_n64 (FP.ddiv (FP.i2d (Int32.ofInt w1)) (FP.i2d (Int32.ofInt (72 * w0)))) from (by rw [zw0, zw1]; exact (wl_at (by omega) (by omega) (by omega) (by omega)).1)) ?_
    refine And.intro rfl ?_
    exact zQ _ (by rw [if_neg (by omega), zw0, zw1]; rfl)
  · replace zh1 : ¬ (72 * w0 ≠ (0 : Int)) := zh1
    refine And.intro rfl ?_
    exact zQ FP.dconst0 (by rw [if_pos (by omega)])
