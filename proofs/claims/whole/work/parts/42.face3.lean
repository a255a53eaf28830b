theorem c_X7_lend {ev : Ev} {Q : Out → Mem → Prop} {M : Mem}  (a : Int) (b : Int) (zp0 : SInv M) (zp1 : -2147483648 ≤ a ∧ a < 2147483648) (zp2 : -2147483648 ≤ b ∧ b < 2147483648) (zp3 : 0 ≤ a ∧ a < M 7 3) (zp4 : 0 ≤ b ∧ b < M 7 3) (zp5 : M 10 a = 2 ∧ M 10 b = 1) (zQ : ∀ (r : Int), r = c2T (upM (upM M 10 a 1) 10 b 2 10) (M 7 3).toNat 0 0 → Q (.inl (some (vI r))) (upM (upM M 10 a 1) 10 b 2)) : AM ev false 7 t_X7_lend [vR 0, vI a, vI b] M Q := by
  have zs := zp0.1
  have zfa := fun (q : 0 ≤ a ∧ a < M 7 3) => zp0.2.1 a q.1 q.2
  have zfb := fun (q : 0 ≤ b ∧ b < M 7 3) => zp0.2.1 b q.1 q.2
  refine AM.of mt_X7_lend (Nat.le_of_ble_eq_true rfl) ?_
  change AW ev false 7 t_X7_lend Q 0 [some (vR 0), some (vI a), some (vI b)] [] M
  refine AW.go pk_X7_lend 0 3 rfl rfl ?_
  change AW ev false 7 t_X7_lend Q 2 [some (vR 0), some (vI a), some (vI b)] [vI a, vR 0] M
  refine AW.callV (d' := 6) [vI a] [] vm_X7_requireStation rfl hX7_139 (okP_d pk_X7_lend 2 2 (.invokevirtual 139) 3 rfl) (by decide) rfl (Nat.le_of_ble_eq_true rfl) ?_
  refine c_X7_requireStation a zp0 (by omega) (by omega) ?_
  change AW ev false 7 t_X7_lend Q 5 [some (vR 0), some (vI a), some (vI b)] [] M
  refine AW.go pk_X7_lend 3 3 rfl rfl ?_
  change AW ev false 7 t_X7_lend Q 7 [some (vR 0), some (vI a), some (vI b)] [vI b, vR 0] M
  refine AW.callV (d' := 6) [vI b] [] vm_X7_requireStation rfl hX7_139 (okP_d pk_X7_lend 5 7 (.invokevirtual 139) 3 rfl) (by decide) rfl (Nat.le_of_ble_eq_true rfl) ?_
  refine c_X7_requireStation b zp0 (by omega) (by omega) ?_
  change AW ev false 7 t_X7_lend Q 10 [some (vR 0), some (vI a), some (vI b)] [] M
  refine AW.go pk_X7_lend 6 4 rfl rfl ?_
  change AW ev false 7 t_X7_lend Q 15 [some (vR 0), some (vI a), some (vI b)] [vI a, vR 7] M
  refine AW.callV (d' := 1) [vI a] [] vm_X4_mirrorsOf rfl hX7_148 (okP_d pk_X7_lend 9 15 (.invokevirtual 148) 3 rfl) (by decide) rfl (Nat.le_of_ble_eq_true rfl) ?_
  refine c_X4_mirrorsOf a zp0 (by omega) (fun w1 zw1 => ?_)
  replace zfa := zfa zp3
  change AW ev false 7 t_X7_lend Q 18 [some (vR 0), some (vI a), some (vI b)] [vI w1] M
  refine AW.go pk_X7_lend 10 6 rfl rfl ?_
  refine And.intro (show Inr w1 ∧ Inr 2 from ⟨⟨by omega, by omega⟩, ⟨by omega, by omega⟩⟩) (And.intro (fun zh3 => ?_) (fun zh3 => ?_))
  · replace zh3 : w1 ≠ (2 : Int) := zh3
    exfalso; omega
  · replace zh3 : ¬ (w1 ≠ (2 : Int)) := zh3
    change AW ev false 7 t_X7_lend Q 27 [some (vR 0), some (vI a), some (vI b)] [vI b, vR 7] M
    refine AW.callV (d' := 1) [vI b] [] vm_X4_mirrorsOf rfl hX7_148 (okP_d pk_X7_lend 15 27 (.invokevirtual 148) 3 rfl) (by decide) rfl (Nat.le_of_ble_eq_true rfl) ?_
    refine c_X4_mirrorsOf b zp0 (by omega) (fun w2 zw2 => ?_)
    replace zfb := zfb zp4
    change AW ev false 7 t_X7_lend Q 30 [some (vR 0), some (vI a), some (vI b)] [vI w2] M
    refine AW.go pk_X7_lend 16 3 rfl rfl ?_
    refine And.intro (show Inr w2 ∧ Inr 1 from ⟨⟨by omega, by omega⟩, ⟨by omega, by omega⟩⟩) (And.intro (fun zh4 => ?_) (fun zh4 => ?_))
    · replace zh4 : w2 = (1 : Int) := zh4
      change AW ev false 7 t_X7_lend Q 44 [some (vR 0), some (vI a), some (vI b)] [] M
      refine AW.go pk_X7_lend 23 5 rfl rfl ?_
      change AW ev false 7 t_X7_lend Q 50 [some (vR 0), some (vI a), some (vI b)] [vI 1, vI a, vR 7] M
      refine AW.callV (d' := 1) [vI a, vI 1] [] vm_X4_changeMirrors rfl hX7_153 (okP_d pk_X7_lend 27 50 (.invokevirtual 153) 3 rfl) (by decide) rfl (Nat.le_of_ble_eq_true rfl) ?_
      refine c_X4_changeMirrors a 1 zp0 (by omega) ?_
      change AW ev false 7 t_X7_lend Q 53 [some (vR 0), some (vI a), some (vI b)] [] (upM M 10 a 1)
      refine AW.go pk_X7_lend 28 5 rfl rfl ?_
      change AW ev false 7 t_X7_lend Q 59 [some (vR 0), some (vI a), some (vI b)] [vI 2, vI b, vR 7] (upM M 10 a 1)
      refine AW.callV (d' := 1) [vI b, vI 2] [] vm_X4_changeMirrors rfl hX7_153 (okP_d pk_X7_lend 32 59 (.invokevirtual 153) 3 rfl) (by decide) rfl (Nat.le_of_ble_eq_true rfl) ?_
      refine c_X4_changeMirrors b 2 (zp0.mir (by omega)) (show 0 ≤ b ∧ b < (M 7 3) from by omega) ?_
      change AW ev false 7 t_X7_lend Q 62 [some (vR 0), some (vI a), some (vI b)] [] (upM (upM M 10 a 1) 10 b 2)
      refine AW.go pk_X7_lend 33 3 rfl rfl ?_
      change AW ev false 7 t_X7_lend Q 66 [some (vR 0), some (vI a), some (vI b)] [vR 7] (upM (upM M 10 a 1) 10 b 2)
      refine AW.callV (d' := 0) [] [] vm_X4_withTwoMirrors rfl hX7_156 (okP_d pk_X7_lend 35 66 (.invokevirtual 156) 3 rfl) (by decide) rfl (Nat.le_of_ble_eq_true rfl) ?_
      refine c_X4_withTwoMirrors  ((zp0.mir (by omega)).mir (by omega)) (fun w3 zw3 => ?_)
      change AW ev false 7 t_X7_lend Q 69 [some (vR 0), some (vI a), some (vI b)] [vI w3] (upM (upM M 10 a 1) 10 b 2)
      refine AW.go pk_X7_lend 36 1 rfl rfl ?_
      refine And.intro rfl ?_
      exact zQ w3 zw3
    · replace zh4 : ¬ (w2 = (1 : Int)) := zh4
      exfalso; omega
theorem c_X7_lend_x1 {ev : Ev} {Q : Out → Mem → Prop} {M : Mem}  (a : Int) (b : Int) (zp0 : SInv M) (zp1 : -2147483648 ≤ a ∧ a < 2147483648) (zp2 : -2147483648 ≤ b ∧ b < 2147483648) (zp3 : ¬ (0 ≤ a ∧ a < M 7 3)) (zQ : Q (.inr "java/lang/IndexOutOfBoundsException") M) : AM ev true 7 t_X7_lend [vR 0, vI a, vI b] M Q := by
  refine AM.of mt_X7_lend (Nat.le_of_ble_eq_true rfl) ?_
  change AW ev true 7 t_X7_lend Q 0 [some (vR 0), some (vI a), some (vI b)] [] M
  refine AW.go pk_X7_lend 0 3 rfl rfl ?_
  change AW ev true 7 t_X7_lend Q 2 [some (vR 0), some (vI a), some (vI b)] [vI a, vR 0] M
  refine AW.callVT (d' := 6) [vI a] [] vm_X7_requireStation rfl hX7_139 (okP_d pk_X7_lend 2 2 (.invokevirtual 139) 3 rfl) (by decide) rfl (Nat.le_of_ble_eq_true rfl) ?_
  exact c_X7_requireStation_x a zp0 (by omega) (by omega) zQ
theorem c_X7_lend_x2 {ev : Ev} {Q : Out → Mem → Prop} {M : Mem}  (a : Int) (b : Int) (zp0 : SInv M) (zp1 : -2147483648 ≤ a ∧ a < 2147483648) (zp2 : -2147483648 ≤ b ∧ b < 2147483648) (zp3 : 0 ≤ a ∧ a < M 7 3) (zp4 : ¬ (0 ≤ b ∧ b < M 7 3)) (zQ : Q (.inr "java/lang/IndexOutOfBoundsException") M) : AM ev true 7 t_X7_lend [vR 0, vI a, vI b] M Q := by
  refine AM.of mt_X7_lend (Nat.le_of_ble_eq_true rfl) ?_
  change AW ev true 7 t_X7_lend Q 0 [some (vR 0), some (vI a), some (vI b)] [] M
  refine AW.go pk_X7_lend 0 3 rfl rfl ?_
  change AW ev true 7 t_X7_lend Q 2 [some (vR 0), some (vI a), some (vI b)] [vI a, vR 0] M
  refine AW.callV (d' := 6) [vI a] [] vm_X7_requireStation rfl hX7_139 (okP_d pk_X7_lend 2 2 (.invokevirtual 139) 3 rfl) (by decide) rfl (Nat.le_of_ble_eq_true rfl) ?_
  refine c_X7_requireStation a zp0 (by omega) (by omega) ?_
  change AW ev true 7 t_X7_lend Q 5 [some (vR 0), some (vI a), some (vI b)] [] M
  refine AW.go pk_X7_lend 3 3 rfl rfl ?_
  change AW ev true 7 t_X7_lend Q 7 [some (vR 0), some (vI a), some (vI b)] [vI b, vR 0] M
  refine AW.callVT (d' := 6) [vI b] [] vm_X7_requireStation rfl hX7_139 (okP_d pk_X7_lend 5 7 (.invokevirtual 139) 3 rfl) (by decide) rfl (Nat.le_of_ble_eq_true rfl) ?_
  exact c_X7_requireStation_x b zp0 (by omega) (by omega) zQ
theorem c_X7_lend_x3 {ev : Ev} {Q : Out → Mem → Prop} {M : Mem}  (a : Int) (b : Int) (zp0 : SInv M) (zp1 : -2147483648 ≤ a ∧ a < 2147483648) (zp2 : -2147483648 ≤ b ∧ b < 2147483648) (zp3 : 0 ≤ a ∧ a < M 7 3) (zp4 : 0 ≤ b ∧ b < M 7 3) (zp5 : M 10 a ≠ 2) (zQ : Q (.inr "java/lang/IllegalStateException") M) : AM ev true 7 t_X7_lend [vR 0, vI a, vI b] M Q := by
  have zs := zp0.1
  have zfa := fun (q : 0 ≤ a ∧ a < M 7 3) => zp0.2.1 a q.1 q.2
  have zfb := fun (q : 0 ≤ b ∧ b < M 7 3) => zp0.2.1 b q.1 q.2
  refine AM.of mt_X7_lend (Nat.le_of_ble_eq_true rfl) ?_
  change AW ev true 7 t_X7_lend Q 0 [some (vR 0), some (vI a), some (vI b)] [] M
  refine AW.go pk_X7_lend 0 3 rfl rfl ?_
  change AW ev true 7 t_X7_lend Q 2 [some (vR 0), some (vI a), some (vI b)] [vI a, vR 0] M
  refine AW.callV (d' := 6) [vI a] [] vm_X7_requireStation rfl hX7_139 (okP_d pk_X7_lend 2 2 (.invokevirtual 139) 3 rfl) (by decide) rfl (Nat.le_of_ble_eq_true rfl) ?_
  refine c_X7_requireStation a zp0 (by omega) (by omega) ?_
  change AW ev true 7 t_X7_lend Q 5 [some (vR 0), some (vI a), some (vI b)] [] M
  refine AW.go pk_X7_lend 3 3 rfl rfl ?_
  change AW ev true 7 t_X7_lend Q 7 [some (vR 0), some (vI a), some (vI b)] [vI b, vR 0] M
  refine AW.callV (d' := 6) [vI b] [] vm_X7_requireStation rfl hX7_139 (okP_d pk_X7_lend 5 7 (.invokevirtual 139) 3 rfl) (by decide) rfl (Nat.le_of_ble_eq_true rfl) ?_
  refine c_X7_requireStation b zp0 (by omega) (by omega) ?_
  change AW ev true 7 t_X7_lend Q 10 [some (vR 0), some (vI a), some (vI b)] [] M
  refine AW.go pk_X7_lend 6 4 rfl rfl ?_
  change AW ev true 7 t_X7_lend Q 15 [some (vR 0), some (vI a), some (vI b)] [vI a, vR 7] M
  refine AW.callV (d' := 1) [vI a] [] vm_X4_mirrorsOf rfl hX7_148 (okP_d pk_X7_lend 9 15 (.invokevirtual 148) 3 rfl) (by decide) rfl (Nat.le_of_ble_eq_true rfl) ?_
  refine c_X4_mirrorsOf a zp0 (by omega) (fun w1 zw1 => ?_)
  replace zfa := zfa zp3
  change AW ev true 7 t_X7_lend Q 18 [some (vR 0), some (vI a), some (vI b)] [vI w1] M
  refine AW.go pk_X7_lend 10 6 rfl rfl ?_
  refine And.intro (show Inr w1 ∧ Inr 2 from ⟨⟨by omega, by omega⟩, ⟨by omega, by omega⟩⟩) (And.intro (fun zh3 => ?_) (fun zh3 => ?_))
  · replace zh3 : w1 ≠ (2 : Int) := zh3
    change AW ev true 7 t_X7_lend Q 34 [some (vR 0), some (vI a), some (vI b)] [] M
    exact AW.thr 8 (by decide) x_7_ISE rfl (by decide) (okP_d pk_X7_lend 18 34 (.new 97) 3 rfl) (okP_d pk_X7_lend 19 37 (.dup) 1 rfl) (okP_d pk_X7_lend 20 38 (.ldc 151) 2 rfl) (okP_d pk_X7_lend 21 40 (.invokespecial 101) 3 rfl) (okP_d pk_X7_lend 22 43 (.athrow) 1 rfl) zQ
  · replace zh3 : ¬ (w1 ≠ (2 : Int)) := zh3
    exfalso; omega
theorem c_X7_lend_x4 {ev : Ev} {Q : Out → Mem → Prop} {M : Mem}  (a : Int) (b : Int) (zp0 : SInv M) (zp1 : -2147483648 ≤ a ∧ a < 2147483648) (zp2 : -2147483648 ≤ b ∧ b < 2147483648) (zp3 : 0 ≤ a ∧ a < M 7 3) (zp4 : 0 ≤ b ∧ b < M 7 3) (zp5 : M 10 a = 2 ∧ M 10 b ≠ 1) (zQ : Q (.inr "java/lang/IllegalStateException") M) : AM ev true 7 t_X7_lend [vR 0, vI a, vI b] M Q := by
  have zs := zp0.1
  have zfa := fun (q : 0 ≤ a ∧ a < M 7 3) => zp0.2.1 a q.1 q.2
  have zfb := fun (q : 0 ≤ b ∧ b < M 7 3) => zp0.2.1 b q.1 q.2
  refine AM.of mt_X7_lend (Nat.le_of_ble_eq_true rfl) ?_
  change AW ev true 7 t_X7_lend Q 0 [some (vR 0), some (vI a), some (vI b)] [] M
  refine AW.go pk_X7_lend 0 3 rfl rfl ?_
  change AW ev true 7 t_X7_lend Q 2 [some (vR 0), some (vI a), some (vI b)] [vI a, vR 0] M
  refine AW.callV (d' := 6) [vI a] [] vm_X7_requireStation rfl hX7_139 (okP_d pk_X7_lend 2 2 (.invokevirtual 139) 3 rfl) (by decide) rfl (Nat.le_of_ble_eq_true rfl) ?_
  refine c_X7_requireStation a zp0 (by omega) (by omega) ?_
  change AW ev true 7 t_X7_lend Q 5 [some (vR 0), some (vI a), some (vI b)] [] M
  refine AW.go pk_X7_lend 3 3 rfl rfl ?_
  change AW ev true 7 t_X7_lend Q 7 [some (vR 0), some (vI a), some (vI b)] [vI b, vR 0] M
  refine AW.callV (d' := 6) [vI b] [] vm_X7_requireStation rfl hX7_139 (okP_d pk_X7_lend 5 7 (.invokevirtual 139) 3 rfl) (by decide) rfl (Nat.le_of_ble_eq_true rfl) ?_
  refine c_X7_requireStation b zp0 (by omega) (by omega) ?_
  change AW ev true 7 t_X7_lend Q 10 [some (vR 0), some (vI a), some (vI b)] [] M
  refine AW.go pk_X7_lend 6 4 rfl rfl ?_
  change AW ev true 7 t_X7_lend Q 15 [some (vR 0), some (vI a), some (vI b)] [vI a, vR 7] M
  refine AW.callV (d' := 1) [vI a] [] vm_X4_mirrorsOf rfl hX7_148 (okP_d pk_X7_lend 9 15 (.invokevirtual 148) 3 rfl) (by decide) rfl (Nat.le_of_ble_eq_true rfl) ?_
  refine c_X4_mirrorsOf a zp0 (by omega) (fun w1 zw1 => ?_)
  replace zfa := zfa zp3
  change AW ev true 7 t_X7_lend Q 18 [some (vR 0), some (vI a), some (vI b)] [vI w1] M
  refine AW.go pk_X7_lend 10 6 rfl rfl ?_
  refine And.intro (show Inr w1 ∧ Inr 2 from ⟨⟨by omega, by omega⟩, ⟨by omega, by omega⟩⟩) (And.intro (fun zh3 => ?_) (fun zh3 => ?_))
  · replace zh3 : w1 ≠ (2 : Int) := zh3
    exfalso; omega
  · replace zh3 : ¬ (w1 ≠ (2 : Int)) := zh3
    change AW ev true 7 t_X7_lend Q 27 [some (vR 0), some (vI a), some (vI b)] [vI b, vR 7] M
    refine AW.callV (d' := 1) [vI b] [] vm_X4_mirrorsOf rfl hX7_148 (okP_d pk_X7_lend 15 27 (.invokevirtual 148) 3 rfl) (by decide) rfl (Nat.le_of_ble_eq_true rfl) ?_
    refine c_X4_mirrorsOf b zp0 (by omega) (fun w2 zw2 => ?_)
    replace zfb := zfb zp4
    change AW ev true 7 t_X7_lend Q 30 [some (vR 0), some (vI a), some (vI b)] [vI w2] M
    refine AW.go pk_X7_lend 16 3 rfl rfl ?_
    refine And.intro (show Inr w2 ∧ Inr 1 from ⟨⟨by omega, by omega⟩, ⟨by omega, by omega⟩⟩) (And.intro (fun zh4 => ?_) (fun zh4 => ?_))
    · replace zh4 : w2 = (1 : Int) := zh4
      exfalso; omega
    · replace zh4 : ¬ (w2 = (1 : Int)) := zh4
      change AW ev true 7 t_X7_lend Q 34 [some (vR 0), some (vI a), some (vI b)] [] M
      exact AW.thr 8 (by decide) x_7_ISE rfl (by decide) (okP_d pk_X7_lend 18 34 (.new 97) 3 rfl) (okP_d pk_X7_lend 19 37 (.dup) 1 rfl) (okP_d pk_X7_lend 20 38 (.ldc 151) 2 rfl) (okP_d pk_X7_lend 21 40 (.invokespecial 101) 3 rfl) (okP_d pk_X7_lend 22 43 (.athrow) 1 rfl) zQ
theorem c_X7_blocker {ev : Ev} {Q : Out → Mem → Prop} {M : Mem}  (a : Int) (b : Int) (zp0 : SInv M) (zp1 : -2147483648 ≤ a ∧ a < 2147483648) (zp2 : -2147483648 ≤ b ∧ b < 2147483648) (zp3 : 0 ≤ a ∧ a < M 7 3) (zp4 : 0 ≤ b ∧ b < M 7 3) (zp5 : a ≠ b) (zp6 : TInv M) (zQ : ∀ (r : Int), r = betF (M 2) (M 8) (M 9) a b ∧ (-1 ≤ r ∧ r < 144) → Q (.inl (some (vI r))) M) : AM ev false 8 t_X7_blocker [vR 0, vI a, vI b] M Q := by
  refine AM.of mt_X7_blocker (Nat.le_of_ble_eq_true rfl) ?_
  change AW ev false 8 t_X7_blocker Q 0 [some (vR 0), some (vI a), some (vI b)] [] M
  refine AW.go pk_X7_blocker 0 4 rfl rfl ?_
  change AW ev false 8 t_X7_blocker Q 3 [some (vR 0), some (vI a), some (vI b)] [vI b, vI a, vR 0] M
  refine AW.callV (d' := 7) [vI a, vI b] [] vm_X7_requirePair rfl hX7_165 (okP_d pk_X7_blocker 3 3 (.invokevirtual 165) 3 rfl) (by decide) rfl (Nat.le_of_ble_eq_true rfl) ?_
  refine c_X7_requirePair a b zp0 (by omega) (by omega) (by omega) (by omega) (by omega) ?_
  change AW ev false 8 t_X7_blocker Q 6 [some (vR 0), some (vI a), some (vI b)] [] M
  refine AW.go pk_X7_blocker 4 5 rfl rfl ?_
  change AW ev false 8 t_X7_blocker Q 12 [some (vR 0), some (vI a), some (vI b)] [vI b, vI a, vR 18] M
  refine AW.callV (d' := 4) [vI a, vI b] [] vm_X2_blockingCell rfl hX7_193 (okP_d pk_X7_blocker 8 12 (.invokevirtual 193) 3 rfl) (by decide) rfl (Nat.le_of_ble_eq_true rfl) ?_
  refine c_X2_blockingCell a b zp6 zp0 (by omega) (by omega) (by omega) (fun w1 zw1 => ?_)
  change AW ev false 8 t_X7_blocker Q 15 [some (vR 0), some (vI a), some (vI b)] [vI w1] M
  refine AW.go pk_X7_blocker 9 1 rfl rfl ?_
  refine And.intro rfl ?_
  exact zQ w1 zw1
theorem c_X7_blocker_x1 {ev : Ev} {Q : Out → Mem → Prop} {M : Mem}  (a : Int) (b : Int) (zp0 : SInv M) (zp1 : -2147483648 ≤ a ∧ a < 2147483648) (zp2 : -2147483648 ≤ b ∧ b < 2147483648) (zp3 : ¬ (0 ≤ a ∧ a < M 7 3)) (zQ : Q (.inr "java/lang/IndexOutOfBoundsException") M) : AM ev true 8 t_X7_blocker [vR 0, vI a, vI b] M Q := by
  refine AM.of mt_X7_blocker (Nat.le_of_ble_eq_true rfl) ?_
  change AW ev true 8 t_X7_blocker Q 0 [some (vR 0), some (vI a), some (vI b)] [] M
  refine AW.go pk_X7_blocker 0 4 rfl rfl ?_
  change AW ev true 8 t_X7_blocker Q 3 [some (vR 0), some (vI a), some (vI b)] [vI b, vI a, vR 0] M
  refine AW.callVT (d' := 7) [vI a, vI b] [] vm_X7_requirePair rfl hX7_165 (okP_d pk_X7_blocker 3 3 (.invokevirtual 165) 3 rfl) (by decide) rfl (Nat.le_of_ble_eq_true rfl) ?_
  exact c_X7_requirePair_x1 a b zp0 (by omega) (by omega) (by omega) zQ
theorem c_X7_blocker_x2 {ev : Ev} {Q : Out → Mem → Prop} {M : Mem}  (a : Int) (b : Int) (zp0 : SInv M) (zp1 : -2147483648 ≤ a ∧ a < 2147483648) (zp2 : -2147483648 ≤ b ∧ b < 2147483648) (zp3 : 0 ≤ a ∧ a < M 7 3) (zp4 : ¬ (0 ≤ b ∧ b < M 7 3)) (zQ : Q (.inr "java/lang/IndexOutOfBoundsException") M) : AM ev true 8 t_X7_blocker [vR 0, vI a, vI b] M Q := by
  refine AM.of mt_X7_blocker (Nat.le_of_ble_eq_true rfl) ?_
  change AW ev true 8 t_X7_blocker Q 0 [some (vR 0), some (vI a), some (vI b)] [] M
  refine AW.go pk_X7_blocker 0 4 rfl rfl ?_
  change AW ev true 8 t_X7_blocker Q 3 [some (vR 0), some (vI a), some (vI b)] [vI b, vI a, vR 0] M
  refine AW.callVT (d' := 7) [vI a, vI b] [] vm_X7_requirePair rfl hX7_165 (okP_d pk_X7_blocker 3 3 (.invokevirtual 165) 3 rfl) (by decide) rfl (Nat.le_of_ble_eq_true rfl) ?_
  exact c_X7_requirePair_x2 a b zp0 (by omega) (by omega) (by omega) (by omega) zQ
theorem c_X7_blocker_x3 {ev : Ev} {Q : Out → Mem → Prop} {M : Mem}  (a : Int) (b : Int) (zp0 : SInv M) (zp1 : -2147483648 ≤ a ∧ a < 2147483648) (zp2 : -2147483648 ≤ b ∧ b < 2147483648) (zp3 : 0 ≤ a ∧ a < M 7 3) (zp4 : 0 ≤ b ∧ b < M 7 3) (zp5 : a = b) (zQ : Q (.inr "java/lang/IllegalArgumentException") M) : AM ev true 8 t_X7_blocker [vR 0, vI a, vI b] M Q := by
  refine AM.of mt_X7_blocker (Nat.le_of_ble_eq_true rfl) ?_
  change AW ev true 8 t_X7_blocker Q 0 [some (vR 0), some (vI a), some (vI b)] [] M
  refine AW.go pk_X7_blocker 0 4 rfl rfl ?_
  change AW ev true 8 t_X7_blocker Q 3 [some (vR 0), some (vI a), some (vI b)] [vI b, vI a, vR 0] M
  refine AW.callVT (d' := 7) [vI a, vI b] [] vm_X7_requirePair rfl hX7_165 (okP_d pk_X7_blocker 3 3 (.invokevirtual 165) 3 rfl) (by decide) rfl (Nat.le_of_ble_eq_true rfl) ?_
  exact c_X7_requirePair_x3 a b zp0 (by omega) (by omega) (by omega) (by omega) (by omega) zQ
theorem c_X7_link {ev : Ev} {Q : Out → Mem → Prop} {M : Mem}  (a : Int) (b : Int) (hr : Int) (zp0 : SInv M) (zp1 : -2147483648 ≤ a ∧ a < 2147483648) (zp2 : -2147483648 ≤ b ∧ b < 2147483648) (zp3 : -2147483648 ≤ hr ∧ hr < 2147483648) (zp4 : 0 ≤ a ∧ a < M 7 3) (zp5 : 0 ≤ b ∧ b < M 7 3) (zp6 : a ≠ b) (zp7 : 6 ≤ hr ∧ hr ≤ 17) (zp8 : TInv M) (zp9 : KInv M) (zQ : ∀ (r : Int), r = lnkF (M 2) (M 8) (M 9) (M 10) (cvC M) a b hr ∧ (0 ≤ r ∧ r ≤ 5) → Q (.inl (some (vI r))) M) : AM ev false 8 t_X7_link [vR 0, vI a, vI b, vI hr] M Q := by
  refine AM.of mt_X7_link (Nat.le_of_ble_eq_true rfl) ?_
  change AW ev false 8 t_X7_link Q 0 [some (vR 0), some (vI a), some (vI b), some (vI hr)] [] M
  refine AW.go pk_X7_link 0 4 rfl rfl ?_
  change AW ev false 8 t_X7_link Q 3 [some (vR 0), some (vI a), some (vI b), some (vI hr)] [vI b, vI a, vR 0] M
  refine AW.callV (d' := 7) [vI a, vI b] [] vm_X7_requirePair rfl hX7_165 (okP_d pk_X7_link 3 3 (.invokevirtual 165) 3 rfl) (by decide) rfl (Nat.le_of_ble_eq_true rfl) ?_
  refine c_X7_requirePair a b zp0 (by omega) (by omega) (by omega) (by omega) (by omega) ?_
  change AW ev false 8 t_X7_link Q 6 [some (vR 0), some (vI a), some (vI b), some (vI hr)] [] M
  refine AW.go pk_X7_link 4 4 rfl rfl ?_
  change AW ev false 8 t_X7_link Q 11 [some (vR 0), some (vI a), some (vI b), some (vI hr)] [vI 17, vI 6, vI hr] M
  refine AW.callS (d' := 6) [vI hr, vI 6, vI 17] [] sm_X7_requireRange hX7_78 (okP_d pk_X7_link 7 11 (.invokestatic 78) 3 rfl) (by decide) rfl (Nat.le_of_ble_eq_true rfl) ?_
  refine c_X7_requireRange hr 6 17 (by omega) (by omega) (by omega) (by omega) ?_
  change AW ev false 8 t_X7_link Q 14 [some (vR 0), some (vI a), some (vI b), some (vI hr)] [] M
  refine AW.go pk_X7_link 8 6 rfl rfl ?_
  change AW ev false 8 t_X7_link Q 21 [some (vR 0), some (vI a), some (vI b), some (vI hr)] [vI hr, vI b, vI a, vR 18] M
  refine AW.callV (d' := 5) [vI a, vI b, vI hr] [] vm_X2_obstacle rfl hX7_196 (okP_d pk_X7_link 13 21 (.invokevirtual 196) 3 rfl) (by decide) rfl (Nat.le_of_ble_eq_true rfl) ?_
  refine c_X2_obstacle a b hr zp8 zp0 zp9 (by omega) (by omega) (by omega) (by omega) (fun w1 zw1 => ?_)
  change AW ev false 8 t_X7_link Q 24 [some (vR 0), some (vI a), some (vI b), some (vI hr)] [vI w1] M
  refine AW.go pk_X7_link 14 1 rfl rfl ?_
  refine And.intro rfl ?_
  exact zQ w1 zw1
theorem c_X7_link_x1 {ev : Ev} {Q : Out → Mem → Prop} {M : Mem}  (a : Int) (b : Int) (hr : Int) (zp0 : SInv M) (zp1 : -2147483648 ≤ a ∧ a < 2147483648) (zp2 : -2147483648 ≤ b ∧ b < 2147483648) (zp3 : -2147483648 ≤ hr ∧ hr < 2147483648) (zp4 : ¬ (0 ≤ a ∧ a < M 7 3)) (zQ : Q (.inr "java/lang/IndexOutOfBoundsException") M) : AM ev true 8 t_X7_link [vR 0, vI a, vI b, vI hr] M Q := by
  refine AM.of mt_X7_link (Nat.le_of_ble_eq_true rfl) ?_
  change AW ev true 8 t_X7_link Q 0 [some (vR 0), some (vI a), some (vI b), some (vI hr)] [] M
  refine AW.go pk_X7_link 0 4 rfl rfl ?_
  change AW ev true 8 t_X7_link Q 3 [some (vR 0), some (vI a), some (vI b), some (vI hr)] [vI b, vI a, vR 0] M
  refine AW.callVT (d' := 7) [vI a, vI b] [] vm_X7_requirePair rfl hX7_165 (okP_d pk_X7_link 3 3 (.invokevirtual 165) 3 rfl) (by decide) rfl (Nat.le_of_ble_eq_true rfl) ?_
  exact c_X7_requirePair_x1 a b zp0 (by omega) (by omega) (by omega) zQ
theorem c_X7_link_x2 {ev : Ev} {Q : Out → Mem → Prop} {M : Mem}  (a : Int) (b : Int) (hr : Int) (zp0 : SInv M) (zp1 : -2147483648 ≤ a ∧ a < 2147483648) (zp2 : -2147483648 ≤ b ∧ b < 2147483648) (zp3 : -2147483648 ≤ hr ∧ hr < 2147483648) (zp4 : 0 ≤ a ∧ a < M 7 3) (zp5 : ¬ (0 ≤ b ∧ b < M 7 3)) (zQ : Q (.inr "java/lang/IndexOutOfBoundsException") M) : AM ev true 8 t_X7_link [vR 0, vI a, vI b, vI hr] M Q := by
  refine AM.of mt_X7_link (Nat.le_of_ble_eq_true rfl) ?_
  change AW ev true 8 t_X7_link Q 0 [some (vR 0), some (vI a), some (vI b), some (vI hr)] [] M
  refine AW.go pk_X7_link 0 4 rfl rfl ?_
  change AW ev true 8 t_X7_link Q 3 [some (vR 0), some (vI a), some (vI b), some (vI hr)] [vI b, vI a, vR 0] M
  refine AW.callVT (d' := 7) [vI a, vI b] [] vm_X7_requirePair rfl hX7_165 (okP_d pk_X7_link 3 3 (.invokevirtual 165) 3 rfl) (by decide) rfl (Nat.le_of_ble_eq_true rfl) ?_
  exact c_X7_requirePair_x2 a b zp0 (by omega) (by omega) (by omega) (by omega) zQ
theorem c_X7_link_x3 {ev : Ev} {Q : Out → Mem → Prop} {M : Mem}  (a : Int) (b : Int) (hr : Int) (zp0 : SInv M) (zp1 : -2147483648 ≤ a ∧ a < 2147483648) (zp2 : -2147483648 ≤ b ∧ b < 2147483648) (zp3 : -2147483648 ≤ hr ∧ hr < 2147483648) (zp4 : 0 ≤ a ∧ a < M 7 3) (zp5 : 0 ≤ b ∧ b < M 7 3) (zp6 : a = b) (zQ : Q (.inr "java/lang/IllegalArgumentException") M) : AM ev true 8 t_X7_link [vR 0, vI a, vI b, vI hr] M Q := by
  refine AM.of mt_X7_link (Nat.le_of_ble_eq_true rfl) ?_
  change AW ev true 8 t_X7_link Q 0 [some (vR 0), some (vI a), some (vI b), some (vI hr)] [] M
  refine AW.go pk_X7_link 0 4 rfl rfl ?_
  change AW ev true 8 t_X7_link Q 3 [some (vR 0), some (vI a), some (vI b), some (vI hr)] [vI b, vI a, vR 0] M
  refine AW.callVT (d' := 7) [vI a, vI b] [] vm_X7_requirePair rfl hX7_165 (okP_d pk_X7_link 3 3 (.invokevirtual 165) 3 rfl) (by decide) rfl (Nat.le_of_ble_eq_true rfl) ?_
  exact c_X7_requirePair_x3 a b zp0 (by omega) (by omega) (by omega) (by omega) (by omega) zQ
theorem c_X7_link_x4 {ev : Ev} {Q : Out → Mem → Prop} {M : Mem}  (a : Int) (b : Int) (hr : Int) (zp0 : SInv M) (zp1 : -2147483648 ≤ a ∧ a < 2147483648) (zp2 : -2147483648 ≤ b ∧ b < 2147483648) (zp3 : -2147483648 ≤ hr ∧ hr < 2147483648) (zp4 : 0 ≤ a ∧ a < M 7 3) (zp5 : 0 ≤ b ∧ b < M 7 3) (zp6 : a ≠ b) (zp7 : ¬ (6 ≤ hr ∧ hr ≤ 17)) (zQ : Q (.inr "java/lang/IllegalArgumentException") M) : AM ev true 8 t_X7_link [vR 0, vI a, vI b, vI hr] M Q := by
  refine AM.of mt_X7_link (Nat.le_of_ble_eq_true rfl) ?_
  change AW ev true 8 t_X7_link Q 0 [some (vR 0), some (vI a), some (vI b), some (vI hr)] [] M
  refine AW.go pk_X7_link 0 4 rfl rfl ?_
  change AW ev true 8 t_X7_link Q 3 [some (vR 0), some (vI a), some (vI b), some (vI hr)] [vI b, vI a, vR 0] M
  refine AW.callV (d' := 7) [vI a, vI b] [] vm_X7_requirePair rfl hX7_165 (okP_d pk_X7_link 3 3 (.invokevirtual 165) 3 rfl) (by decide) rfl (Nat.le_of_ble_eq_true rfl) ?_
  refine c_X7_requirePair a b zp0 (by omega) (by omega) (by omega) (by omega) (by omega) ?_
  change AW ev true 8 t_X7_link Q 6 [some (vR 0), some (vI a), some (vI b), some (vI hr)] [] M
  refine AW.go pk_X7_link 4 4 rfl rfl ?_
  change AW ev true 8 t_X7_link Q 11 [some (vR 0), some (vI a), some (vI b), some (vI hr)] [vI 17, vI 6, vI hr] M
  refine AW.callST (d' := 6) [vI hr, vI 6, vI 17] [] sm_X7_requireRange hX7_78 (okP_d pk_X7_link 7 11 (.invokestatic 78) 3 rfl) (by decide) rfl (Nat.le_of_ble_eq_true rfl) ?_
  exact c_X7_requireRange_x hr 6 17 (by omega) (by omega) (by omega) (by omega) zQ
theorem c_X7_mastFor {ev : Ev} {Q : Out → Mem → Prop} {M : Mem}  (a : Int) (b : Int) (zp0 : SInv M) (zp1 : -2147483648 ≤ a ∧ a < 2147483648) (zp2 : -2147483648 ≤ b ∧ b < 2147483648) (zp3 : 0 ≤ a ∧ a < M 7 3) (zp4 : 0 ≤ b ∧ b < M 7 3) (zp5 : a ≠ b) (zp6 : TInv M) (zQ : ∀ (r : Int), r = lmT (fun k => blkF (M 2) (M 8 a) (M 2 (M 8 a) + k) (M 8 b) (eyeF (M 2) (M 8) (M 9) b)) 51 0 → Q (.inl (some (vI r))) M) : AM ev false 8 t_X7_mastFor [vR 0, vI a, vI b] M Q := by
  refine AM.of mt_X7_mastFor (Nat.le_of_ble_eq_true rfl) ?_
  change AW ev false 8 t_X7_mastFor Q 0 [some (vR 0), some (vI a), some (vI b)] [] M
  refine AW.go pk_X7_mastFor 0 4 rfl rfl ?_
  change AW ev false 8 t_X7_mastFor Q 3 [some (vR 0), some (vI a), some (vI b)] [vI b, vI a, vR 0] M
  refine AW.callV (d' := 7) [vI a, vI b] [] vm_X7_requirePair rfl hX7_165 (okP_d pk_X7_mastFor 3 3 (.invokevirtual 165) 3 rfl) (by decide) rfl (Nat.le_of_ble_eq_true rfl) ?_
  refine c_X7_requirePair a b zp0 (by omega) (by omega) (by omega) (by omega) (by omega) ?_
  change AW ev false 8 t_X7_mastFor Q 6 [some (vR 0), some (vI a), some (vI b)] [] M
  refine AW.go pk_X7_mastFor 4 5 rfl rfl ?_
  change AW ev false 8 t_X7_mastFor Q 12 [some (vR 0), some (vI a), some (vI b)] [vI b, vI a, vR 18] M
  refine AW.callV (d' := 4) [vI a, vI b] [] vm_X2_leastMast rfl hX7_199 (okP_d pk_X7_mastFor 8 12 (.invokevirtual 199) 3 rfl) (by decide) rfl (Nat.le_of_ble_eq_true rfl) ?_
  refine c_X2_leastMast a b zp6 zp0 (by omega) (by omega) (by omega) (fun w1 zw1 => ?_)
  change AW ev false 8 t_X7_mastFor Q 15 [some (vR 0), some (vI a), some (vI b)] [vI w1] M
  refine AW.go pk_X7_mastFor 9 1 rfl rfl ?_
  refine And.intro rfl ?_
  exact zQ w1 zw1
theorem c_X7_mastFor_x1 {ev : Ev} {Q : Out → Mem → Prop} {M : Mem}  (a : Int) (b : Int) (zp0 : SInv M) (zp1 : -2147483648 ≤ a ∧ a < 2147483648) (zp2 : -2147483648 ≤ b ∧ b < 2147483648) (zp3 : ¬ (0 ≤ a ∧ a < M 7 3)) (zQ : Q (.inr "java/lang/IndexOutOfBoundsException") M) : AM ev true 8 t_X7_mastFor [vR 0, vI a, vI b] M Q := by
  refine AM.of mt_X7_mastFor (Nat.le_of_ble_eq_true rfl) ?_
  change AW ev true 8 t_X7_mastFor Q 0 [some (vR 0), some (vI a), some (vI b)] [] M
  refine AW.go pk_X7_mastFor 0 4 rfl rfl ?_
  change AW ev true 8 t_X7_mastFor Q 3 [some (vR 0), some (vI a), some (vI b)] [vI b, vI a, vR 0] M
  refine AW.callVT (d' := 7) [vI a, vI b] [] vm_X7_requirePair rfl hX7_165 (okP_d pk_X7_mastFor 3 3 (.invokevirtual 165) 3 rfl) (by decide) rfl (Nat.le_of_ble_eq_true rfl) ?_
  exact c_X7_requirePair_x1 a b zp0 (by omega) (by omega) (by omega) zQ
theorem c_X7_mastFor_x2 {ev : Ev} {Q : Out → Mem → Prop} {M : Mem}  (a : Int) (b : Int) (zp0 : SInv M) (zp1 : -2147483648 ≤ a ∧ a < 2147483648) (zp2 : -2147483648 ≤ b ∧ b < 2147483648) (zp3 : 0 ≤ a ∧ a < M 7 3) (zp4 : ¬ (0 ≤ b ∧ b < M 7 3)) (zQ : Q (.inr "java/lang/IndexOutOfBoundsException") M) : AM ev true 8 t_X7_mastFor [vR 0, vI a, vI b] M Q := by
  refine AM.of mt_X7_mastFor (Nat.le_of_ble_eq_true rfl) ?_
  change AW ev true 8 t_X7_mastFor Q 0 [some (vR 0), some (vI a), some (vI b)] [] M
  refine AW.go pk_X7_mastFor 0 4 rfl rfl ?_
  change AW ev true 8 t_X7_mastFor Q 3 [some (vR 0), some (vI a), some (vI b)] [vI b, vI a, vR 0] M
  refine AW.callVT (d' := 7) [vI a, vI b] [] vm_X7_requirePair rfl hX7_165 (okP_d pk_X7_mastFor 3 3 (.invokevirtual 165) 3 rfl) (by decide) rfl (Nat.le_of_ble_eq_true rfl) ?_
  exact c_X7_requirePair_x2 a b zp0 (by omega) (by omega) (by omega) (by omega) zQ
theorem c_X7_mastFor_x3 {ev : Ev} {Q : Out → Mem → Prop} {M : Mem}  (a : Int) (b : Int) (zp0 : SInv M) (zp1 : -2147483648 ≤ a ∧ a < 2147483648) (zp2 : -2147483648 ≤ b ∧ b < 2147483648) (zp3 : 0 ≤ a ∧ a < M 7 3) (zp4 : 0 ≤ b ∧ b < M 7 3) (zp5 : a = b) (zQ : Q (.inr "java/lang/IllegalArgumentException") M) : AM ev true 8 t_X7_mastFor [vR 0, vI a, vI b] M Q := by
  refine AM.of mt_X7_mastFor (Nat.le_of_ble_eq_true rfl) ?_
  change AW ev true 8 t_X7_mastFor Q 0 [some (vR 0), some (vI a), some (vI b)] [] M
  refine AW.go pk_X7_mastFor 0 4 rfl rfl ?_
  change AW ev true 8 t_X7_mastFor Q 3 [some (vR 0), some (vI a), some (vI b)] [vI b, vI a, vR 0] M
  refine AW.callVT (d' := 7) [vI a, vI b] [] vm_X7_requirePair rfl hX7_165 (okP_d pk_X7_mastFor 3 3 (.invokevirtual 165) 3 rfl) (by decide) rfl (Nat.le_of_ble_eq_true rfl) ?_
  exact c_X7_requirePair_x3 a b zp0 (by omega) (by omega) (by omega) (by omega) (by omega) zQ
theorem c_X7_bestCell {ev : Ev} {Q : Out → Mem → Prop} {M : Mem}  (m : Int) (zp0 : SInv M) (zp1 : TInv M) (zp2 : 0 ≤ m ∧ m ≤ 50) (zQ : ∀ (r : Int), r = bcT (fun c => ∃ i, 0 ≤ i ∧ i < M 7 3 ∧ M 8 i = c) (M 2) (fun c => ssT (fun b => blkF (M 2) c (M 2 c + m) (M 8 b) (eyeF (M 2) (M 8) (M 9) b)) (M 7 3).toNat 0 0) 144 0 (-1) 0 → Q (.inl (some (vI r))) M) : AM ev false 7 t_X7_bestCell [vR 0, vI m] M Q := by
  refine AM.of mt_X7_bestCell (Nat.le_of_ble_eq_true rfl) ?_
  change AW ev false 7 t_X7_bestCell Q 0 [some (vR 0), some (vI m)] [] M
  refine AW.go pk_X7_bestCell 0 4 rfl rfl ?_
  change AW ev false 7 t_X7_bestCell Q 4 [some (vR 0), some (vI m)] [vI 50, vI 0, vI m] M
  refine AW.callS (d' := 6) [vI m, vI 0, vI 50] [] sm_X7_requireRange hX7_78 (okP_d pk_X7_bestCell 3 4 (.invokestatic 78) 3 rfl) (by decide) rfl (Nat.le_of_ble_eq_true rfl) ?_
  refine c_X7_requireRange m 0 50 (by omega) (by omega) (by omega) (by omega) ?_
  change AW ev false 7 t_X7_bestCell Q 7 [some (vR 0), some (vI m)] [] M
  refine AW.go pk_X7_bestCell 4 4 rfl rfl ?_
  change AW ev false 7 t_X7_bestCell Q 12 [some (vR 0), some (vI m)] [vI m, vR 18] M
  refine AW.callV (d' := 5) [vI m] [] vm_X2_cellWithMostInSight rfl hX7_202 (okP_d pk_X7_bestCell 7 12 (.invokevirtual 202) 3 rfl) (by decide) rfl (Nat.le_of_ble_eq_true rfl) ?_
  refine c_X2_cellWithMostInSight m zp1 zp0 (by omega) (fun w1 zw1 => ?_)
  change AW ev false 7 t_X7_bestCell Q 15 [some (vR 0), some (vI m)] [vI w1] M
  refine AW.go pk_X7_bestCell 8 1 rfl rfl ?_
  refine And.intro rfl ?_
  exact zQ w1 zw1
theorem c_X7_bestCell_x1 {ev : Ev} {Q : Out → Mem → Prop} {M : Mem}  (m : Int) (zp0 : -2147483648 ≤ m ∧ m < 2147483648) (zp1 : ¬ (0 ≤ m ∧ m ≤ 50)) (zQ : Q (.inr "java/lang/IllegalArgumentException") M) : AM ev true 7 t_X7_bestCell [vR 0, vI m] M Q := by
  refine AM.of mt_X7_bestCell (Nat.le_of_ble_eq_true rfl) ?_
  change AW ev true 7 t_X7_bestCell Q 0 [some (vR 0), some (vI m)] [] M
  refine AW.go pk_X7_bestCell 0 4 rfl rfl ?_
  change AW ev true 7 t_X7_bestCell Q 4 [some (vR 0), some (vI m)] [vI 50, vI 0, vI m] M
  refine AW.callST (d' := 6) [vI m, vI 0, vI 50] [] sm_X7_requireRange hX7_78 (okP_d pk_X7_bestCell 3 4 (.invokestatic 78) 3 rfl) (by decide) rfl (Nat.le_of_ble_eq_true rfl) ?_
  exact c_X7_requireRange_x m 0 50 (by omega) (by omega) (by omega) (by omega) zQ
theorem c_X7_message {ev : Ev} {Q : Out → Mem → Prop} {M : Mem}  (m : Int) (w : Int) (zp0 : 0 ≤ M 19 2 ∧ M 19 2 ≤ 20) (zp1 : -2147483648 ≤ m ∧ m < 2147483648) (zp2 : -2147483648 ≤ w ∧ w < 2147483648) (zp3 : 0 ≤ m ∧ m < M 19 2) (zp4 : 0 ≤ w ∧ w ≤ 5) (zQ : ∀ (r : Int), r = M 20 (27 * m + w) → Q (.inl (some (vI r))) M) : AM ev false 7 t_X7_message [vR 0, vI m, vI w] M Q := by
  refine AM.of mt_X7_message (Nat.le_of_ble_eq_true rfl) ?_
  change AW ev false 7 t_X7_message Q 0 [some (vR 0), some (vI m), some (vI w)] [] M
  refine AW.go pk_X7_message 0 3 rfl rfl ?_
  change AW ev false 7 t_X7_message Q 2 [some (vR 0), some (vI m), some (vI w)] [vI m, vR 0] M
  refine AW.callV (d' := 6) [vI m] [] vm_X7_requireMessage rfl hX7_177 (okP_d pk_X7_message 2 2 (.invokevirtual 177) 3 rfl) (by decide) rfl (Nat.le_of_ble_eq_true rfl) ?_
  refine c_X7_requireMessage m (by omega) (by omega) (by omega) ?_
  change AW ev false 7 t_X7_message Q 5 [some (vR 0), some (vI m), some (vI w)] [] M
  refine AW.go pk_X7_message 3 4 rfl rfl ?_
  change AW ev false 7 t_X7_message Q 8 [some (vR 0), some (vI m), some (vI w)] [vI 5, vI 0, vI w] M
  refine AW.callS (d' := 6) [vI w, vI 0, vI 5] [] sm_X7_requireRange hX7_78 (okP_d pk_X7_message 6 8 (.invokestatic 78) 3 rfl) (by decide) rfl (Nat.le_of_ble_eq_true rfl) ?_
  refine c_X7_requireRange w 0 5 (by omega) (by omega) (by omega) (by omega) ?_
  change AW ev false 7 t_X7_message Q 11 [some (vR 0), some (vI m), some (vI w)] [] M
  refine AW.go pk_X7_message 7 5 rfl rfl ?_
  change AW ev false 7 t_X7_message Q 17 [some (vR 0), some (vI m), some (vI w)] [vI w, vI m, vR 19] M
  refine AW.callV (d' := 1) [vI m, vI w] [] vm_X6_property rfl hX7_211 (okP_d pk_X7_message 11 17 (.invokevirtual 211) 3 rfl) (by decide) rfl (Nat.le_of_ble_eq_true rfl) ?_
  refine c_X6_property m w (by omega) (by omega) (by omega) (fun w1 zw1 => ?_)
  change AW ev false 7 t_X7_message Q 20 [some (vR 0), some (vI m), some (vI w)] [vI w1] M
  refine AW.go pk_X7_message 12 1 rfl rfl ?_
  refine And.intro rfl ?_
  exact zQ w1 zw1
theorem c_X7_message_x1 {ev : Ev} {Q : Out → Mem → Prop} {M : Mem}  (m : Int) (w : Int) (zp0 : 0 ≤ M 19 2 ∧ M 19 2 ≤ 20) (zp1 : -2147483648 ≤ m ∧ m < 2147483648) (zp2 : -2147483648 ≤ w ∧ w < 2147483648) (zp3 : ¬ (0 ≤ m ∧ m < M 19 2)) (zQ : Q (.inr "java/lang/IndexOutOfBoundsException") M) : AM ev true 7 t_X7_message [vR 0, vI m, vI w] M Q := by
  refine AM.of mt_X7_message (Nat.le_of_ble_eq_true rfl) ?_
  change AW ev true 7 t_X7_message Q 0 [some (vR 0), some (vI m), some (vI w)] [] M
  refine AW.go pk_X7_message 0 3 rfl rfl ?_
  change AW ev true 7 t_X7_message Q 2 [some (vR 0), some (vI m), some (vI w)] [vI m, vR 0] M
  refine AW.callVT (d' := 6) [vI m] [] vm_X7_requireMessage rfl hX7_177 (okP_d pk_X7_message 2 2 (.invokevirtual 177) 3 rfl) (by decide) rfl (Nat.le_of_ble_eq_true rfl) ?_
  exact c_X7_requireMessage_x m (by omega) (by omega) (by omega) zQ
theorem c_X7_message_x2 {ev : Ev} {Q : Out → Mem → Prop} {M : Mem}  (m : Int) (w : Int) (zp0 : 0 ≤ M 19 2 ∧ M 19 2 ≤ 20) (zp1 : -2147483648 ≤ m ∧ m < 2147483648) (zp2 : -2147483648 ≤ w ∧ w < 2147483648) (zp3 : 0 ≤ m ∧ m < M 19 2) (zp4 : ¬ (0 ≤ w ∧ w ≤ 5)) (zQ : Q (.inr "java/lang/IllegalArgumentException") M) : AM ev true 7 t_X7_message [vR 0, vI m, vI w] M Q := by
  refine AM.of mt_X7_message (Nat.le_of_ble_eq_true rfl) ?_
  change AW ev true 7 t_X7_message Q 0 [some (vR 0), some (vI m), some (vI w)] [] M
  refine AW.go pk_X7_message 0 3 rfl rfl ?_
  change AW ev true 7 t_X7_message Q 2 [some (vR 0), some (vI m), some (vI w)] [vI m, vR 0] M
  refine AW.callV (d' := 6) [vI m] [] vm_X7_requireMessage rfl hX7_177 (okP_d pk_X7_message 2 2 (.invokevirtual 177) 3 rfl) (by decide) rfl (Nat.le_of_ble_eq_true rfl) ?_
  refine c_X7_requireMessage m (by omega) (by omega) (by omega) ?_
  change AW ev true 7 t_X7_message Q 5 [some (vR 0), some (vI m), some (vI w)] [] M
  refine AW.go pk_X7_message 3 4 rfl rfl ?_
  change AW ev true 7 t_X7_message Q 8 [some (vR 0), some (vI m), some (vI w)] [vI 5, vI 0, vI w] M
  refine AW.callST (d' := 6) [vI w, vI 0, vI 5] [] sm_X7_requireRange hX7_78 (okP_d pk_X7_message 6 8 (.invokestatic 78) 3 rfl) (by decide) rfl (Nat.le_of_ble_eq_true rfl) ?_
  exact c_X7_requireRange_x w 0 5 (by omega) (by omega) (by omega) (by omega) zQ
theorem c_X7_hop {ev : Ev} {Q : Out → Mem → Prop} {M : Mem}  (m : Int) (j : Int) (w : Int) (zp0 : 0 ≤ M 19 2 ∧ M 19 2 ≤ 20) (zp1 : -2147483648 ≤ m ∧ m < 2147483648) (zp2 : -2147483648 ≤ j ∧ j < 2147483648) (zp3 : -2147483648 ≤ w ∧ w < 2147483648) (zp4 : 0 ≤ m ∧ m < M 19 2) (zp5 : 0 ≤ M 20 (27 * m + 5) ∧ M 20 (27 * m + 5) ≤ 7) (zp6 : 0 ≤ j ∧ j < M 20 (27 * m + 5)) (zp7 : 0 ≤ w ∧ w ≤ 2) (zQ : ∀ (r : Int), r = M 20 (27 * m + 6 + 3 * j + w) → Q (.inl (some (vI r))) M) : AM ev false 7 t_X7_hop [vR 0, vI m, vI j, vI w] M Q := by
  refine AM.of mt_X7_hop (Nat.le_of_ble_eq_true rfl) ?_
  change AW ev false 7 t_X7_hop Q 0 [some (vR 0), some (vI m), some (vI j), some (vI w)] [] M
  refine AW.go pk_X7_hop 0 3 rfl rfl ?_
  change AW ev false 7 t_X7_hop Q 2 [some (vR 0), some (vI m), some (vI j), some (vI w)] [vI m, vR 0] M
  refine AW.callV (d' := 6) [vI m] [] vm_X7_requireMessage rfl hX7_177 (okP_d pk_X7_hop 2 2 (.invokevirtual 177) 3 rfl) (by decide) rfl (Nat.le_of_ble_eq_true rfl) ?_
  refine c_X7_requireMessage m (by omega) (by omega) (by omega) ?_
  change AW ev false 7 t_X7_hop Q 5 [some (vR 0), some (vI m), some (vI j), some (vI w)] [] M
  refine AW.go pk_X7_hop 3 7 rfl rfl ?_
  refine And.intro (show Inr j from ⟨by omega, by omega⟩) (And.intro (fun zh2 => ?_) (fun zh2 => ?_))
  · replace zh2 : j < (0 : Int) := zh2
    exfalso; omega
  · replace zh2 : ¬ (j < (0 : Int)) := zh2
    change AW ev false 7 t_X7_hop Q 15 [some (vR 0), some (vI m), some (vI j), some (vI w)] [vI m, vR 19, vI j] M
    refine AW.callV (d' := 2) [vI m] [vI j] vm_X6_hopsOf rfl hX7_214 (okP_d pk_X7_hop 9 15 (.invokevirtual 214) 3 rfl) (by decide) rfl (Nat.le_of_ble_eq_true rfl) ?_
    refine c_X6_hopsOf m (by omega) (by omega) (fun zr3 zzr3 => ?_)
    change AW ev false 7 t_X7_hop Q 18 [some (vR 0), some (vI m), some (vI j), some (vI w)] [vI zr3, vI j] M
    refine AW.go pk_X7_hop 10 2 rfl rfl ?_
    refine And.intro (show Inr j ∧ Inr zr3 from ⟨⟨by omega, by omega⟩, ⟨by omega, by omega⟩⟩) (And.intro (fun zh4 => ?_) (fun zh4 => ?_))
    · replace zh4 : j < zr3 := zh4
      change AW ev false 7 t_X7_hop Q 31 [some (vR 0), some (vI m), some (vI j), some (vI w)] [] M
      refine AW.go pk_X7_hop 16 4 rfl rfl ?_
      change AW ev false 7 t_X7_hop Q 34 [some (vR 0), some (vI m), some (vI j), some (vI w)] [vI 2, vI 0, vI w] M
      refine AW.callS (d' := 6) [vI w, vI 0, vI 2] [] sm_X7_requireRange hX7_78 (okP_d pk_X7_hop 19 34 (.invokestatic 78) 3 rfl) (by decide) rfl (Nat.le_of_ble_eq_true rfl) ?_
      refine c_X7_requireRange w 0 2 (by omega) (by omega) (by omega) (by omega) ?_
      change AW ev false 7 t_X7_hop Q 37 [some (vR 0), some (vI m), some (vI j), some (vI w)] [] M
      refine AW.go pk_X7_hop 20 6 rfl rfl ?_
      change AW ev false 7 t_X7_hop Q 44 [some (vR 0), some (vI m), some (vI j), some (vI w)] [vI w, vI j, vI m, vR 19] M
      refine AW.callV (d' := 1) [vI m, vI j, vI w] [] vm_X6_hopPart rfl hX7_222 (okP_d pk_X7_hop 25 44 (.invokevirtual 222) 3 rfl) (by decide) rfl (Nat.le_of_ble_eq_true rfl) ?_
      refine c_X6_hopPart m j w (by omega) (by omega) (by omega) (by omega) (fun w1 zw1 => ?_)
      change AW ev false 7 t_X7_hop Q 47 [some (vR 0), some (vI m), some (vI j), some (vI w)] [vI w1] M
      refine AW.go pk_X7_hop 26 1 rfl rfl ?_
      refine And.intro rfl ?_
      exact zQ w1 zw1
    · replace zh4 : ¬ (j < zr3) := zh4
      exfalso; omega
theorem c_X7_hop_x1 {ev : Ev} {Q : Out → Mem → Prop} {M : Mem}  (m : Int) (j : Int) (w : Int) (zp0 : 0 ≤ M 19 2 ∧ M 19 2 ≤ 20) (zp1 : -2147483648 ≤ m ∧ m < 2147483648) (zp2 : -2147483648 ≤ j ∧ j < 2147483648) (zp3 : -2147483648 ≤ w ∧ w < 2147483648) (zp4 : ¬ (0 ≤ m ∧ m < M 19 2)) (zQ : Q (.inr "java/lang/IndexOutOfBoundsException") M) : AM ev true 7 t_X7_hop [vR 0, vI m, vI j, vI w] M Q := by
  refine AM.of mt_X7_hop (Nat.le_of_ble_eq_true rfl) ?_
  change AW ev true 7 t_X7_hop Q 0 [some (vR 0), some (vI m), some (vI j), some (vI w)] [] M
  refine AW.go pk_X7_hop 0 3 rfl rfl ?_
  change AW ev true 7 t_X7_hop Q 2 [some (vR 0), some (vI m), some (vI j), some (vI w)] [vI m, vR 0] M
  refine AW.callVT (d' := 6) [vI m] [] vm_X7_requireMessage rfl hX7_177 (okP_d pk_X7_hop 2 2 (.invokevirtual 177) 3 rfl) (by decide) rfl (Nat.le_of_ble_eq_true rfl) ?_
  exact c_X7_requireMessage_x m (by omega) (by omega) (by omega) zQ
theorem c_X7_hop_x2 {ev : Ev} {Q : Out → Mem → Prop} {M : Mem}  (m : Int) (j : Int) (w : Int) (zp0 : 0 ≤ M 19 2 ∧ M 19 2 ≤ 20) (zp1 : -2147483648 ≤ m ∧ m < 2147483648) (zp2 : -2147483648 ≤ j ∧ j < 2147483648) (zp3 : -2147483648 ≤ w ∧ w < 2147483648) (zp4 : 0 ≤ m ∧ m < M 19 2) (zp5 : 0 ≤ M 20 (27 * m + 5) ∧ M 20 (27 * m + 5) ≤ 7) (zp6 : ¬ (0 ≤ j ∧ j < M 20 (27 * m + 5))) (zQ : Q (.inr "java/lang/IndexOutOfBoundsException") M) : AM ev true 7 t_X7_hop [vR 0, vI m, vI j, vI w] M Q := by
  refine AM.of mt_X7_hop (Nat.le_of_ble_eq_true rfl) ?_
  change AW ev true 7 t_X7_hop Q 0 [some (vR 0), some (vI m), some (vI j), some (vI w)] [] M
  refine AW.go pk_X7_hop 0 3 rfl rfl ?_
  change AW ev true 7 t_X7_hop Q 2 [some (vR 0), some (vI m), some (vI j), some (vI w)] [vI m, vR 0] M
  refine AW.callV (d' := 6) [vI m] [] vm_X7_requireMessage rfl hX7_177 (okP_d pk_X7_hop 2 2 (.invokevirtual 177) 3 rfl) (by decide) rfl (Nat.le_of_ble_eq_true rfl) ?_
  refine c_X7_requireMessage m (by omega) (by omega) (by omega) ?_
  change AW ev true 7 t_X7_hop Q 5 [some (vR 0), some (vI m), some (vI j), some (vI w)] [] M
  refine AW.go pk_X7_hop 3 7 rfl rfl ?_
  refine And.intro (show Inr j from ⟨by omega, by omega⟩) (And.intro (fun zh2 => ?_) (fun zh2 => ?_))
  · replace zh2 : j < (0 : Int) := zh2
    change AW ev true 7 t_X7_hop Q 21 [some (vR 0), some (vI m), some (vI j), some (vI w)] [] M
    exact AW.thr 13 (by decide) x_7_IOOBE rfl (by decide) (okP_d pk_X7_hop 11 21 (.new 217) 3 rfl) (okP_d pk_X7_hop 12 24 (.dup) 1 rfl) (okP_d pk_X7_hop 13 25 (.ldc 219) 2 rfl) (okP_d pk_X7_hop 14 27 (.invokespecial 221) 3 rfl) (okP_d pk_X7_hop 15 30 (.athrow) 1 rfl) zQ
  · replace zh2 : ¬ (j < (0 : Int)) := zh2
    change AW ev true 7 t_X7_hop Q 15 [some (vR 0), some (vI m), some (vI j), some (vI w)] [vI m, vR 19, vI j] M
    refine AW.callV (d' := 2) [vI m] [vI j] vm_X6_hopsOf rfl hX7_214 (okP_d pk_X7_hop 9 15 (.invokevirtual 214) 3 rfl) (by decide) rfl (Nat.le_of_ble_eq_true rfl) ?_
    refine c_X6_hopsOf m (by omega) (by omega) (fun zr3 zzr3 => ?_)
    change AW ev true 7 t_X7_hop Q 18 [some (vR 0), some (vI m), some (vI j), some (vI w)] [vI zr3, vI j] M
    refine AW.go pk_X7_hop 10 2 rfl rfl ?_
    refine And.intro (show Inr j ∧ Inr zr3 from ⟨⟨by omega, by omega⟩, ⟨by omega, by omega⟩⟩) (And.intro (fun zh4 => ?_) (fun zh4 => ?_))
    · replace zh4 : j < zr3 := zh4
      exfalso; omega
    · replace zh4 : ¬ (j < zr3) := zh4
      change AW ev true 7 t_X7_hop Q 21 [some (vR 0), some (vI m), some (vI j), some (vI w)] [] M
      exact AW.thr 13 (by decide) x_7_IOOBE rfl (by decide) (okP_d pk_X7_hop 11 21 (.new 217) 3 rfl) (okP_d pk_X7_hop 12 24 (.dup) 1 rfl) (okP_d pk_X7_hop 13 25 (.ldc 219) 2 rfl) (okP_d pk_X7_hop 14 27 (.invokespecial 221) 3 rfl) (okP_d pk_X7_hop 15 30 (.athrow) 1 rfl) zQ
theorem c_X7_hop_x3 {ev : Ev} {Q : Out → Mem → Prop} {M : Mem}  (m : Int) (j : Int) (w : Int) (zp0 : 0 ≤ M 19 2 ∧ M 19 2 ≤ 20) (zp1 : -2147483648 ≤ m ∧ m < 2147483648) (zp2 : -2147483648 ≤ j ∧ j < 2147483648) (zp3 : -2147483648 ≤ w ∧ w < 2147483648) (zp4 : 0 ≤ m ∧ m < M 19 2) (zp5 : 0 ≤ M 20 (27 * m + 5) ∧ M 20 (27 * m + 5) ≤ 7) (zp6 : 0 ≤ j ∧ j < M 20 (27 * m + 5)) (zp7 : ¬ (0 ≤ w ∧ w ≤ 2)) (zQ : Q (.inr "java/lang/IllegalArgumentException") M) : AM ev true 7 t_X7_hop [vR 0, vI m, vI j, vI w] M Q := by
  refine AM.of mt_X7_hop (Nat.le_of_ble_eq_true rfl) ?_
  change AW ev true 7 t_X7_hop Q 0 [some (vR 0), some (vI m), some (vI j), some (vI w)] [] M
  refine AW.go pk_X7_hop 0 3 rfl rfl ?_
  change AW ev true 7 t_X7_hop Q 2 [some (vR 0), some (vI m), some (vI j), some (vI w)] [vI m, vR 0] M
  refine AW.callV (d' := 6) [vI m] [] vm_X7_requireMessage rfl hX7_177 (okP_d pk_X7_hop 2 2 (.invokevirtual 177) 3 rfl) (by decide) rfl (Nat.le_of_ble_eq_true rfl) ?_
  refine c_X7_requireMessage m (by omega) (by omega) (by omega) ?_
  change AW ev true 7 t_X7_hop Q 5 [some (vR 0), some (vI m), some (vI j), some (vI w)] [] M
  refine AW.go pk_X7_hop 3 7 rfl rfl ?_
  refine And.intro (show Inr j from ⟨by omega, by omega⟩) (And.intro (fun zh2 => ?_) (fun zh2 => ?_))
  · replace zh2 : j < (0 : Int) := zh2
    exfalso; omega
  · replace zh2 : ¬ (j < (0 : Int)) := zh2
    change AW ev true 7 t_X7_hop Q 15 [some (vR 0), some (vI m), some (vI j), some (vI w)] [vI m, vR 19, vI j] M
    refine AW.callV (d' := 2) [vI m] [vI j] vm_X6_hopsOf rfl hX7_214 (okP_d pk_X7_hop 9 15 (.invokevirtual 214) 3 rfl) (by decide) rfl (Nat.le_of_ble_eq_true rfl) ?_
    refine c_X6_hopsOf m (by omega) (by omega) (fun zr3 zzr3 => ?_)
    change AW ev true 7 t_X7_hop Q 18 [some (vR 0), some (vI m), some (vI j), some (vI w)] [vI zr3, vI j] M
    refine AW.go pk_X7_hop 10 2 rfl rfl ?_
    refine And.intro (show Inr j ∧ Inr zr3 from ⟨⟨by omega, by omega⟩, ⟨by omega, by omega⟩⟩) (And.intro (fun zh4 => ?_) (fun zh4 => ?_))
    · replace zh4 : j < zr3 := zh4
      change AW ev true 7 t_X7_hop Q 31 [some (vR 0), some (vI m), some (vI j), some (vI w)] [] M
      refine AW.go pk_X7_hop 16 4 rfl rfl ?_
      change AW ev true 7 t_X7_hop Q 34 [some (vR 0), some (vI m), some (vI j), some (vI w)] [vI 2, vI 0, vI w] M
      refine AW.callST (d' := 6) [vI w, vI 0, vI 2] [] sm_X7_requireRange hX7_78 (okP_d pk_X7_hop 19 34 (.invokestatic 78) 3 rfl) (by decide) rfl (Nat.le_of_ble_eq_true rfl) ?_
      exact c_X7_requireRange_x w 0 2 (by omega) (by omega) (by omega) (by omega) zQ
    · replace zh4 : ¬ (j < zr3) := zh4
      exfalso; omega
theorem c_X7_busy {ev : Ev} {Q : Out → Mem → Prop} {M : Mem}  (s : Int) (t : Int) (zp0 : SInv M) (zp1 : -2147483648 ≤ s ∧ s < 2147483648) (zp2 : -2147483648 ≤ t ∧ t < 2147483648) (zp3 : 0 ≤ s ∧ s < M 7 3) (zp4 : 0 ≤ t ∧ t ≤ 71) (zQ : ∀ (r : Int), r = M 21 (72 * s + t) → Q (.inl (some (vI r))) M) : AM ev false 7 t_X7_busy [vR 0, vI s, vI t] M Q := by
  have zs := zp0.1
  refine AM.of mt_X7_busy (Nat.le_of_ble_eq_true rfl) ?_
  change AW ev false 7 t_X7_busy Q 0 [some (vR 0), some (vI s), some (vI t)] [] M
  refine AW.go pk_X7_busy 0 3 rfl rfl ?_
  change AW ev false 7 t_X7_busy Q 2 [some (vR 0), some (vI s), some (vI t)] [vI s, vR 0] M
  refine AW.callV (d' := 6) [vI s] [] vm_X7_requireStation rfl hX7_139 (okP_d pk_X7_busy 2 2 (.invokevirtual 139) 3 rfl) (by decide) rfl (Nat.le_of_ble_eq_true rfl) ?_
  refine c_X7_requireStation s zp0 (by omega) (by omega) ?_
  change AW ev false 7 t_X7_busy Q 5 [some (vR 0), some (vI s), some (vI t)] [] M
  refine AW.go pk_X7_busy 3 4 rfl rfl ?_
  change AW ev false 7 t_X7_busy Q 9 [some (vR 0), some (vI s), some (vI t)] [vI 71, vI 0, vI t] M
  refine AW.callS (d' := 6) [vI t, vI 0, vI 71] [] sm_X7_requireRange hX7_78 (okP_d pk_X7_busy 6 9 (.invokestatic 78) 3 rfl) (by decide) rfl (Nat.le_of_ble_eq_true rfl) ?_
  refine c_X7_requireRange t 0 71 (by omega) (by omega) (by omega) (by omega) ?_
  change AW ev false 7 t_X7_busy Q 12 [some (vR 0), some (vI s), some (vI t)] [] M
  refine AW.go pk_X7_busy 7 5 rfl rfl ?_
  change AW ev false 7 t_X7_busy Q 18 [some (vR 0), some (vI s), some (vI t)] [vI t, vI s, vR 19] M
  refine AW.callV (d' := 1) [vI s, vI t] [] vm_X6_bookedBy rfl hX7_225 (okP_d pk_X7_busy 11 18 (.invokevirtual 225) 3 rfl) (by decide) rfl (Nat.le_of_ble_eq_true rfl) ?_
  refine c_X6_bookedBy s t (by omega) (by omega) (fun w1 zw1 => ?_)
  change AW ev false 7 t_X7_busy Q 21 [some (vR 0), some (vI s), some (vI t)] [vI w1] M
  refine AW.go pk_X7_busy 12 1 rfl rfl ?_
  refine And.intro rfl ?_
  exact zQ w1 zw1
theorem c_X7_busy_x1 {ev : Ev} {Q : Out → Mem → Prop} {M : Mem}  (s : Int) (t : Int) (zp0 : SInv M) (zp1 : -2147483648 ≤ s ∧ s < 2147483648) (zp2 : -2147483648 ≤ t ∧ t < 2147483648) (zp3 : ¬ (0 ≤ s ∧ s < M 7 3)) (zQ : Q (.inr "java/lang/IndexOutOfBoundsException") M) : AM ev true 7 t_X7_busy [vR 0, vI s, vI t] M Q := by
  refine AM.of mt_X7_busy (Nat.le_of_ble_eq_true rfl) ?_
  change AW ev true 7 t_X7_busy Q 0 [some (vR 0), some (vI s), some (vI t)] [] M
  refine AW.go pk_X7_busy 0 3 rfl rfl ?_
  change AW ev true 7 t_X7_busy Q 2 [some (vR 0), some (vI s), some (vI t)] [vI s, vR 0] M
  refine AW.callVT (d' := 6) [vI s] [] vm_X7_requireStation rfl hX7_139 (okP_d pk_X7_busy 2 2 (.invokevirtual 139) 3 rfl) (by decide) rfl (Nat.le_of_ble_eq_true rfl) ?_
  exact c_X7_requireStation_x s zp0 (by omega) (by omega) zQ
theorem c_X7_busy_x2 {ev : Ev} {Q : Out → Mem → Prop} {M : Mem}  (s : Int) (t : Int) (zp0 : SInv M) (zp1 : -2147483648 ≤ s ∧ s < 2147483648) (zp2 : -2147483648 ≤ t ∧ t < 2147483648) (zp3 : 0 ≤ s ∧ s < M 7 3) (zp4 : ¬ (0 ≤ t ∧ t ≤ 71)) (zQ : Q (.inr "java/lang/IllegalArgumentException") M) : AM ev true 7 t_X7_busy [vR 0, vI s, vI t] M Q := by
  refine AM.of mt_X7_busy (Nat.le_of_ble_eq_true rfl) ?_
  change AW ev true 7 t_X7_busy Q 0 [some (vR 0), some (vI s), some (vI t)] [] M
  refine AW.go pk_X7_busy 0 3 rfl rfl ?_
  change AW ev true 7 t_X7_busy Q 2 [some (vR 0), some (vI s), some (vI t)] [vI s, vR 0] M
  refine AW.callV (d' := 6) [vI s] [] vm_X7_requireStation rfl hX7_139 (okP_d pk_X7_busy 2 2 (.invokevirtual 139) 3 rfl) (by decide) rfl (Nat.le_of_ble_eq_true rfl) ?_
  refine c_X7_requireStation s zp0 (by omega) (by omega) ?_
  change AW ev true 7 t_X7_busy Q 5 [some (vR 0), some (vI s), some (vI t)] [] M
  refine AW.go pk_X7_busy 3 4 rfl rfl ?_
  change AW ev true 7 t_X7_busy Q 9 [some (vR 0), some (vI s), some (vI t)] [vI 71, vI 0, vI t] M
  refine AW.callST (d' := 6) [vI t, vI 0, vI 71] [] sm_X7_requireRange hX7_78 (okP_d pk_X7_busy 6 9 (.invokestatic 78) 3 rfl) (by decide) rfl (Nat.le_of_ble_eq_true rfl) ?_
  exact c_X7_requireRange_x t 0 71 (by omega) (by omega) (by omega) (by omega) zQ
theorem c_X7_cancel {ev : Ev} {Q : Out → Mem → Prop} {M : Mem}  (m : Int) (zp0 : GInv M) (zp1 : -2147483648 ≤ m ∧ m < 2147483648) (zp2 : 0 ≤ m ∧ m < M 19 2) (zQ : ∀ (r : Int), r = M 19 2 - 1 → Q (.inl (some (vI r))) (rmM (upM (cpM M 20 (27 * (m + 1)) (27 * m) (27 * (M 19 2 - (m + 1)))) 19 2 (M 19 2 - 1)) m 576)) : AM ev false 7 t_X7_cancel [vR 0, vI m] M Q := by
  have zs := zp0.1
  refine AM.of mt_X7_cancel (Nat.le_of_ble_eq_true rfl) ?_
  change AW ev false 7 t_X7_cancel Q 0 [some (vR 0), some (vI m)] [] M
  refine AW.go pk_X7_cancel 0 3 rfl rfl ?_
  change AW ev false 7 t_X7_cancel Q 2 [some (vR 0), some (vI m)] [vI m, vR 0] M
  refine AW.callV (d' := 6) [vI m] [] vm_X7_requireMessage rfl hX7_177 (okP_d pk_X7_cancel 2 2 (.invokevirtual 177) 3 rfl) (by decide) rfl (Nat.le_of_ble_eq_true rfl) ?_
  refine c_X7_requireMessage m (by omega) (by omega) (by omega) ?_
  change AW ev false 7 t_X7_cancel Q 5 [some (vR 0), some (vI m)] [] M
  refine AW.go pk_X7_cancel 3 4 rfl rfl ?_
  change AW ev false 7 t_X7_cancel Q 10 [some (vR 0), some (vI m)] [vI m, vR 19] M
  refine AW.callV (d' := 1) [vI m] [] vm_X6_remove rfl hX7_180 (okP_d pk_X7_cancel 6 10 (.invokevirtual 180) 3 rfl) (by decide) rfl (Nat.le_of_ble_eq_true rfl) ?_
  refine c_X6_remove m zp0 (by omega) ?_
  change AW ev false 7 t_X7_cancel Q 13 [some (vR 0), some (vI m)] [] (rmM (upM (cpM M 20 (27 * (m + 1)) (27 * m) (27 * (M 19 2 - (m + 1)))) 19 2 (M 19 2 - 1)) m 576)
  refine AW.go pk_X7_cancel 7 3 rfl rfl ?_
  change AW ev false 7 t_X7_cancel Q 17 [some (vR 0), some (vI m)] [vR 19] (rmM (upM (cpM M 20 (27 * (m + 1)) (27 * m) (27 * (M 19 2 - (m + 1)))) 19 2 (M 19 2 - 1)) m 576)
  refine AW.callV (d' := 0) [] [] vm_X6_size rfl hX7_168 (okP_d pk_X7_cancel 9 17 (.invokevirtual 168) 3 rfl) (by decide) rfl (Nat.le_of_ble_eq_true rfl) ?_
  refine c_X6_size   (fun w1 zw1 => ?_)
  replace zw1 : w1 = ((rmM (upM (cpM M 20 (27 * (m + 1)) (27 * m) (27 * (M 19 2 - (m + 1)))) 19 2 (M 19 2 - 1)) m 576) 19 2) := zw1
  change AW ev false 7 t_X7_cancel Q 20 [some (vR 0), some (vI m)] [vI w1] (rmM (upM (cpM M 20 (27 * (m + 1)) (27 * m) (27 * (M 19 2 - (m + 1)))) 19 2 (M 19 2 - 1)) m 576)
  refine AW.go pk_X7_cancel 10 1 rfl rfl ?_
  refine And.intro rfl ?_
  exact zQ w1 zw1
theorem c_X7_cancel_x1 {ev : Ev} {Q : Out → Mem → Prop} {M : Mem}  (m : Int) (zp0 : GInv M) (zp1 : -2147483648 ≤ m ∧ m < 2147483648) (zp2 : ¬ (0 ≤ m ∧ m < M 19 2)) (zQ : Q (.inr "java/lang/IndexOutOfBoundsException") M) : AM ev true 7 t_X7_cancel [vR 0, vI m] M Q := by
  have zs := zp0.1
  refine AM.of mt_X7_cancel (Nat.le_of_ble_eq_true rfl) ?_
  change AW ev true 7 t_X7_cancel Q 0 [some (vR 0), some (vI m)] [] M
  refine AW.go pk_X7_cancel 0 3 rfl rfl ?_
  change AW ev true 7 t_X7_cancel Q 2 [some (vR 0), some (vI m)] [vI m, vR 0] M
  refine AW.callVT (d' := 6) [vI m] [] vm_X7_requireMessage rfl hX7_177 (okP_d pk_X7_cancel 2 2 (.invokevirtual 177) 3 rfl) (by decide) rfl (Nat.le_of_ble_eq_true rfl) ?_
  exact c_X7_requireMessage_x m (by omega) (by omega) (by omega) zQ
