theorem c_X2_eyeOf {ev : Ev} {Q : Out → Mem → Prop} {M : Mem}  (s : Int) (zp0 : TInv M) (zp1 : SInv M) (zp2 : 0 ≤ s ∧ s < M 7 3) (zQ : ∀ (r : Int), r = eyeF (M 2) (M 8) (M 9) s ∧ (0 ≤ r ∧ r ≤ 550) → Q (.inl (some (vI r))) M) : AM ev false 2 t_X2_eyeOf [vR 18, vI s] M Q := by
  have zs := zp1.1
  have zf := zp1.2.1 s (by omega) (by omega)
  have zg := zp0 (M 8 s) (by omega) (by omega)
  refine AM.of mt_X2_eyeOf (Nat.le_of_ble_eq_true rfl) ?_
  change AW ev false 2 t_X2_eyeOf Q 0 [some (vR 18), some (vI s)] [] M
  refine AW.go pk_X2_eyeOf 0 6 rfl rfl ?_
  change AW ev false 2 t_X2_eyeOf Q 9 [some (vR 18), some (vI s)] [vI s, vR 7, vR 1] M
  refine AW.callV (d' := 1) [vI s] [vR 1] vm_X4_cellOf rfl hX2_23 (okP_d pk_X2_eyeOf 5 9 (.invokevirtual 23) 3 rfl) (by decide) rfl (Nat.le_of_ble_eq_true rfl) ?_
  refine c_X4_cellOf s zp1 (by omega) (fun w1 zw1 => ?_)
  change AW ev false 2 t_X2_eyeOf Q 12 [some (vR 18), some (vI s)] [vI w1, vR 1] M
  refine AW.callV (d' := 1) [vI w1] [] vm_X5_heightOf rfl hX2_29 (okP_d pk_X2_eyeOf 6 12 (.invokevirtual 29) 3 rfl) (by decide) rfl (Nat.le_of_ble_eq_true rfl) ?_
  refine c_X5_heightOf w1 (by omega) (fun w2 zw2 => ?_)
  change AW ev false 2 t_X2_eyeOf Q 15 [some (vR 18), some (vI s)] [vI w2] M
  refine AW.go pk_X2_eyeOf 7 4 rfl rfl ?_
  change AW ev false 2 t_X2_eyeOf Q 20 [some (vR 18), some (vI s)] [vI s, vR 7, vI w2] M
  refine AW.callV (d' := 1) [vI s] [vI w2] vm_X4_mastOf rfl hX2_34 (okP_d pk_X2_eyeOf 10 20 (.invokevirtual 34) 3 rfl) (by decide) rfl (Nat.le_of_ble_eq_true rfl) ?_
  refine c_X4_mastOf s zp1 (by omega) (fun w3 zw3 => ?_)
  change AW ev false 2 t_X2_eyeOf Q 23 [some (vR 18), some (vI s)] [vI w3, vI w2] M
  refine AW.go pk_X2_eyeOf 11 2 rfl rfl ?_
  refine And.intro rfl ?_
  exact zQ (w2 + w3) ⟨by unfold eyeF; rw [zw2, zw1, zw3], by rw [zw2, zw1, zw3]; omega⟩
theorem c_X2_blockingCellFrom {ev : Ev} {Q : Out → Mem → Prop} {M : Mem}  (c : Int) (e : Int) (t : Int) (zp0 : TInv M) (zp1 : SInv M) (zp2 : 0 ≤ c ∧ c < 144) (zp3 : 0 ≤ e ∧ e ≤ 600) (zp4 : 0 ≤ t ∧ t < M 7 3) (zp5 : c ≠ M 8 t) (zQ : ∀ (r : Int), r = blkF (M 2) c e (M 8 t) (eyeF (M 2) (M 8) (M 9) t) ∧ (-1 ≤ r ∧ r < 144) → Q (.inl (some (vI r))) M) : AM ev false 3 t_X2_blockingCellFrom [vR 18, vI c, vI e, vI t] M Q := by
  have zs := zp1.1
  have zf := zp1.2.1 t (by omega) (by omega)
  refine AM.of mt_X2_blockingCellFrom (Nat.le_of_ble_eq_true rfl) ?_
  change AW ev false 3 t_X2_blockingCellFrom Q 0 [some (vR 18), some (vI c), some (vI e), some (vI t), none, none, none] [] M
  refine AW.go pk_X2_blockingCellFrom 0 4 rfl rfl ?_
  change AW ev false 3 t_X2_blockingCellFrom Q 5 [some (vR 18), some (vI c), some (vI e), some (vI t), none, none, none] [vI t, vR 7] M
  refine AW.callV (d' := 1) [vI t] [] vm_X4_cellOf rfl hX2_23 (okP_d pk_X2_blockingCellFrom 3 5 (.invokevirtual 23) 3 rfl) (by decide) rfl (Nat.le_of_ble_eq_true rfl) ?_
  refine c_X4_cellOf t zp1 (by omega) (fun tg ztg => ?_)
  change AW ev false 3 t_X2_blockingCellFrom Q 8 [some (vR 18), some (vI c), some (vI e), some (vI t), none, none, none] [vI tg] M
  refine AW.go pk_X2_blockingCellFrom 4 4 rfl rfl ?_
  refine And.intro (show 4 < mL t_X2_blockingCellFrom from (by decide)) ?_
  change AW ev false 3 t_X2_blockingCellFrom Q 13 [some (vR 18), some (vI c), some (vI e), some (vI t), some (vI tg), none, none] [vI tg, vI c] M
  refine AW.callS (d' := 1) [vI c, vI tg] [] sm_X5_eastward hX2_44 (okP_d pk_X2_blockingCellFrom 7 13 (.invokestatic 44) 3 rfl) (by decide) rfl (Nat.le_of_ble_eq_true rfl) ?_
  refine c_X5_eastward c tg (by omega) (by omega) (fun dx zdx => ?_)
  change AW ev false 3 t_X2_blockingCellFrom Q 16 [some (vR 18), some (vI c), some (vI e), some (vI t), some (vI tg), none, none] [vI dx] M
  refine AW.go pk_X2_blockingCellFrom 8 4 rfl rfl ?_
  refine And.intro (show 5 < mL t_X2_blockingCellFrom from (by decide)) ?_
  change AW ev false 3 t_X2_blockingCellFrom Q 21 [some (vR 18), some (vI c), some (vI e), some (vI t), some (vI tg), some (vI dx), none] [vI tg, vI c] M
  refine AW.callS (d' := 1) [vI c, vI tg] [] sm_X5_southward hX2_48 (okP_d pk_X2_blockingCellFrom 11 21 (.invokestatic 48) 3 rfl) (by decide) rfl (Nat.le_of_ble_eq_true rfl) ?_
  refine c_X5_southward c tg (by omega) (by omega) (fun dy zdy => ?_)
  change AW ev false 3 t_X2_blockingCellFrom Q 24 [some (vR 18), some (vI c), some (vI e), some (vI t), some (vI tg), some (vI dx), none] [vI dy] M
  refine AW.go pk_X2_blockingCellFrom 12 9 rfl rfl ?_
  refine And.intro (show 6 < mL t_X2_blockingCellFrom from (by decide)) ?_
  change AW ev false 3 t_X2_blockingCellFrom Q 39 [some (vR 18), some (vI c), some (vI e), some (vI t), some (vI tg), some (vI dx), some (vI dy)] [vI dy, vI dx, vI dy, vI dx, vI c, vR 1] M
  refine AW.callS (d' := 1) [vI dx, vI dy] [vI dy, vI dx, vI c, vR 1] sm_X5_reach hX2_51 (okP_d pk_X2_blockingCellFrom 20 39 (.invokestatic 51) 3 rfl) (by decide) rfl (Nat.le_of_ble_eq_true rfl) ?_
  refine c_X5_reach dx dy (by omega) (by omega) (fun w1 zw1 => ?_)
  change AW ev false 3 t_X2_blockingCellFrom Q 42 [some (vR 18), some (vI c), some (vI e), some (vI t), some (vI tg), some (vI dx), some (vI dy)] [vI w1, vI dy, vI dx, vI c, vR 1] M
  refine AW.go pk_X2_blockingCellFrom 21 6 rfl rfl ?_
  change AW ev false 3 t_X2_blockingCellFrom Q 47 [some (vR 18), some (vI c), some (vI e), some (vI t), some (vI tg), some (vI dx), some (vI dy)] [vI t, vR 18, vI e, vI (w1 - 1), vI dy, vI dx, vI c, vR 1] M
  refine AW.callV (d' := 2) [vI t] [vI e, vI (w1 - 1), vI dy, vI dx, vI c, vR 1] vm_X2_eyeOf rfl hX2_37 (okP_d pk_X2_blockingCellFrom 26 47 (.invokevirtual 37) 3 rfl) (by decide) rfl (Nat.le_of_ble_eq_true rfl) ?_
  refine c_X2_eyeOf t zp0 zp1 (by omega) (fun w2 zw2 => ?_)
  change AW ev false 3 t_X2_blockingCellFrom Q 50 [some (vR 18), some (vI c), some (vI e), some (vI t), some (vI tg), some (vI dx), some (vI dy)] [vI w2, vI e, vI (w1 - 1), vI dy, vI dx, vI c, vR 1] M
  refine AW.go pk_X2_blockingCellFrom 27 3 rfl rfl ?_
  change AW ev false 3 t_X2_blockingCellFrom Q 52 [some (vR 18), some (vI c), some (vI e), some (vI t), some (vI tg), some (vI dx), some (vI dy)] [vI (w2 - e), vI e, vI (w1 - 1), vI dy, vI dx, vI c, vR 1] M
  refine AW.callV (d' := 2) [vI c, vI dx, vI dy, vI (w1 - 1), vI e, vI (w2 - e)] [] vm_X5_firstAbove rfl hX2_54 (okP_d pk_X2_blockingCellFrom 29 52 (.invokevirtual 54) 3 rfl) (by decide) rfl (Nat.le_of_ble_eq_true rfl) ?_
  refine c_X5_firstAbove c dx dy (w1 - 1) e (w2 - e) (mxa dx dy) (by omega) (by omega) (by omega) (by have := mxa_spec dx dy; omega) (by omega) (by omega) (mxa_spec _ _) zp0 (Or.inl (by have := mxa_spec dx dy; omega)) (fun w3 zw3 => ?_)
  change AW ev false 3 t_X2_blockingCellFrom Q 55 [some (vR 18), some (vI c), some (vI e), some (vI t), some (vI tg), some (vI dx), some (vI dy)] [vI w3] M
  refine AW.go pk_X2_blockingCellFrom 30 1 rfl rfl ?_
  refine And.intro rfl ?_
  have zb := fa_bd (M 2) c dx dy (mxa dx dy) e (w2 - e) (w1 - 1).toNat 1
  exact zQ _ ⟨by rw [zw3]; unfold blkF; rw [mxa_of zw1, zw2.1, zdx, zdy, ztg], by rw [zw3]; exact zb⟩
theorem c_X2_blockingCell {ev : Ev} {Q : Out → Mem → Prop} {M : Mem}  (a : Int) (b : Int) (zp0 : TInv M) (zp1 : SInv M) (zp2 : 0 ≤ a ∧ a < M 7 3) (zp3 : 0 ≤ b ∧ b < M 7 3) (zp4 : a ≠ b) (zQ : ∀ (r : Int), r = betF (M 2) (M 8) (M 9) a b ∧ (-1 ≤ r ∧ r < 144) → Q (.inl (some (vI r))) M) : AM ev false 4 t_X2_blockingCell [vR 18, vI a, vI b] M Q := by
  have zs := zp1.1
  have zf := zp1.2.1 a (by omega) (by omega)
  refine AM.of mt_X2_blockingCell (Nat.le_of_ble_eq_true rfl) ?_
  change AW ev false 4 t_X2_blockingCell Q 0 [some (vR 18), some (vI a), some (vI b)] [] M
  refine AW.go pk_X2_blockingCell 0 5 rfl rfl ?_
  change AW ev false 4 t_X2_blockingCell Q 6 [some (vR 18), some (vI a), some (vI b)] [vI a, vR 7, vR 18] M
  refine AW.callV (d' := 1) [vI a] [vR 18] vm_X4_cellOf rfl hX2_23 (okP_d pk_X2_blockingCell 4 6 (.invokevirtual 23) 3 rfl) (by decide) rfl (Nat.le_of_ble_eq_true rfl) ?_
  refine c_X4_cellOf a zp1 (by omega) (fun w1 zw1 => ?_)
  change AW ev false 4 t_X2_blockingCell Q 9 [some (vR 18), some (vI a), some (vI b)] [vI w1, vR 18] M
  refine AW.go pk_X2_blockingCell 5 3 rfl rfl ?_
  change AW ev false 4 t_X2_blockingCell Q 11 [some (vR 18), some (vI a), some (vI b)] [vI a, vR 18, vI w1, vR 18] M
  refine AW.callV (d' := 2) [vI a] [vI w1, vR 18] vm_X2_eyeOf rfl hX2_37 (okP_d pk_X2_blockingCell 7 11 (.invokevirtual 37) 3 rfl) (by decide) rfl (Nat.le_of_ble_eq_true rfl) ?_
  refine c_X2_eyeOf a zp0 zp1 (by omega) (fun w2 zw2 => ?_)
  change AW ev false 4 t_X2_blockingCell Q 14 [some (vR 18), some (vI a), some (vI b)] [vI w2, vI w1, vR 18] M
  refine AW.go pk_X2_blockingCell 8 2 rfl rfl ?_
  change AW ev false 4 t_X2_blockingCell Q 15 [some (vR 18), some (vI a), some (vI b)] [vI b, vI w2, vI w1, vR 18] M
  refine AW.callV (d' := 3) [vI w1, vI w2, vI b] [] vm_X2_blockingCellFrom rfl hX2_40 (okP_d pk_X2_blockingCell 9 15 (.invokevirtual 40) 3 rfl) (by decide) rfl (Nat.le_of_ble_eq_true rfl) ?_
  refine c_X2_blockingCellFrom w1 w2 b zp0 zp1 (by omega) (by omega) (by omega) (fun q => zp4 (zp1.2.2 a b (by omega) (by omega) (by omega) (by omega) (by omega))) (fun w3 zw3 => ?_)
  change AW ev false 4 t_X2_blockingCell Q 18 [some (vR 18), some (vI a), some (vI b)] [vI w3] M
  refine AW.go pk_X2_blockingCell 10 1 rfl rfl ?_
  refine And.intro rfl ?_
  exact zQ _ ⟨by rw [zw3.1]; unfold betF; rw [zw1, zw2.1], zw3.2⟩
theorem lz_pairsIn {ev : Ev} {Q : Out → Mem → Prop} {M : Mem}   (zp0 : TInv M) (zp1 : SInv M) (a : Int) (za : 0 ≤ a ∧ a < M 7 3) : ∀ (n : Nat) (b : Int) (s : Int), b + n = M 7 3 → (0 ≤ b) → (∀ s2 b2 : Int, s2 = siT (betF (M 2) (M 8) (M 9)) a n b s → AW ev false 5 t_X2_pairsInSight Q 52 [some (vR 18), some (vI s2), some (vI a), some (vI b2)] [] M) → AW ev false 5 t_X2_pairsInSight Q 17 [some (vR 18), some (vI s), some (vI a), some (vI b)] [] M := by
  intro n
  induction n with
  | zero =>
    intro b s zn zv0 zv1
    have zs := zp1.1
    refine AW.go pk_X2_pairsInSight 11 4 rfl rfl ?_
    change AW ev false 5 t_X2_pairsInSight Q 22 [some (vR 18), some (vI s), some (vI a), some (vI b)] [vR 7, vI b] M
    refine AW.callV (d' := 0) [] [vI b] vm_X4_size rfl hX2_58 (okP_d pk_X2_pairsInSight 14 22 (.invokevirtual 58) 3 rfl) (by decide) rfl (Nat.le_of_ble_eq_true rfl) ?_
    refine c_X4_size   (fun w1 zw1 => ?_)
    change AW ev false 5 t_X2_pairsInSight Q 25 [some (vR 18), some (vI s), some (vI a), some (vI b)] [vI w1, vI b] M
    refine AW.go pk_X2_pairsInSight 15 8 rfl rfl ?_
    refine And.intro (show Inr b ∧ Inr w1 from ⟨⟨by omega, by omega⟩, ⟨by omega, by omega⟩⟩) (And.intro (fun zh1 => ?_) (fun zh1 => ?_))
    · replace zh1 : w1 ≤ b := zh1
      change AW ev false 5 t_X2_pairsInSight Q 52 [some (vR 18), some (vI s), some (vI a), some (vI b)] [] M
      exact zv1 s b rfl
    · replace zh1 : ¬ (w1 ≤ b) := zh1
      exfalso; omega
  | succ n zih =>
    intro b s zn zv0 zv1
    have zs := zp1.1
    refine AW.go pk_X2_pairsInSight 11 4 rfl rfl ?_
    change AW ev false 5 t_X2_pairsInSight Q 22 [some (vR 18), some (vI s), some (vI a), some (vI b)] [vR 7, vI b] M
    refine AW.callV (d' := 0) [] [vI b] vm_X4_size rfl hX2_58 (okP_d pk_X2_pairsInSight 14 22 (.invokevirtual 58) 3 rfl) (by decide) rfl (Nat.le_of_ble_eq_true rfl) ?_
    refine c_X4_size   (fun w1 zw1 => ?_)
    change AW ev false 5 t_X2_pairsInSight Q 25 [some (vR 18), some (vI s), some (vI a), some (vI b)] [vI w1, vI b] M
    refine AW.go pk_X2_pairsInSight 15 8 rfl rfl ?_
    refine And.intro (show Inr b ∧ Inr w1 from ⟨⟨by omega, by omega⟩, ⟨by omega, by omega⟩⟩) (And.intro (fun zh1 => ?_) (fun zh1 => ?_))
    · replace zh1 : w1 ≤ b := zh1
      exfalso; omega
    · replace zh1 : ¬ (w1 ≤ b) := zh1
      refine And.intro (show Inr b ∧ Inr a from ⟨⟨by omega, by omega⟩, ⟨by omega, by omega⟩⟩) (And.intro (fun zh2 => ?_) (fun zh2 => ?_))
      · replace zh2 : b = a := zh2
        change AW ev false 5 t_X2_pairsInSight Q 46 [some (vR 18), some (vI s), some (vI a), some (vI b)] [] M
        refine AW.go pk_X2_pairsInSight 26 2 rfl rfl ?_
        refine And.intro (show 3 < mL t_X2_pairsInSight from (by decide)) ?_
        change AW ev false 5 t_X2_pairsInSight Q 17 [some (vR 18), some (vI s), some (vI a), some (vI (b + 1))] [] M
        exact zih (b + 1) s (by omega) (by omega) (fun s2 b2 zr => zv1 s2 b2 (by rw [zr]; conv => rhs; unfold siT; first | rw [if_pos (by omega)] | rw [if_neg (by omega)]))
      · replace zh2 : ¬ (b = a) := zh2
        change AW ev false 5 t_X2_pairsInSight Q 36 [some (vR 18), some (vI s), some (vI a), some (vI b)] [vI b, vI a, vR 18] M
        refine AW.callV (d' := 4) [vI a, vI b] [] vm_X2_blockingCell rfl hX2_62 (okP_d pk_X2_pairsInSight 22 36 (.invokevirtual 62) 3 rfl) (by decide) rfl (Nat.le_of_ble_eq_true rfl) ?_
        refine c_X2_blockingCell a b zp0 zp1 (by omega) (by omega) (by omega) (fun w2 zw2 => ?_)
        change AW ev false 5 t_X2_pairsInSight Q 39 [some (vR 18), some (vI s), some (vI a), some (vI b)] [vI w2] M
        refine AW.go pk_X2_pairsInSight 23 5 rfl rfl ?_
        refine And.intro (show Inr w2 ∧ Inr (-1) from ⟨⟨by omega, by omega⟩, ⟨by omega, by omega⟩⟩) (And.intro (fun zh3 => ?_) (fun zh3 => ?_))
        · replace zh3 : w2 ≠ (-1 : Int) := zh3
          change AW ev false 5 t_X2_pairsInSight Q 46 [some (vR 18), some (vI s), some (vI a), some (vI b)] [] M
          refine AW.go pk_X2_pairsInSight 26 2 rfl rfl ?_
          refine And.intro (show 3 < mL t_X2_pairsInSight from (by decide)) ?_
          change AW ev false 5 t_X2_pairsInSight Q 17 [some (vR 18), some (vI s), some (vI a), some (vI (b + 1))] [] M
          exact zih (b + 1) s (by omega) (by omega) (fun s2 b2 zr => zv1 s2 b2 (by rw [zr]; conv => rhs; unfold siT; first | rw [if_pos (by omega)] | rw [if_neg (by omega)]))
        · replace zh3 : ¬ (w2 ≠ (-1 : Int)) := zh3
          refine And.intro (show 1 < mL t_X2_pairsInSight from (by decide)) ?_
          refine And.intro (show 3 < mL t_X2_pairsInSight from (by decide)) ?_
          change AW ev false 5 t_X2_pairsInSight Q 17 [some (vR 18), some (vI (s + 1)), some (vI a), some (vI (b + 1))] [] M
          exact zih (b + 1) (s + 1) (by omega) (by omega) (fun s2 b2 zr => zv1 s2 b2 (by rw [zr]; conv => rhs; unfold siT; first | rw [if_pos (by omega)] | rw [if_neg (by omega)]))
theorem lz_pairs {ev : Ev} {Q : Out → Mem → Prop} {M : Mem}   (zp0 : TInv M) (zp1 : SInv M)  : ∀ (n : Nat) (a : Int) (s : Int), a + n = M 7 3 → (0 ≤ a) → (∀ r : Int, r = siA (betF (M 2) (M 8) (M 9)) (M 7 3).toNat n a s → Q (.inl (some (vI r))) M) → AW ev false 5 t_X2_pairsInSight Q 4 [some (vR 18), some (vI s), some (vI a), none] [] M := by
  intro n
  induction n with
  | zero =>
    intro a s zn zv0 zv1
    have zs := zp1.1
    refine AW.go pk_X2_pairsInSight 4 4 rfl rfl ?_
    change AW ev false 5 t_X2_pairsInSight Q 9 [some (vR 18), some (vI s), some (vI a), none] [vR 7, vI a] M
    refine AW.callV (d' := 0) [] [vI a] vm_X4_size rfl hX2_58 (okP_d pk_X2_pairsInSight 7 9 (.invokevirtual 58) 3 rfl) (by decide) rfl (Nat.le_of_ble_eq_true rfl) ?_
    refine c_X4_size   (fun w1 zw1 => ?_)
    change AW ev false 5 t_X2_pairsInSight Q 12 [some (vR 18), some (vI s), some (vI a), none] [vI w1, vI a] M
    refine AW.go pk_X2_pairsInSight 8 3 rfl rfl ?_
    refine And.intro (show Inr a ∧ Inr w1 from ⟨⟨by omega, by omega⟩, ⟨by omega, by omega⟩⟩) (And.intro (fun zh1 => ?_) (fun zh1 => ?_))
    · replace zh1 : w1 ≤ a := zh1
      change AW ev false 5 t_X2_pairsInSight Q 58 [some (vR 18), some (vI s), some (vI a), none] [] M
      refine AW.go pk_X2_pairsInSight 30 2 rfl rfl ?_
      refine And.intro rfl ?_
      exact zv1 _ rfl
    · replace zh1 : ¬ (w1 ≤ a) := zh1
      exfalso; omega
  | succ n zih =>
    intro a s zn zv0 zv1
    have zs := zp1.1
    refine AW.go pk_X2_pairsInSight 4 4 rfl rfl ?_
    change AW ev false 5 t_X2_pairsInSight Q 9 [some (vR 18), some (vI s), some (vI a), none] [vR 7, vI a] M
    refine AW.callV (d' := 0) [] [vI a] vm_X4_size rfl hX2_58 (okP_d pk_X2_pairsInSight 7 9 (.invokevirtual 58) 3 rfl) (by decide) rfl (Nat.le_of_ble_eq_true rfl) ?_
    refine c_X4_size   (fun w1 zw1 => ?_)
    change AW ev false 5 t_X2_pairsInSight Q 12 [some (vR 18), some (vI s), some (vI a), none] [vI w1, vI a] M
    refine AW.go pk_X2_pairsInSight 8 3 rfl rfl ?_
    refine And.intro (show Inr a ∧ Inr w1 from ⟨⟨by omega, by omega⟩, ⟨by omega, by omega⟩⟩) (And.intro (fun zh1 => ?_) (fun zh1 => ?_))
    · replace zh1 : w1 ≤ a := zh1
      exfalso; omega
    · replace zh1 : ¬ (w1 ≤ a) := zh1
      refine And.intro (show 3 < mL t_X2_pairsInSight from (by decide)) ?_
      change AW ev false 5 t_X2_pairsInSight Q 17 [some (vR 18), some (vI s), some (vI a), some (vI 0)] [] M
      refine lz_pairsIn zp0 zp1 a (by omega) (M 7 3).toNat 0 s (by omega) (by omega) (fun s2 b2 zr => ?_)
      refine AW.go pk_X2_pairsInSight 28 2 rfl rfl ?_
      refine And.intro (show 2 < mL t_X2_pairsInSight from (by decide)) ?_
      change AW ev false 5 t_X2_pairsInSight Q 4 [some (vR 18), some (vI s2), some (vI (a + 1)), some (vI b2)] [] M
      refine AW.sub [some (vR 18), some (vI s2), some (vI (a + 1)), none] (by simp [lsub]) ?_
      exact zih (a + 1) s2 (by omega) (by omega) (fun r zq => zv1 r (by rw [zq, zr]; rfl))
theorem c_X2_pairsInSight {ev : Ev} {Q : Out → Mem → Prop} {M : Mem}   (zp0 : TInv M) (zp1 : SInv M) (zQ : ∀ (r : Int), r = siA (betF (M 2) (M 8) (M 9)) (M 7 3).toNat (M 7 3).toNat 0 0 → Q (.inl (some (vI r))) M) : AM ev false 5 t_X2_pairsInSight [vR 18] M Q := by
  have zs := zp1.1
  refine AM.of mt_X2_pairsInSight (Nat.le_of_ble_eq_true rfl) ?_
  change AW ev false 5 t_X2_pairsInSight Q 0 [some (vR 18), none, none, none] [] M
  refine AW.go pk_X2_pairsInSight 0 4 rfl rfl ?_
  refine And.intro (show 1 < mL t_X2_pairsInSight from (by decide)) ?_
  refine And.intro (show 2 < mL t_X2_pairsInSight from (by decide)) ?_
  change AW ev false 5 t_X2_pairsInSight Q 4 [some (vR 18), some (vI 0), some (vI 0), none] [] M
  exact lz_pairs zp0 zp1 (M 7 3).toNat 0 0 (by omega) (by omega) zQ
theorem lz_leastMast {ev : Ev} {Q : Out → Mem → Prop} {M : Mem}  (a : Int) (b : Int) (zp0 : TInv M) (zp1 : SInv M) (zp2 : 0 ≤ a ∧ a < M 7 3) (zp3 : 0 ≤ b ∧ b < M 7 3) (zp4 : a ≠ b)  : ∀ (n : Nat) (k : Int), k + n = 51 → (0 ≤ k) → (∀ r : Int, r = lmT (fun k => blkF (M 2) (M 8 a) (M 2 (M 8 a) + k) (M 8 b) (eyeF (M 2) (M 8) (M 9) b)) n k → Q (.inl (some (vI r))) M) → AW ev false 4 t_X2_leastMast Q 22 [some (vR 18), some (vI a), some (vI b), some (vI (M 8 a)), some (vI (M 2 (M 8 a))), some (vI k)] [] M := by
  intro n
  induction n with
  | zero =>
    intro k zn zv0 zv1
    have zs := zp1.1
    have zf := zp1.2.1 a (by omega) (by omega)
    have zg := zp0 (M 8 a) (by omega) (by omega)
    refine AW.go pk_X2_leastMast 12 10 rfl rfl ?_
    refine And.intro (show Inr k ∧ Inr 50 from ⟨⟨by omega, by omega⟩, ⟨by omega, by omega⟩⟩) (And.intro (fun zh1 => ?_) (fun zh1 => ?_))
    · replace zh1 : (50 : Int) < k := zh1
      change AW ev false 4 t_X2_leastMast Q 53 [some (vR 18), some (vI a), some (vI b), some (vI (M 8 a)), some (vI (M 2 (M 8 a))), some (vI k)] [] M
      refine AW.go pk_X2_leastMast 28 2 rfl rfl ?_
      refine And.intro rfl ?_
      exact zv1 _ rfl
    · replace zh1 : ¬ ((50 : Int) < k) := zh1
      exfalso; omega
  | succ n zih =>
    intro k zn zv0 zv1
    have zs := zp1.1
    have zf := zp1.2.1 a (by omega) (by omega)
    have zg := zp0 (M 8 a) (by omega) (by omega)
    refine AW.go pk_X2_leastMast 12 10 rfl rfl ?_
    refine And.intro (show Inr k ∧ Inr 50 from ⟨⟨by omega, by omega⟩, ⟨by omega, by omega⟩⟩) (And.intro (fun zh1 => ?_) (fun zh1 => ?_))
    · replace zh1 : (50 : Int) < k := zh1
      exfalso; omega
    · replace zh1 : ¬ ((50 : Int) < k) := zh1
      change AW ev false 4 t_X2_leastMast Q 37 [some (vR 18), some (vI a), some (vI b), some (vI (M 8 a)), some (vI (M 2 (M 8 a))), some (vI k)] [vI b, vI ((M 2 (M 8 a)) + k), vI (M 8 a), vR 18] M
      refine AW.callV (d' := 3) [vI (M 8 a), vI ((M 2 (M 8 a)) + k), vI b] [] vm_X2_blockingCellFrom rfl hX2_40 (okP_d pk_X2_leastMast 21 37 (.invokevirtual 40) 3 rfl) (by decide) rfl (Nat.le_of_ble_eq_true rfl) ?_
      refine c_X2_blockingCellFrom (M 8 a) ((M 2 (M 8 a)) + k) b zp0 zp1 (by omega) (by omega) (by omega) (fun q => zp4 (zp1.2.2 a b (by omega) (by omega) (by omega) (by omega) (by omega))) (fun w3 zw3 => ?_)
      change AW ev false 4 t_X2_leastMast Q 40 [some (vR 18), some (vI a), some (vI b), some (vI (M 8 a)), some (vI (M 2 (M 8 a))), some (vI k)] [vI w3] M
      refine AW.go pk_X2_leastMast 22 4 rfl rfl ?_
      refine And.intro (show Inr w3 ∧ Inr (-1) from ⟨⟨by omega, by omega⟩, ⟨by omega, by omega⟩⟩) (And.intro (fun zh2 => ?_) (fun zh2 => ?_))
      · replace zh2 : w3 ≠ (-1 : Int) := zh2
        change AW ev false 4 t_X2_leastMast Q 47 [some (vR 18), some (vI a), some (vI b), some (vI (M 8 a)), some (vI (M 2 (M 8 a))), some (vI k)] [] M
        refine AW.go pk_X2_leastMast 26 2 rfl rfl ?_
        refine And.intro (show 5 < mL t_X2_leastMast from (by decide)) ?_
        change AW ev false 4 t_X2_leastMast Q 22 [some (vR 18), some (vI a), some (vI b), some (vI (M 8 a)), some (vI (M 2 (M 8 a))), some (vI (k + 1))] [] M
        exact zih (k + 1) (by omega) (by omega) (fun r zr => zv1 r (by rw [zr]; conv => rhs; unfold lmT; rw [if_neg (by omega)]))
      · replace zh2 : ¬ (w3 ≠ (-1 : Int)) := zh2
        refine And.intro rfl ?_
        exact zv1 _ (by unfold lmT; rw [if_pos (by omega)])
theorem c_X2_leastMast {ev : Ev} {Q : Out → Mem → Prop} {M : Mem}  (a : Int) (b : Int) (zp0 : TInv M) (zp1 : SInv M) (zp2 : 0 ≤ a ∧ a < M 7 3) (zp3 : 0 ≤ b ∧ b < M 7 3) (zp4 : a ≠ b) (zQ : ∀ (r : Int), r = lmT (fun k => blkF (M 2) (M 8 a) (M 2 (M 8 a) + k) (M 8 b) (eyeF (M 2) (M 8) (M 9) b)) 51 0 → Q (.inl (some (vI r))) M) : AM ev false 4 t_X2_leastMast [vR 18, vI a, vI b] M Q := by
  have zs := zp1.1
  refine AM.of mt_X2_leastMast (Nat.le_of_ble_eq_true rfl) ?_
  change AW ev false 4 t_X2_leastMast Q 0 [some (vR 18), some (vI a), some (vI b), none, none, none] [] M
  refine AW.go pk_X2_leastMast 0 4 rfl rfl ?_
  change AW ev false 4 t_X2_leastMast Q 5 [some (vR 18), some (vI a), some (vI b), none, none, none] [vI a, vR 7] M
  refine AW.callV (d' := 1) [vI a] [] vm_X4_cellOf rfl hX2_23 (okP_d pk_X2_leastMast 3 5 (.invokevirtual 23) 3 rfl) (by decide) rfl (Nat.le_of_ble_eq_true rfl) ?_
  refine c_X4_cellOf a zp1 (by omega) (fun w1 zw1 => ?_)
  change AW ev false 4 t_X2_leastMast Q 8 [some (vR 18), some (vI a), some (vI b), none, none, none] [vI w1] M
  refine AW.go pk_X2_leastMast 4 5 rfl rfl ?_
  refine And.intro (show 3 < mL t_X2_leastMast from (by decide)) ?_
  change AW ev false 4 t_X2_leastMast Q 14 [some (vR 18), some (vI a), some (vI b), some (vI w1), none, none] [vI w1, vR 1] M
  refine AW.callV (d' := 1) [vI w1] [] vm_X5_heightOf rfl hX2_29 (okP_d pk_X2_leastMast 8 14 (.invokevirtual 29) 3 rfl) (by decide) rfl (Nat.le_of_ble_eq_true rfl) ?_
  refine c_X5_heightOf w1 (by have zf := zp1.2.1 a (by omega) (by omega); omega) (fun w2 zw2 => ?_)
  change AW ev false 4 t_X2_leastMast Q 17 [some (vR 18), some (vI a), some (vI b), some (vI w1), none, none] [vI w2] M
  refine AW.go pk_X2_leastMast 9 3 rfl rfl ?_
  refine And.intro (show 4 < mL t_X2_leastMast from (by decide)) ?_
  refine And.intro (show 5 < mL t_X2_leastMast from (by decide)) ?_
  change AW ev false 4 t_X2_leastMast Q 22 [some (vR 18), some (vI a), some (vI b), some (vI w1), some (vI w2), some (vI 0)] [] M
  rw [zw2, zw1]
  exact lz_leastMast a b zp0 zp1 zp2 zp3 zp4 51 0 (by omega) (by omega) zQ
theorem lz_inSight {ev : Ev} {Q : Out → Mem → Prop} {M : Mem}  (c : Int) (m : Int) (zp0 : TInv M) (zp1 : SInv M) (zp2 : 0 ≤ c ∧ c < 144) (zp3 : 0 ≤ m ∧ m ≤ 50) (zp4 : ¬ ∃ i, 0 ≤ i ∧ i < M 7 3 ∧ M 8 i = c)  : ∀ (n : Nat) (b : Int) (s : Int), b + n = M 7 3 → (0 ≤ b) → (0 ≤ s ∧ s ≤ b) → (∀ r : Int, r = ssT (fun b => blkF (M 2) c (M 2 c + m) (M 8 b) (eyeF (M 2) (M 8) (M 9) b)) n b s → Q (.inl (some (vI r))) M) → AW ev false 4 t_X2_stationsInSight Q 17 [some (vR 18), some (vI c), some (vI m), some (vI (M 2 c + m)), some (vI s), some (vI b)] [] M := by
  intro n
  induction n with
  | zero =>
    intro b s zn zv0 zv1 zv2
    have zs := zp1.1
    have zg := zp0 c (by omega) (by omega)
    refine AW.go pk_X2_stationsInSight 11 4 rfl rfl ?_
    change AW ev false 4 t_X2_stationsInSight Q 23 [some (vR 18), some (vI c), some (vI m), some (vI (M 2 c + m)), some (vI s), some (vI b)] [vR 7, vI b] M
    refine AW.callV (d' := 0) [] [vI b] vm_X4_size rfl hX2_58 (okP_d pk_X2_stationsInSight 14 23 (.invokevirtual 58) 3 rfl) (by decide) rfl (Nat.le_of_ble_eq_true rfl) ?_
    refine c_X4_size   (fun w2 zw2 => ?_)
    change AW ev false 4 t_X2_stationsInSight Q 26 [some (vR 18), some (vI c), some (vI m), some (vI (M 2 c + m)), some (vI s), some (vI b)] [vI w2, vI b] M
    refine AW.go pk_X2_stationsInSight 15 6 rfl rfl ?_
    refine And.intro (show Inr b ∧ Inr w2 from ⟨⟨by omega, by omega⟩, ⟨by omega, by omega⟩⟩) (And.intro (fun zh1 => ?_) (fun zh1 => ?_))
    · replace zh1 : w2 ≤ b := zh1
      change AW ev false 4 t_X2_stationsInSight Q 50 [some (vR 18), some (vI c), some (vI m), some (vI (M 2 c + m)), some (vI s), some (vI b)] [] M
      refine AW.go pk_X2_stationsInSight 26 2 rfl rfl ?_
      refine And.intro rfl ?_
      exact zv2 s rfl
    · replace zh1 : ¬ (w2 ≤ b) := zh1
      exfalso; omega
  | succ n zih =>
    intro b s zn zv0 zv1 zv2
    have zs := zp1.1
    have zg := zp0 c (by omega) (by omega)
    refine AW.go pk_X2_stationsInSight 11 4 rfl rfl ?_
    change AW ev false 4 t_X2_stationsInSight Q 23 [some (vR 18), some (vI c), some (vI m), some (vI (M 2 c + m)), some (vI s), some (vI b)] [vR 7, vI b] M
    refine AW.callV (d' := 0) [] [vI b] vm_X4_size rfl hX2_58 (okP_d pk_X2_stationsInSight 14 23 (.invokevirtual 58) 3 rfl) (by decide) rfl (Nat.le_of_ble_eq_true rfl) ?_
    refine c_X4_size   (fun w2 zw2 => ?_)
    change AW ev false 4 t_X2_stationsInSight Q 26 [some (vR 18), some (vI c), some (vI m), some (vI (M 2 c + m)), some (vI s), some (vI b)] [vI w2, vI b] M
    refine AW.go pk_X2_stationsInSight 15 6 rfl rfl ?_
    refine And.intro (show Inr b ∧ Inr w2 from ⟨⟨by omega, by omega⟩, ⟨by omega, by omega⟩⟩) (And.intro (fun zh1 => ?_) (fun zh1 => ?_))
    · replace zh1 : w2 ≤ b := zh1
      exfalso; omega
    · replace zh1 : ¬ (w2 ≤ b) := zh1
      change AW ev false 4 t_X2_stationsInSight Q 34 [some (vR 18), some (vI c), some (vI m), some (vI (M 2 c + m)), some (vI s), some (vI b)] [vI b, vI (M 2 c + m), vI c, vR 18] M
      refine AW.callV (d' := 3) [vI c, vI (M 2 c + m), vI b] [] vm_X2_blockingCellFrom rfl hX2_40 (okP_d pk_X2_stationsInSight 20 34 (.invokevirtual 40) 3 rfl) (by decide) rfl (Nat.le_of_ble_eq_true rfl) ?_
      refine c_X2_blockingCellFrom c (M 2 c + m) b zp0 zp1 (by omega) (by omega) (by omega) (fun q => zp4 ⟨b, by omega, by omega, by omega⟩) (fun w3 zw3 => ?_)
      change AW ev false 4 t_X2_stationsInSight Q 37 [some (vR 18), some (vI c), some (vI m), some (vI (M 2 c + m)), some (vI s), some (vI b)] [vI w3] M
      refine AW.go pk_X2_stationsInSight 21 5 rfl rfl ?_
      refine And.intro (show Inr w3 ∧ Inr (-1) from ⟨⟨by omega, by omega⟩, ⟨by omega, by omega⟩⟩) (And.intro (fun zh2 => ?_) (fun zh2 => ?_))
      · replace zh2 : w3 ≠ (-1 : Int) := zh2
        change AW ev false 4 t_X2_stationsInSight Q 44 [some (vR 18), some (vI c), some (vI m), some (vI (M 2 c + m)), some (vI s), some (vI b)] [] M
        refine AW.go pk_X2_stationsInSight 24 2 rfl rfl ?_
        refine And.intro (show 5 < mL t_X2_stationsInSight from (by decide)) ?_
        change AW ev false 4 t_X2_stationsInSight Q 17 [some (vR 18), some (vI c), some (vI m), some (vI (M 2 c + m)), some (vI s), some (vI (b + 1))] [] M
        exact zih (b + 1) s (by omega) (by omega) (by omega) (fun r zr => zv2 r (by rw [zr]; conv => rhs; unfold ssT; first | rw [if_pos (by omega)] | rw [if_neg (by omega)]))
      · replace zh2 : ¬ (w3 ≠ (-1 : Int)) := zh2
        refine And.intro (show 4 < mL t_X2_stationsInSight from (by decide)) ?_
        refine And.intro (show 5 < mL t_X2_stationsInSight from (by decide)) ?_
        change AW ev false 4 t_X2_stationsInSight Q 17 [some (vR 18), some (vI c), some (vI m), some (vI (M 2 c + m)), some (vI (s + 1)), some (vI (b + 1))] [] M
        exact zih (b + 1) (s + 1) (by omega) (by omega) (by omega) (fun r zr => zv2 r (by rw [zr]; conv => rhs; unfold ssT; first | rw [if_pos (by omega)] | rw [if_neg (by omega)]))
theorem c_X2_stationsInSight {ev : Ev} {Q : Out → Mem → Prop} {M : Mem}  (c : Int) (m : Int) (zp0 : TInv M) (zp1 : SInv M) (zp2 : 0 ≤ c ∧ c < 144) (zp3 : 0 ≤ m ∧ m ≤ 50) (zp4 : ¬ ∃ i, 0 ≤ i ∧ i < M 7 3 ∧ M 8 i = c) (zQ : ∀ (r : Int), r = ssT (fun b => blkF (M 2) c (M 2 c + m) (M 8 b) (eyeF (M 2) (M 8) (M 9) b)) (M 7 3).toNat 0 0 ∧ (0 ≤ r ∧ r ≤ 8) → Q (.inl (some (vI r))) M) : AM ev false 4 t_X2_stationsInSight [vR 18, vI c, vI m] M Q := by
  have zs := zp1.1
  refine AM.of mt_X2_stationsInSight (Nat.le_of_ble_eq_true rfl) ?_
  change AW ev false 4 t_X2_stationsInSight Q 0 [some (vR 18), some (vI c), some (vI m), none, none, none] [] M
  refine AW.go pk_X2_stationsInSight 0 4 rfl rfl ?_
  change AW ev false 4 t_X2_stationsInSight Q 5 [some (vR 18), some (vI c), some (vI m), none, none, none] [vI c, vR 1] M
  refine AW.callV (d' := 1) [vI c] [] vm_X5_heightOf rfl hX2_29 (okP_d pk_X2_stationsInSight 3 5 (.invokevirtual 29) 3 rfl) (by decide) rfl (Nat.le_of_ble_eq_true rfl) ?_
  refine c_X5_heightOf c (by omega) (fun w1 zw1 => ?_)
  change AW ev false 4 t_X2_stationsInSight Q 8 [some (vR 18), some (vI c), some (vI m), none, none, none] [vI w1] M
  refine AW.go pk_X2_stationsInSight 4 7 rfl rfl ?_
  refine And.intro (show 3 < mL t_X2_stationsInSight from (by decide)) ?_
  refine And.intro (show 4 < mL t_X2_stationsInSight from (by decide)) ?_
  refine And.intro (show 5 < mL t_X2_stationsInSight from (by decide)) ?_
  change AW ev false 4 t_X2_stationsInSight Q 17 [some (vR 18), some (vI c), some (vI m), some (vI (w1 + m)), some (vI 0), some (vI 0)] [] M
  rw [zw1]
  exact lz_inSight c m zp0 zp1 zp2 zp3 zp4 (M 7 3).toNat 0 0 (by omega) (by omega) (by omega) (fun r zr => zQ r ⟨zr, by have := ssT_bd (fun b => blkF (M 2) c (M 2 c + m) (M 8 b) (eyeF (M 2) (M 8) (M 9) b)) (M 7 3).toNat 0 0; rw [← zr] at this; omega⟩)
theorem c_X5_heightAny {ev : Ev} {Q : Out → Mem → Prop} {M : Mem}  (c : Int) (zp0 : -1 ≤ c ∧ c < 144) (zQ : ∀ (r : Int), r = (if c = -1 then 0 else M 2 c) → Q (.inl (some (vI r))) M) : AM ev false 1 t_X5_heightOf [vR 1, vI c] M Q := by
  refine AM.of mt_X5_heightOf (Nat.le_of_ble_eq_true rfl) ?_
  change AW ev false 1 t_X5_heightOf Q 0 [some (vR 1), some (vI c)] [] M
  refine AW.go pk_X5_heightOf 0 2 rfl rfl ?_
  change AW ev false 1 t_X5_heightOf Q 1 [some (vR 1), some (vI c)] [vI c] M
  refine AW.callS (d' := 0) [vI c] [] sm_X5_isCell hX5_37 (okP_d pk_X5_heightOf 1 1 (.invokestatic 37) 3 rfl) (by decide) rfl (Nat.le_of_ble_eq_true rfl) ?_
  refine c_X5_isCell c (by omega) (fun zr1 zzr1 => ?_)
  change AW ev false 1 t_X5_heightOf Q 4 [some (vR 1), some (vI c)] [vI zr1] M
  refine AW.go pk_X5_heightOf 2 6 rfl rfl ?_
  refine And.intro (show Inr zr1 from ⟨by omega, by omega⟩) (And.intro (fun zh2 => ?_) (fun zh2 => ?_))
  · replace zh2 : zr1 = (0 : Int) := zh2
    change AW ev false 1 t_X5_heightOf Q 16 [some (vR 1), some (vI c)] [] M
    refine AW.go pk_X5_heightOf 8 2 rfl rfl ?_
    refine And.intro rfl ?_
    exact zQ 0 (by first | rw [if_neg (by omega)] | rw [if_pos (by omega)])
  · replace zh2 : ¬ (zr1 = (0 : Int)) := zh2
    refine And.intro (show (0 ≤ c ∧ c < 144) from (by omega)) ?_
    change AW ev false 1 t_X5_heightOf Q 17 [some (vR 1), some (vI c)] [vI (M 2 c)] M
    refine AW.go pk_X5_heightOf 9 1 rfl rfl ?_
    refine And.intro rfl ?_
    exact zQ (M 2 c) (by first | rw [if_neg (by omega)] | rw [if_pos (by omega)])
theorem lz_best {ev : Ev} {Q : Out → Mem → Prop} {M : Mem}  (m : Int) (zp0 : TInv M) (zp1 : SInv M) (zp2 : 0 ≤ m ∧ m ≤ 50)  : ∀ (n : Nat) (c : Int) (b : Int) (v : Int), c + n = 144 → (0 ≤ c) → (-1 ≤ b ∧ b < c) → (0 ≤ v ∧ v ≤ 8) → (∀ r : Int, r = bcT (fun c => ∃ i, 0 ≤ i ∧ i < M 7 3 ∧ M 8 i = c) (M 2) (fun c => ssT (fun b => blkF (M 2) c (M 2 c + m) (M 8 b) (eyeF (M 2) (M 8) (M 9) b)) (M 7 3).toNat 0 0) n c b v → Q (.inl (some (vI r))) M) → AW ev false 5 t_X2_cellWithMostInSight Q 7 [some (vR 18), some (vI m), some (vI b), some (vI v), some (vI c), none, none] [] M := by
  intro n
  induction n with
  | zero =>
    intro c b v zn zv0 zv1 zv2 zv3
    have zs := zp1.1
    refine AW.go pk_X2_cellWithMostInSight 6 7 rfl rfl ?_
    refine And.intro (show Inr c ∧ Inr 144 from ⟨⟨by omega, by omega⟩, ⟨by omega, by omega⟩⟩) (And.intro (fun zh1 => ?_) (fun zh1 => ?_))
    · replace zh1 : (144 : Int) ≤ c := zh1
      change AW ev false 5 t_X2_cellWithMostInSight Q 97 [some (vR 18), some (vI m), some (vI b), some (vI v), some (vI c), none, none] [] M
      refine AW.go pk_X2_cellWithMostInSight 49 2 rfl rfl ?_
      refine And.intro rfl ?_
      exact zv3 _ rfl
    · replace zh1 : ¬ ((144 : Int) ≤ c) := zh1
      exfalso; omega
  | succ n zih =>
    intro c b v zn zv0 zv1 zv2 zv3
    have zs := zp1.1
    have zg := zp0 c (by omega) (by omega)
    have zg2 : b ≠ -1 → 0 ≤ M 2 b ∧ M 2 b ≤ 500 := fun q => zp0 b (by omega) (by omega)
    have zg3 : ∀ w : Int, w = (if b = -1 then 0 else M 2 b) → 0 ≤ w ∧ w ≤ 500 := fun w q => by
      rw [q]
      split
      · omega
      · rename_i z; exact zg2 z
    refine AW.go pk_X2_cellWithMostInSight 6 7 rfl rfl ?_
    refine And.intro (show Inr c ∧ Inr 144 from ⟨⟨by omega, by omega⟩, ⟨by omega, by omega⟩⟩) (And.intro (fun zh1 => ?_) (fun zh1 => ?_))
    · replace zh1 : (144 : Int) ≤ c := zh1
      exfalso; omega
    · replace zh1 : ¬ ((144 : Int) ≤ c) := zh1
      change AW ev false 5 t_X2_cellWithMostInSight Q 21 [some (vR 18), some (vI m), some (vI b), some (vI v), some (vI c), none, none] [vI c, vR 7] M
      refine AW.callV (d' := 0) [vI c] [] vm_X4_isTaken rfl hX2_65 (okP_d pk_X2_cellWithMostInSight 12 21 (.invokevirtual 65) 3 rfl) (by decide) rfl (Nat.le_of_ble_eq_true rfl) ?_
      refine c_X4_isTaken c zp1 (by omega) (fun w1 zw1 => ?_)
      change AW ev false 5 t_X2_cellWithMostInSight Q 24 [some (vR 18), some (vI m), some (vI b), some (vI v), some (vI c), none, none] [vI w1] M
      refine AW.go pk_X2_cellWithMostInSight 13 5 rfl rfl ?_
      refine And.intro (show Inr w1 from ⟨by omega, by omega⟩) (And.intro (fun zh2 => ?_) (fun zh2 => ?_))
      · replace zh2 : w1 ≠ (0 : Int) := zh2
        change AW ev false 5 t_X2_cellWithMostInSight Q 91 [some (vR 18), some (vI m), some (vI b), some (vI v), some (vI c), none, none] [] M
        have zun : bcT (fun c => ∃ i, 0 ≤ i ∧ i < M 7 3 ∧ M 8 i = c) (M 2) (fun c => ssT (fun b => blkF (M 2) c (M 2 c + m) (M 8 b) (eyeF (M 2) (M 8) (M 9) b)) (M 7 3).toNat 0 0) (n + 1) c b v = bcT (fun c => ∃ i, 0 ≤ i ∧ i < M 7 3 ∧ M 8 i = c) (M 2) (fun c => ssT (fun b => blkF (M 2) c (M 2 c + m) (M 8 b) (eyeF (M 2) (M 8) (M 9) b)) (M 7 3).toNat 0 0) n (c + 1) b v := by
          (conv => lhs; unfold bcT); rw [if_pos (zw1.2.mp (by omega))]
        refine AW.go pk_X2_cellWithMostInSight 47 2 rfl rfl ?_
        refine And.intro (show 4 < mL t_X2_cellWithMostInSight from (by decide)) ?_
        change AW ev false 5 t_X2_cellWithMostInSight Q 7 [some (vR 18), some (vI m), some (vI b), some (vI v), some (vI (c + 1)), none, none] [] M
        exact zih (c + 1) b v (by omega) (by omega) (by omega) (by omega) (fun r zr => zv3 r (by rw [zr, zun]))
      · replace zh2 : ¬ (w1 ≠ (0 : Int)) := zh2
        change AW ev false 5 t_X2_cellWithMostInSight Q 31 [some (vR 18), some (vI m), some (vI b), some (vI v), some (vI c), none, none] [vI m, vI c, vR 18] M
        refine AW.callV (d' := 4) [vI c, vI m] [] vm_X2_stationsInSight rfl hX2_69 (okP_d pk_X2_cellWithMostInSight 17 31 (.invokevirtual 69) 3 rfl) (by decide) rfl (Nat.le_of_ble_eq_true rfl) ?_
        refine c_X2_stationsInSight c m zp0 zp1 (by omega) (by omega) (fun q => by have := zw1.2.mpr q; omega) (fun w2 zw2 => ?_)
        change AW ev false 5 t_X2_cellWithMostInSight Q 34 [some (vR 18), some (vI m), some (vI b), some (vI v), some (vI c), none, none] [vI w2] M
        refine AW.go pk_X2_cellWithMostInSight 18 5 rfl rfl ?_
        refine And.intro (show 5 < mL t_X2_cellWithMostInSight from (by decide)) ?_
        change AW ev false 5 t_X2_cellWithMostInSight Q 42 [some (vR 18), some (vI m), some (vI b), some (vI v), some (vI c), some (vI w2), none] [vI c, vR 1] M
        refine AW.callV (d' := 1) [vI c] [] vm_X5_heightOf rfl hX2_29 (okP_d pk_X2_cellWithMostInSight 22 42 (.invokevirtual 29) 3 rfl) (by decide) rfl (Nat.le_of_ble_eq_true rfl) ?_
        refine c_X5_heightOf c (by omega) (fun w3 zw3 => ?_)
        change AW ev false 5 t_X2_cellWithMostInSight Q 45 [some (vR 18), some (vI m), some (vI b), some (vI v), some (vI c), some (vI w2), none] [vI w3] M
        refine AW.go pk_X2_cellWithMostInSight 23 4 rfl rfl ?_
        change AW ev false 5 t_X2_cellWithMostInSight Q 50 [some (vR 18), some (vI m), some (vI b), some (vI v), some (vI c), some (vI w2), none] [vI b, vR 1, vI w3] M
        refine AW.callV (d' := 1) [vI b] [vI w3] vm_X5_heightOf rfl hX2_29 (okP_d pk_X2_cellWithMostInSight 26 50 (.invokevirtual 29) 3 rfl) (by decide) rfl (Nat.le_of_ble_eq_true rfl) ?_
        refine c_X5_heightAny b (by omega) (fun w4 zw4 => ?_)
        change AW ev false 5 t_X2_cellWithMostInSight Q 53 [some (vR 18), some (vI m), some (vI b), some (vI v), some (vI c), some (vI w2), none] [vI w4, vI w3] M
        refine AW.go pk_X2_cellWithMostInSight 27 3 rfl rfl ?_
        refine And.intro (show Inr w3 ∧ Inr w4 from ⟨(by have := zg3 w4 zw4; exact ⟨by omega, by omega⟩), (by have := zg3 w4 zw4; exact ⟨by omega, by omega⟩)⟩) (And.intro (fun zh3 => ?_) (fun zh3 => ?_))
        · replace zh3 : w3 ≤ w4 := zh3
          change AW ev false 5 t_X2_cellWithMostInSight Q 60 [some (vR 18), some (vI m), some (vI b), some (vI v), some (vI c), some (vI w2), none] [] M
          refine AW.go pk_X2_cellWithMostInSight 30 13 rfl rfl ?_
          refine And.intro (show 6 < mL t_X2_cellWithMostInSight from (by decide)) ?_
          refine And.intro (show Inr b ∧ Inr (-1) from ⟨⟨by omega, by omega⟩, ⟨by omega, by omega⟩⟩) (And.intro (fun zh4 => ?_) (fun zh4 => ?_))
          · replace zh4 : b = (-1 : Int) := zh4
            change AW ev false 5 t_X2_cellWithMostInSight Q 85 [some (vR 18), some (vI m), some (vI b), some (vI v), some (vI c), some (vI w2), some (vI 0)] [] M
            have zun : bcT (fun c => ∃ i, 0 ≤ i ∧ i < M 7 3 ∧ M 8 i = c) (M 2) (fun c => ssT (fun b => blkF (M 2) c (M 2 c + m) (M 8 b) (eyeF (M 2) (M 8) (M 9) b)) (M 7 3).toNat 0 0) (n + 1) c b v = bcT (fun c => ∃ i, 0 ≤ i ∧ i < M 7 3 ∧ M 8 i = c) (M 2) (fun c => ssT (fun b => blkF (M 2) c (M 2 c + m) (M 8 b) (eyeF (M 2) (M 8) (M 9) b)) (M 7 3).toNat 0 0) n (c + 1) c w2 := by
              (conv => lhs; unfold bcT); rw [if_neg (fun q => by have := zw1.2.mpr q; omega), if_pos (show b = -1 ∨ v < (fun c => ssT (fun b => blkF (M 2) c (M 2 c + m) (M 8 b) (eyeF (M 2) (M 8) (M 9) b)) (M 7 3).toNat 0 0) c ∨ ((fun c => ssT (fun b => blkF (M 2) c (M 2 c + m) (M 8 b) (eyeF (M 2) (M 8) (M 9) b)) (M 7 3).toNat 0 0) c = v ∧ M 2 b < M 2 c) from by rw [show (fun c => ssT (fun b => blkF (M 2) c (M 2 c + m) (M 8 b) (eyeF (M 2) (M 8) (M 9) b)) (M 7 3).toNat 0 0) c = w2 from zw2.1.symm]; first | omega | (by_cases zb : b = -1; exact Or.inl zb; rw [if_neg zb] at zw4; omega))]; rw [zw2.1]
            refine AW.go pk_X2_cellWithMostInSight 43 4 rfl rfl ?_
            refine And.intro (show 2 < mL t_X2_cellWithMostInSight from (by decide)) ?_
            refine And.intro (show 3 < mL t_X2_cellWithMostInSight from (by decide)) ?_
            change AW ev false 5 t_X2_cellWithMostInSight Q 91 [some (vR 18), some (vI m), some (vI c), some (vI w2), some (vI c), some (vI w2), some (vI 0)] [] M
            
            refine AW.go pk_X2_cellWithMostInSight 47 2 rfl rfl ?_
            refine And.intro (show 4 < mL t_X2_cellWithMostInSight from (by decide)) ?_
            change AW ev false 5 t_X2_cellWithMostInSight Q 7 [some (vR 18), some (vI m), some (vI c), some (vI w2), some (vI (c + 1)), some (vI w2), some (vI 0)] [] M
            refine AW.sub [some (vR 18), some (vI m), some (vI c), some (vI w2), some (vI (c + 1)), none, none] (by simp [lsub]) ?_
            exact zih (c + 1) c w2 (by omega) (by omega) (by omega) (by omega) (fun r zr => zv3 r (by rw [zr, zun]))
          · replace zh4 : ¬ (b = (-1 : Int)) := zh4
            refine And.intro (show Inr w2 ∧ Inr v from ⟨⟨by omega, by omega⟩, ⟨by omega, by omega⟩⟩) (And.intro (fun zh5 => ?_) (fun zh5 => ?_))
            · replace zh5 : v < w2 := zh5
              change AW ev false 5 t_X2_cellWithMostInSight Q 85 [some (vR 18), some (vI m), some (vI b), some (vI v), some (vI c), some (vI w2), some (vI 0)] [] M
              have zun : bcT (fun c => ∃ i, 0 ≤ i ∧ i < M 7 3 ∧ M 8 i = c) (M 2) (fun c => ssT (fun b => blkF (M 2) c (M 2 c + m) (M 8 b) (eyeF (M 2) (M 8) (M 9) b)) (M 7 3).toNat 0 0) (n + 1) c b v = bcT (fun c => ∃ i, 0 ≤ i ∧ i < M 7 3 ∧ M 8 i = c) (M 2) (fun c => ssT (fun b => blkF (M 2) c (M 2 c + m) (M 8 b) (eyeF (M 2) (M 8) (M 9) b)) (M 7 3).toNat 0 0) n (c + 1) c w2 := by
                (conv => lhs; unfold bcT); rw [if_neg (fun q => by have := zw1.2.mpr q; omega), if_pos (show b = -1 ∨ v < (fun c => ssT (fun b => blkF (M 2) c (M 2 c + m) (M 8 b) (eyeF (M 2) (M 8) (M 9) b)) (M 7 3).toNat 0 0) c ∨ ((fun c => ssT (fun b => blkF (M 2) c (M 2 c + m) (M 8 b) (eyeF (M 2) (M 8) (M 9) b)) (M 7 3).toNat 0 0) c = v ∧ M 2 b < M 2 c) from by rw [show (fun c => ssT (fun b => blkF (M 2) c (M 2 c + m) (M 8 b) (eyeF (M 2) (M 8) (M 9) b)) (M 7 3).toNat 0 0) c = w2 from zw2.1.symm]; first | omega | (by_cases zb : b = -1; exact Or.inl zb; rw [if_neg zb] at zw4; omega))]; rw [zw2.1]
              refine AW.go pk_X2_cellWithMostInSight 43 4 rfl rfl ?_
              refine And.intro (show 2 < mL t_X2_cellWithMostInSight from (by decide)) ?_
              refine And.intro (show 3 < mL t_X2_cellWithMostInSight from (by decide)) ?_
              change AW ev false 5 t_X2_cellWithMostInSight Q 91 [some (vR 18), some (vI m), some (vI c), some (vI w2), some (vI c), some (vI w2), some (vI 0)] [] M
              
              refine AW.go pk_X2_cellWithMostInSight 47 2 rfl rfl ?_
              refine And.intro (show 4 < mL t_X2_cellWithMostInSight from (by decide)) ?_
              change AW ev false 5 t_X2_cellWithMostInSight Q 7 [some (vR 18), some (vI m), some (vI c), some (vI w2), some (vI (c + 1)), some (vI w2), some (vI 0)] [] M
              refine AW.sub [some (vR 18), some (vI m), some (vI c), some (vI w2), some (vI (c + 1)), none, none] (by simp [lsub]) ?_
              exact zih (c + 1) c w2 (by omega) (by omega) (by omega) (by omega) (fun r zr => zv3 r (by rw [zr, zun]))
            · replace zh5 : ¬ (v < w2) := zh5
              refine And.intro (show Inr w2 ∧ Inr v from ⟨⟨by omega, by omega⟩, ⟨by omega, by omega⟩⟩) (And.intro (fun zh6 => ?_) (fun zh6 => ?_))
              · replace zh6 : w2 ≠ v := zh6
                change AW ev false 5 t_X2_cellWithMostInSight Q 91 [some (vR 18), some (vI m), some (vI b), some (vI v), some (vI c), some (vI w2), some (vI 0)] [] M
                have zun : bcT (fun c => ∃ i, 0 ≤ i ∧ i < M 7 3 ∧ M 8 i = c) (M 2) (fun c => ssT (fun b => blkF (M 2) c (M 2 c + m) (M 8 b) (eyeF (M 2) (M 8) (M 9) b)) (M 7 3).toNat 0 0) (n + 1) c b v = bcT (fun c => ∃ i, 0 ≤ i ∧ i < M 7 3 ∧ M 8 i = c) (M 2) (fun c => ssT (fun b => blkF (M 2) c (M 2 c + m) (M 8 b) (eyeF (M 2) (M 8) (M 9) b)) (M 7 3).toNat 0 0) n (c + 1) b v := by
                  (conv => lhs; unfold bcT); rw [if_neg (fun q => by have := zw1.2.mpr q; omega), if_neg (show ¬ (b = -1 ∨ v < (fun c => ssT (fun b => blkF (M 2) c (M 2 c + m) (M 8 b) (eyeF (M 2) (M 8) (M 9) b)) (M 7 3).toNat 0 0) c ∨ ((fun c => ssT (fun b => blkF (M 2) c (M 2 c + m) (M 8 b) (eyeF (M 2) (M 8) (M 9) b)) (M 7 3).toNat 0 0) c = v ∧ M 2 b < M 2 c)) from by rw [show (fun c => ssT (fun b => blkF (M 2) c (M 2 c + m) (M 8 b) (eyeF (M 2) (M 8) (M 9) b)) (M 7 3).toNat 0 0) c = w2 from zw2.1.symm]; rw [if_neg (by omega)] at zw4; omega)]
                refine AW.go pk_X2_cellWithMostInSight 47 2 rfl rfl ?_
                refine And.intro (show 4 < mL t_X2_cellWithMostInSight from (by decide)) ?_
                change AW ev false 5 t_X2_cellWithMostInSight Q 7 [some (vR 18), some (vI m), some (vI b), some (vI v), some (vI (c + 1)), some (vI w2), some (vI 0)] [] M
                refine AW.sub [some (vR 18), some (vI m), some (vI b), some (vI v), some (vI (c + 1)), none, none] (by simp [lsub]) ?_
                exact zih (c + 1) b v (by omega) (by omega) (by omega) (by omega) (fun r zr => zv3 r (by rw [zr, zun]))
              · replace zh6 : ¬ (w2 ≠ v) := zh6
                refine And.intro (show Inr 0 from ⟨by omega, by omega⟩) (And.intro (fun zh7 => ?_) (fun zh7 => ?_))
                · replace zh7 : (0 : Int) = (0 : Int) := zh7
                  change AW ev false 5 t_X2_cellWithMostInSight Q 91 [some (vR 18), some (vI m), some (vI b), some (vI v), some (vI c), some (vI w2), some (vI 0)] [] M
                  have zun : bcT (fun c => ∃ i, 0 ≤ i ∧ i < M 7 3 ∧ M 8 i = c) (M 2) (fun c => ssT (fun b => blkF (M 2) c (M 2 c + m) (M 8 b) (eyeF (M 2) (M 8) (M 9) b)) (M 7 3).toNat 0 0) (n + 1) c b v = bcT (fun c => ∃ i, 0 ≤ i ∧ i < M 7 3 ∧ M 8 i = c) (M 2) (fun c => ssT (fun b => blkF (M 2) c (M 2 c + m) (M 8 b) (eyeF (M 2) (M 8) (M 9) b)) (M 7 3).toNat 0 0) n (c + 1) b v := by
                    (conv => lhs; unfold bcT); rw [if_neg (fun q => by have := zw1.2.mpr q; omega), if_neg (show ¬ (b = -1 ∨ v < (fun c => ssT (fun b => blkF (M 2) c (M 2 c + m) (M 8 b) (eyeF (M 2) (M 8) (M 9) b)) (M 7 3).toNat 0 0) c ∨ ((fun c => ssT (fun b => blkF (M 2) c (M 2 c + m) (M 8 b) (eyeF (M 2) (M 8) (M 9) b)) (M 7 3).toNat 0 0) c = v ∧ M 2 b < M 2 c)) from by rw [show (fun c => ssT (fun b => blkF (M 2) c (M 2 c + m) (M 8 b) (eyeF (M 2) (M 8) (M 9) b)) (M 7 3).toNat 0 0) c = w2 from zw2.1.symm]; rw [if_neg (by omega)] at zw4; omega)]
                  refine AW.go pk_X2_cellWithMostInSight 47 2 rfl rfl ?_
                  refine And.intro (show 4 < mL t_X2_cellWithMostInSight from (by decide)) ?_
                  change AW ev false 5 t_X2_cellWithMostInSight Q 7 [some (vR 18), some (vI m), some (vI b), some (vI v), some (vI (c + 1)), some (vI w2), some (vI 0)] [] M
                  refine AW.sub [some (vR 18), some (vI m), some (vI b), some (vI v), some (vI (c + 1)), none, none] (by simp [lsub]) ?_
                  exact zih (c + 1) b v (by omega) (by omega) (by omega) (by omega) (fun r zr => zv3 r (by rw [zr, zun]))
                · replace zh7 : ¬ ((0 : Int) = (0 : Int)) := zh7
                  exfalso; omega
        · replace zh3 : ¬ (w3 ≤ w4) := zh3
          change AW ev false 5 t_X2_cellWithMostInSight Q 61 [some (vR 18), some (vI m), some (vI b), some (vI v), some (vI c), some (vI w2), none] [vI 1] M
          refine AW.go pk_X2_cellWithMostInSight 31 12 rfl rfl ?_
          refine And.intro (show 6 < mL t_X2_cellWithMostInSight from (by decide)) ?_
          refine And.intro (show Inr b ∧ Inr (-1) from ⟨⟨by omega, by omega⟩, ⟨by omega, by omega⟩⟩) (And.intro (fun zh8 => ?_) (fun zh8 => ?_))
          · replace zh8 : b = (-1 : Int) := zh8
            change AW ev false 5 t_X2_cellWithMostInSight Q 85 [some (vR 18), some (vI m), some (vI b), some (vI v), some (vI c), some (vI w2), some (vI 1)] [] M
            have zun : bcT (fun c => ∃ i, 0 ≤ i ∧ i < M 7 3 ∧ M 8 i = c) (M 2) (fun c => ssT (fun b => blkF (M 2) c (M 2 c + m) (M 8 b) (eyeF (M 2) (M 8) (M 9) b)) (M 7 3).toNat 0 0) (n + 1) c b v = bcT (fun c => ∃ i, 0 ≤ i ∧ i < M 7 3 ∧ M 8 i = c) (M 2) (fun c => ssT (fun b => blkF (M 2) c (M 2 c + m) (M 8 b) (eyeF (M 2) (M 8) (M 9) b)) (M 7 3).toNat 0 0) n (c + 1) c w2 := by
              (conv => lhs; unfold bcT); rw [if_neg (fun q => by have := zw1.2.mpr q; omega), if_pos (show b = -1 ∨ v < (fun c => ssT (fun b => blkF (M 2) c (M 2 c + m) (M 8 b) (eyeF (M 2) (M 8) (M 9) b)) (M 7 3).toNat 0 0) c ∨ ((fun c => ssT (fun b => blkF (M 2) c (M 2 c + m) (M 8 b) (eyeF (M 2) (M 8) (M 9) b)) (M 7 3).toNat 0 0) c = v ∧ M 2 b < M 2 c) from by rw [show (fun c => ssT (fun b => blkF (M 2) c (M 2 c + m) (M 8 b) (eyeF (M 2) (M 8) (M 9) b)) (M 7 3).toNat 0 0) c = w2 from zw2.1.symm]; first | omega | (by_cases zb : b = -1; exact Or.inl zb; rw [if_neg zb] at zw4; omega))]; rw [zw2.1]
            refine AW.go pk_X2_cellWithMostInSight 43 4 rfl rfl ?_
            refine And.intro (show 2 < mL t_X2_cellWithMostInSight from (by decide)) ?_
            refine And.intro (show 3 < mL t_X2_cellWithMostInSight from (by decide)) ?_
            change AW ev false 5 t_X2_cellWithMostInSight Q 91 [some (vR 18), some (vI m), some (vI c), some (vI w2), some (vI c), some (vI w2), some (vI 1)] [] M
            
            refine AW.go pk_X2_cellWithMostInSight 47 2 rfl rfl ?_
            refine And.intro (show 4 < mL t_X2_cellWithMostInSight from (by decide)) ?_
            change AW ev false 5 t_X2_cellWithMostInSight Q 7 [some (vR 18), some (vI m), some (vI c), some (vI w2), some (vI (c + 1)), some (vI w2), some (vI 1)] [] M
            refine AW.sub [some (vR 18), some (vI m), some (vI c), some (vI w2), some (vI (c + 1)), none, none] (by simp [lsub]) ?_
            exact zih (c + 1) c w2 (by omega) (by omega) (by omega) (by omega) (fun r zr => zv3 r (by rw [zr, zun]))
          · replace zh8 : ¬ (b = (-1 : Int)) := zh8
            refine And.intro (show Inr w2 ∧ Inr v from ⟨⟨by omega, by omega⟩, ⟨by omega, by omega⟩⟩) (And.intro (fun zh9 => ?_) (fun zh9 => ?_))
            · replace zh9 : v < w2 := zh9
              change AW ev false 5 t_X2_cellWithMostInSight Q 85 [some (vR 18), some (vI m), some (vI b), some (vI v), some (vI c), some (vI w2), some (vI 1)] [] M
              have zun : bcT (fun c => ∃ i, 0 ≤ i ∧ i < M 7 3 ∧ M 8 i = c) (M 2) (fun c => ssT (fun b => blkF (M 2) c (M 2 c + m) (M 8 b) (eyeF (M 2) (M 8) (M 9) b)) (M 7 3).toNat 0 0) (n + 1) c b v = bcT (fun c => ∃ i, 0 ≤ i ∧ i < M 7 3 ∧ M 8 i = c) (M 2) (fun c => ssT (fun b => blkF (M 2) c (M 2 c + m) (M 8 b) (eyeF (M 2) (M 8) (M 9) b)) (M 7 3).toNat 0 0) n (c + 1) c w2 := by
                (conv => lhs; unfold bcT); rw [if_neg (fun q => by have := zw1.2.mpr q; omega), if_pos (show b = -1 ∨ v < (fun c => ssT (fun b => blkF (M 2) c (M 2 c + m) (M 8 b) (eyeF (M 2) (M 8) (M 9) b)) (M 7 3).toNat 0 0) c ∨ ((fun c => ssT (fun b => blkF (M 2) c (M 2 c + m) (M 8 b) (eyeF (M 2) (M 8) (M 9) b)) (M 7 3).toNat 0 0) c = v ∧ M 2 b < M 2 c) from by rw [show (fun c => ssT (fun b => blkF (M 2) c (M 2 c + m) (M 8 b) (eyeF (M 2) (M 8) (M 9) b)) (M 7 3).toNat 0 0) c = w2 from zw2.1.symm]; first | omega | (by_cases zb : b = -1; exact Or.inl zb; rw [if_neg zb] at zw4; omega))]; rw [zw2.1]
              refine AW.go pk_X2_cellWithMostInSight 43 4 rfl rfl ?_
              refine And.intro (show 2 < mL t_X2_cellWithMostInSight from (by decide)) ?_
              refine And.intro (show 3 < mL t_X2_cellWithMostInSight from (by decide)) ?_
              change AW ev false 5 t_X2_cellWithMostInSight Q 91 [some (vR 18), some (vI m), some (vI c), some (vI w2), some (vI c), some (vI w2), some (vI 1)] [] M
              
              refine AW.go pk_X2_cellWithMostInSight 47 2 rfl rfl ?_
              refine And.intro (show 4 < mL t_X2_cellWithMostInSight from (by decide)) ?_
              change AW ev false 5 t_X2_cellWithMostInSight Q 7 [some (vR 18), some (vI m), some (vI c), some (vI w2), some (vI (c + 1)), some (vI w2), some (vI 1)] [] M
              refine AW.sub [some (vR 18), some (vI m), some (vI c), some (vI w2), some (vI (c + 1)), none, none] (by simp [lsub]) ?_
              exact zih (c + 1) c w2 (by omega) (by omega) (by omega) (by omega) (fun r zr => zv3 r (by rw [zr, zun]))
            · replace zh9 : ¬ (v < w2) := zh9
              refine And.intro (show Inr w2 ∧ Inr v from ⟨⟨by omega, by omega⟩, ⟨by omega, by omega⟩⟩) (And.intro (fun zh10 => ?_) (fun zh10 => ?_))
              · replace zh10 : w2 ≠ v := zh10
                change AW ev false 5 t_X2_cellWithMostInSight Q 91 [some (vR 18), some (vI m), some (vI b), some (vI v), some (vI c), some (vI w2), some (vI 1)] [] M
                have zun : bcT (fun c => ∃ i, 0 ≤ i ∧ i < M 7 3 ∧ M 8 i = c) (M 2) (fun c => ssT (fun b => blkF (M 2) c (M 2 c + m) (M 8 b) (eyeF (M 2) (M 8) (M 9) b)) (M 7 3).toNat 0 0) (n + 1) c b v = bcT (fun c => ∃ i, 0 ≤ i ∧ i < M 7 3 ∧ M 8 i = c) (M 2) (fun c => ssT (fun b => blkF (M 2) c (M 2 c + m) (M 8 b) (eyeF (M 2) (M 8) (M 9) b)) (M 7 3).toNat 0 0) n (c + 1) b v := by
                  (conv => lhs; unfold bcT); rw [if_neg (fun q => by have := zw1.2.mpr q; omega), if_neg (show ¬ (b = -1 ∨ v < (fun c => ssT (fun b => blkF (M 2) c (M 2 c + m) (M 8 b) (eyeF (M 2) (M 8) (M 9) b)) (M 7 3).toNat 0 0) c ∨ ((fun c => ssT (fun b => blkF (M 2) c (M 2 c + m) (M 8 b) (eyeF (M 2) (M 8) (M 9) b)) (M 7 3).toNat 0 0) c = v ∧ M 2 b < M 2 c)) from by rw [show (fun c => ssT (fun b => blkF (M 2) c (M 2 c + m) (M 8 b) (eyeF (M 2) (M 8) (M 9) b)) (M 7 3).toNat 0 0) c = w2 from zw2.1.symm]; rw [if_neg (by omega)] at zw4; omega)]
                refine AW.go pk_X2_cellWithMostInSight 47 2 rfl rfl ?_
                refine And.intro (show 4 < mL t_X2_cellWithMostInSight from (by decide)) ?_
                change AW ev false 5 t_X2_cellWithMostInSight Q 7 [some (vR 18), some (vI m), some (vI b), some (vI v), some (vI (c + 1)), some (vI w2), some (vI 1)] [] M
                refine AW.sub [some (vR 18), some (vI m), some (vI b), some (vI v), some (vI (c + 1)), none, none] (by simp [lsub]) ?_
                exact zih (c + 1) b v (by omega) (by omega) (by omega) (by omega) (fun r zr => zv3 r (by rw [zr, zun]))
              · replace zh10 : ¬ (w2 ≠ v) := zh10
                refine And.intro (show Inr 1 from ⟨by omega, by omega⟩) (And.intro (fun zh11 => ?_) (fun zh11 => ?_))
                · replace zh11 : (1 : Int) = (0 : Int) := zh11
                  exfalso; omega
                · replace zh11 : ¬ ((1 : Int) = (0 : Int)) := zh11
                  change AW ev false 5 t_X2_cellWithMostInSight Q 85 [some (vR 18), some (vI m), some (vI b), some (vI v), some (vI c), some (vI w2), some (vI 1)] [] M
                  have zun : bcT (fun c => ∃ i, 0 ≤ i ∧ i < M 7 3 ∧ M 8 i = c) (M 2) (fun c => ssT (fun b => blkF (M 2) c (M 2 c + m) (M 8 b) (eyeF (M 2) (M 8) (M 9) b)) (M 7 3).toNat 0 0) (n + 1) c b v = bcT (fun c => ∃ i, 0 ≤ i ∧ i < M 7 3 ∧ M 8 i = c) (M 2) (fun c => ssT (fun b => blkF (M 2) c (M 2 c + m) (M 8 b) (eyeF (M 2) (M 8) (M 9) b)) (M 7 3).toNat 0 0) n (c + 1) c w2 := by
                    (conv => lhs; unfold bcT); rw [if_neg (fun q => by have := zw1.2.mpr q; omega), if_pos (show b = -1 ∨ v < (fun c => ssT (fun b => blkF (M 2) c (M 2 c + m) (M 8 b) (eyeF (M 2) (M 8) (M 9) b)) (M 7 3).toNat 0 0) c ∨ ((fun c => ssT (fun b => blkF (M 2) c (M 2 c + m) (M 8 b) (eyeF (M 2) (M 8) (M 9) b)) (M 7 3).toNat 0 0) c = v ∧ M 2 b < M 2 c) from by rw [show (fun c => ssT (fun b => blkF (M 2) c (M 2 c + m) (M 8 b) (eyeF (M 2) (M 8) (M 9) b)) (M 7 3).toNat 0 0) c = w2 from zw2.1.symm]; first | omega | (by_cases zb : b = -1; exact Or.inl zb; rw [if_neg zb] at zw4; omega))]; rw [zw2.1]
                  refine AW.go pk_X2_cellWithMostInSight 43 4 rfl rfl ?_
                  refine And.intro (show 2 < mL t_X2_cellWithMostInSight from (by decide)) ?_
                  refine And.intro (show 3 < mL t_X2_cellWithMostInSight from (by decide)) ?_
                  change AW ev false 5 t_X2_cellWithMostInSight Q 91 [some (vR 18), some (vI m), some (vI c), some (vI w2), some (vI c), some (vI w2), some (vI 1)] [] M
                  
                  refine AW.go pk_X2_cellWithMostInSight 47 2 rfl rfl ?_
                  refine And.intro (show 4 < mL t_X2_cellWithMostInSight from (by decide)) ?_
                  change AW ev false 5 t_X2_cellWithMostInSight Q 7 [some (vR 18), some (vI m), some (vI c), some (vI w2), some (vI (c + 1)), some (vI w2), some (vI 1)] [] M
                  refine AW.sub [some (vR 18), some (vI m), some (vI c), some (vI w2), some (vI (c + 1)), none, none] (by simp [lsub]) ?_
                  exact zih (c + 1) c w2 (by omega) (by omega) (by omega) (by omega) (fun r zr => zv3 r (by rw [zr, zun]))
theorem c_X2_cellWithMostInSight {ev : Ev} {Q : Out → Mem → Prop} {M : Mem}  (m : Int) (zp0 : TInv M) (zp1 : SInv M) (zp2 : 0 ≤ m ∧ m ≤ 50) (zQ : ∀ (r : Int), r = bcT (fun c => ∃ i, 0 ≤ i ∧ i < M 7 3 ∧ M 8 i = c) (M 2) (fun c => ssT (fun b => blkF (M 2) c (M 2 c + m) (M 8 b) (eyeF (M 2) (M 8) (M 9) b)) (M 7 3).toNat 0 0) 144 0 (-1) 0 → Q (.inl (some (vI r))) M) : AM ev false 5 t_X2_cellWithMostInSight [vR 18, vI m] M Q := by
  have zs := zp1.1
  refine AM.of mt_X2_cellWithMostInSight (Nat.le_of_ble_eq_true rfl) ?_
  change AW ev false 5 t_X2_cellWithMostInSight Q 0 [some (vR 18), some (vI m), none, none, none, none, none] [] M
  refine AW.go pk_X2_cellWithMostInSight 0 6 rfl rfl ?_
  refine And.intro (show 2 < mL t_X2_cellWithMostInSight from (by decide)) ?_
  refine And.intro (show 3 < mL t_X2_cellWithMostInSight from (by decide)) ?_
  refine And.intro (show 4 < mL t_X2_cellWithMostInSight from (by decide)) ?_
  change AW ev false 5 t_X2_cellWithMostInSight Q 7 [some (vR 18), some (vI m), some (vI (-1)), some (vI 0), some (vI 0), none, none] [] M
  exact lz_best m zp0 zp1 zp2 144 0 (-1) 0 (by omega) (by omega) (by omega) (by omega) zQ
