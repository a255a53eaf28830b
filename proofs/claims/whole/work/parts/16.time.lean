theorem c_X6_size {ev : Ev} {Q : Out → Mem → Prop} {M : Mem}    (zQ : ∀ (r : Int), r = M 19 2 → Q (.inl (some (vI r))) M) : AM ev false 0 t_X6_size [vR 19] M Q := by
  refine AM.of mt_X6_size (Nat.le_of_ble_eq_true rfl) ?_
  change AW ev false 0 t_X6_size Q 0 [some (vR 19)] [] M
  refine AW.go pk_X6_size 0 3 rfl rfl ?_
  refine And.intro rfl ?_
  exact zQ (M 19 2) (by first | rfl | omega)
theorem c_X6_has {ev : Ev} {Q : Out → Mem → Prop} {M : Mem}  (s : Int) (zp0 : 0 ≤ M 19 2 ∧ M 19 2 ≤ 20) (zp1 : -2147483648 ≤ s ∧ s < 2147483648) (zQ : ∀ (r : Int), (r = 0 ∨ r = 1) ∧ (r = 1 ↔ 0 ≤ s ∧ s < M 19 2) → Q (.inl (some (vI r))) M) : AM ev false 0 t_X6_has [vR 19, vI s] M Q := by
  refine AM.of mt_X6_has (Nat.le_of_ble_eq_true rfl) ?_
  change AW ev false 0 t_X6_has Q 0 [some (vR 19), some (vI s)] [] M
  refine AW.go pk_X6_has 0 8 rfl rfl ?_
  refine And.intro (show Inr s from ⟨by omega, by omega⟩) (And.intro (fun zh1 => ?_) (fun zh1 => ?_))
  · replace zh1 : s < (0 : Int) := zh1
    change AW ev false 0 t_X6_has Q 16 [some (vR 19), some (vI s)] [] M
    refine AW.go pk_X6_has 8 2 rfl rfl ?_
    refine And.intro rfl ?_
    refine And.intro (show ((0 : Int) = 0 ∨ (0 : Int) = 1) from (by omega)) ?_
    exact zQ 0 (by first | rfl | omega)
  · replace zh1 : ¬ (s < (0 : Int)) := zh1
    refine And.intro (show Inr s ∧ Inr (M 19 2) from ⟨⟨by omega, by omega⟩, ⟨by omega, by omega⟩⟩) (And.intro (fun zh2 => ?_) (fun zh2 => ?_))
    · replace zh2 : M 19 2 ≤ s := zh2
      change AW ev false 0 t_X6_has Q 16 [some (vR 19), some (vI s)] [] M
      refine AW.go pk_X6_has 8 2 rfl rfl ?_
      refine And.intro rfl ?_
      refine And.intro (show ((0 : Int) = 0 ∨ (0 : Int) = 1) from (by omega)) ?_
      exact zQ 0 (by first | rfl | omega)
    · replace zh2 : ¬ (M 19 2 ≤ s) := zh2
      change AW ev false 0 t_X6_has Q 17 [some (vR 19), some (vI s)] [vI 1] M
      refine AW.go pk_X6_has 9 1 rfl rfl ?_
      refine And.intro rfl ?_
      refine And.intro (show ((1 : Int) = 0 ∨ (1 : Int) = 1) from (by omega)) ?_
      exact zQ 1 (by first | rfl | omega)
theorem c_X6_clear {ev : Ev} {Q : Out → Mem → Prop} {M : Mem}    (zQ : Q (.inl none) (fillM (upM M 19 2 0) 21 576 (-1))) : AM ev false 1 t_X6_clear [vR 19] M Q := by
  refine AM.of mt_X6_clear (Nat.le_of_ble_eq_true rfl) ?_
  change AW ev false 1 t_X6_clear Q 0 [some (vR 19)] [] M
  refine AW.go pk_X6_clear 0 7 rfl rfl ?_
  change AW ev false 1 t_X6_clear Q 10 [some (vR 19)] [vI (-1), vR 21] (upM M 19 2 0)
  refine AW.callS (d' := 0) [vR 21, vI (-1)] [] sm_J7_fill_53178 hX6_18 (okP_d pk_X6_clear 6 10 (.invokestatic 18) 3 rfl) (by decide) rfl (Nat.le_of_ble_eq_true rfl) ?_
  refine c_fill21 (-1)  ?_
  change AW ev false 1 t_X6_clear Q 13 [some (vR 19)] [] (fillM (upM M 19 2 0) 21 576 (-1))
  refine AW.go pk_X6_clear 7 1 rfl rfl ?_
  refine And.intro rfl ?_
  exact zQ
theorem c_X6_property {ev : Ev} {Q : Out → Mem → Prop} {M : Mem}  (m : Int) (w : Int) (zp0 : 0 ≤ m ∧ m < M 19 2) (zp1 : M 19 2 ≤ 20) (zp2 : 0 ≤ w ∧ w < 6) (zQ : ∀ (r : Int), r = M 20 (27 * m + w) → Q (.inl (some (vI r))) M) : AM ev false 1 t_X6_property [vR 19, vI m, vI w] M Q := by
  refine AM.of mt_X6_property (Nat.le_of_ble_eq_true rfl) ?_
  change AW ev false 1 t_X6_property Q 0 [some (vR 19), some (vI m), some (vI w)] [] M
  refine AW.go pk_X6_property 0 3 rfl rfl ?_
  change AW ev false 1 t_X6_property Q 2 [some (vR 19), some (vI m), some (vI w)] [vI m, vR 19] M
  refine AW.callV (d' := 0) [vI m] [] vm_X6_has rfl hX6_28 (okP_d pk_X6_property 2 2 (.invokevirtual 28) 3 rfl) (by decide) rfl (Nat.le_of_ble_eq_true rfl) ?_
  refine c_X6_has m (by omega) (by omega) (fun zr1 zzr1 => ?_)
  change AW ev false 1 t_X6_property Q 5 [some (vR 19), some (vI m), some (vI w)] [vI zr1] M
  refine AW.go pk_X6_property 3 8 rfl rfl ?_
  refine And.intro (show Inr zr1 from ⟨by omega, by omega⟩) (And.intro (fun zh2 => ?_) (fun zh2 => ?_))
  · replace zh2 : zr1 = (0 : Int) := zh2
    exfalso; omega
  · replace zh2 : ¬ (zr1 = (0 : Int)) := zh2
    refine And.intro (show Inr w from ⟨by omega, by omega⟩) (And.intro (fun zh3 => ?_) (fun zh3 => ?_))
    · replace zh3 : w < (0 : Int) := zh3
      exfalso; omega
    · replace zh3 : ¬ (w < (0 : Int)) := zh3
      refine And.intro (show Inr w ∧ Inr 6 from ⟨⟨by omega, by omega⟩, ⟨by omega, by omega⟩⟩) (And.intro (fun zh4 => ?_) (fun zh4 => ?_))
      · replace zh4 : w < (6 : Int) := zh4
        change AW ev false 1 t_X6_property Q 20 [some (vR 19), some (vI m), some (vI w)] [] M
        refine AW.go pk_X6_property 11 9 rfl rfl ?_
        refine And.intro (show (0 ≤ (27 * m) + w ∧ (27 * m) + w < 540) from (by omega)) ?_
        refine And.intro rfl ?_
        exact zQ (M 20 ((27 * m) + w)) (by first | rfl | omega)
      · replace zh4 : ¬ (w < (6 : Int)) := zh4
        exfalso; omega
theorem c_X6_hopsOf {ev : Ev} {Q : Out → Mem → Prop} {M : Mem}  (m : Int) (zp0 : 0 ≤ m ∧ m < M 19 2) (zp1 : M 19 2 ≤ 20) (zQ : ∀ (r : Int), r = M 20 (27 * m + 5) → Q (.inl (some (vI r))) M) : AM ev false 2 t_X6_hopsOf [vR 19, vI m] M Q := by
  refine AM.of mt_X6_hopsOf (Nat.le_of_ble_eq_true rfl) ?_
  change AW ev false 2 t_X6_hopsOf Q 0 [some (vR 19), some (vI m)] [] M
  refine AW.go pk_X6_hopsOf 0 4 rfl rfl ?_
  change AW ev false 2 t_X6_hopsOf Q 3 [some (vR 19), some (vI m)] [vI 5, vI m, vR 19] M
  refine AW.callV (d' := 1) [vI m, vI 5] [] vm_X6_property rfl hX6_32 (okP_d pk_X6_hopsOf 3 3 (.invokevirtual 32) 3 rfl) (by decide) rfl (Nat.le_of_ble_eq_true rfl) ?_
  refine c_X6_property m 5 (by omega) (by omega) (by omega) (fun zr1 zzr1 => ?_)
  change AW ev false 2 t_X6_hopsOf Q 6 [some (vR 19), some (vI m)] [vI zr1] M
  refine AW.go pk_X6_hopsOf 4 1 rfl rfl ?_
  refine And.intro rfl ?_
  exact zQ zr1 (by first | rfl | omega)
theorem c_X6_hopPart {ev : Ev} {Q : Out → Mem → Prop} {M : Mem}  (m : Int) (j : Int) (w : Int) (zp0 : 0 ≤ m ∧ m < M 19 2) (zp1 : M 19 2 ≤ 20) (zp2 : 0 ≤ j ∧ j < 7) (zp3 : 0 ≤ w ∧ w < 3) (zQ : ∀ (r : Int), r = M 20 (27 * m + 6 + 3 * j + w) → Q (.inl (some (vI r))) M) : AM ev false 1 t_X6_hopPart [vR 19, vI m, vI j, vI w] M Q := by
  refine AM.of mt_X6_hopPart (Nat.le_of_ble_eq_true rfl) ?_
  change AW ev false 1 t_X6_hopPart Q 0 [some (vR 19), some (vI m), some (vI j), some (vI w)] [] M
  refine AW.go pk_X6_hopPart 0 3 rfl rfl ?_
  change AW ev false 1 t_X6_hopPart Q 2 [some (vR 19), some (vI m), some (vI j), some (vI w)] [vI m, vR 19] M
  refine AW.callV (d' := 0) [vI m] [] vm_X6_has rfl hX6_28 (okP_d pk_X6_hopPart 2 2 (.invokevirtual 28) 3 rfl) (by decide) rfl (Nat.le_of_ble_eq_true rfl) ?_
  refine c_X6_has m (by omega) (by omega) (fun zr1 zzr1 => ?_)
  change AW ev false 1 t_X6_hopPart Q 5 [some (vR 19), some (vI m), some (vI j), some (vI w)] [vI zr1] M
  refine AW.go pk_X6_hopPart 3 13 rfl rfl ?_
  refine And.intro (show Inr zr1 from ⟨by omega, by omega⟩) (And.intro (fun zh2 => ?_) (fun zh2 => ?_))
  · replace zh2 : zr1 = (0 : Int) := zh2
    exfalso; omega
  · replace zh2 : ¬ (zr1 = (0 : Int)) := zh2
    refine And.intro (show Inr j from ⟨by omega, by omega⟩) (And.intro (fun zh3 => ?_) (fun zh3 => ?_))
    · replace zh3 : j < (0 : Int) := zh3
      exfalso; omega
    · replace zh3 : ¬ (j < (0 : Int)) := zh3
      refine And.intro (show Inr j ∧ Inr 7 from ⟨⟨by omega, by omega⟩, ⟨by omega, by omega⟩⟩) (And.intro (fun zh4 => ?_) (fun zh4 => ?_))
      · replace zh4 : (7 : Int) ≤ j := zh4
        exfalso; omega
      · replace zh4 : ¬ ((7 : Int) ≤ j) := zh4
        refine And.intro (show Inr w from ⟨by omega, by omega⟩) (And.intro (fun zh5 => ?_) (fun zh5 => ?_))
        · replace zh5 : w < (0 : Int) := zh5
          exfalso; omega
        · replace zh5 : ¬ (w < (0 : Int)) := zh5
          refine And.intro (show Inr w ∧ Inr 3 from ⟨⟨by omega, by omega⟩, ⟨by omega, by omega⟩⟩) (And.intro (fun zh6 => ?_) (fun zh6 => ?_))
          · replace zh6 : w < (3 : Int) := zh6
            change AW ev false 1 t_X6_hopPart Q 29 [some (vR 19), some (vI m), some (vI j), some (vI w)] [] M
            refine AW.go pk_X6_hopPart 16 15 rfl rfl ?_
            refine And.intro (show (0 ≤ (((27 * m) + 6) + (3 * j)) + w ∧ (((27 * m) + 6) + (3 * j)) + w < 540) from (by omega)) ?_
            refine And.intro rfl ?_
            exact zQ (M 20 ((((27 * m) + 6) + (3 * j)) + w)) (by first | rfl | omega)
          · replace zh6 : ¬ (w < (3 : Int)) := zh6
            exfalso; omega
theorem c_X6_enter {ev : Ev} {Q : Out → Mem → Prop} {M : Mem}  (a : Int) (b : Int) (l : Int) (t : Int) (v : Int) (m : Int) (zp0 : M 19 2 = m) (zp1 : 0 ≤ m ∧ m < 20) (zQ : Q (.inl none) (upM (upM (upM (upM (upM (upM (upM M 20 (27 * m + 0) a) 20 (27 * m + 1) b) 20 (27 * m + 2) l) 20 (27 * m + 3) t) 20 (27 * m + 4) v) 20 (27 * m + 5) 0) 19 2 (m + 1))) : AM ev false 0 t_X6_enter [vR 19, vI a, vI b, vI l, vI t, vI v] M Q := by
  refine AM.of mt_X6_enter (Nat.le_of_ble_eq_true rfl) ?_
  change AW ev false 0 t_X6_enter Q 0 [some (vR 19), some (vI a), some (vI b), some (vI l), some (vI t), some (vI v), none] [] M
  refine AW.go pk_X6_enter 0 8 rfl rfl ?_
  refine And.intro (show Inr (M 19 2) from ⟨by omega, by omega⟩) (And.intro (fun zh1 => ?_) (fun zh1 => ?_))
  · replace zh1 : M 19 2 < (0 : Int) := zh1
    exfalso; omega
  · replace zh1 : ¬ (M 19 2 < (0 : Int)) := zh1
    refine And.intro (show Inr (M 19 2) ∧ Inr 20 from ⟨⟨by omega, by omega⟩, ⟨by omega, by omega⟩⟩) (And.intro (fun zh2 => ?_) (fun zh2 => ?_))
    · replace zh2 : M 19 2 < (20 : Int) := zh2
      change AW ev false 0 t_X6_enter Q 17 [some (vR 19), some (vI a), some (vI b), some (vI l), some (vI t), some (vI v), none] [] M
      refine AW.go pk_X6_enter 8 54 rfl rfl ?_
      refine And.intro (show 6 < mL t_X6_enter from (by decide)) ?_
      refine And.intro (show ((0 ≤ (27 * (M 19 2)) + 0 ∧ (27 * (M 19 2)) + 0 < 540) ∧ ((0 : Nat) = 0 ∨ a = 0 ∨ a = 1)) from ⟨by omega, Or.inl rfl⟩) ?_
      refine And.intro (show ((0 ≤ (27 * (M 19 2)) + 1 ∧ (27 * (M 19 2)) + 1 < 540) ∧ ((0 : Nat) = 0 ∨ b = 0 ∨ b = 1)) from ⟨by omega, Or.inl rfl⟩) ?_
      refine And.intro (show ((0 ≤ (27 * (M 19 2)) + 2 ∧ (27 * (M 19 2)) + 2 < 540) ∧ ((0 : Nat) = 0 ∨ l = 0 ∨ l = 1)) from ⟨by omega, Or.inl rfl⟩) ?_
      refine And.intro (show ((0 ≤ (27 * (M 19 2)) + 3 ∧ (27 * (M 19 2)) + 3 < 540) ∧ ((0 : Nat) = 0 ∨ t = 0 ∨ t = 1)) from ⟨by omega, Or.inl rfl⟩) ?_
      refine And.intro (show ((0 ≤ (27 * (M 19 2)) + 4 ∧ (27 * (M 19 2)) + 4 < 540) ∧ ((0 : Nat) = 0 ∨ v = 0 ∨ v = 1)) from ⟨by omega, Or.inl rfl⟩) ?_
      refine And.intro (show ((0 ≤ (27 * (M 19 2)) + 5 ∧ (27 * (M 19 2)) + 5 < 540) ∧ ((0 : Nat) = 0 ∨ (0 : Int) = 0 ∨ (0 : Int) = 1)) from ⟨by omega, Or.inl rfl⟩) ?_
      refine And.intro rfl ?_
      exact Eq.mpr (congrArg (Q _) (show (upM (upM (upM (upM (upM (upM (upM M 20 ((27 * (M 19 2)) + 0) a) 20 ((27 * (M 19 2)) + 1) b) 20 ((27 * (M 19 2)) + 2) l) 20 ((27 * (M 19 2)) + 3) t) 20 ((27 * (M 19 2)) + 4) v) 20 ((27 * (M 19 2)) + 5) 0) 19 2 ((M 19 2) + 1)) = (upM (upM (upM (upM (upM (upM (upM M 20 (27 * m + 0) a) 20 (27 * m + 1) b) 20 (27 * m + 2) l) 20 (27 * m + 3) t) 20 (27 * m + 4) v) 20 (27 * m + 5) 0) 19 2 (m + 1)) from by rw [zp0])) (zQ)
    · replace zh2 : ¬ (M 19 2 < (20 : Int)) := zh2
      exfalso; omega
theorem c_X6_isPlace {ev : Ev} {Q : Out → Mem → Prop} {M : Mem}  (s : Int) (t : Int) (zp0 : -2147483648 ≤ s ∧ s < 2147483648) (zp1 : -2147483648 ≤ t ∧ t < 2147483648) (zQ : ∀ (r : Int), (r = 0 ∨ r = 1) ∧ (r = 1 ↔ (0 ≤ s ∧ s < 8) ∧ 0 ≤ t ∧ t < 72) → Q (.inl (some (vI r))) M) : AM ev false 0 t_X6_isPlace [vI s, vI t] M Q := by
  refine AM.of mt_X6_isPlace (Nat.le_of_ble_eq_true rfl) ?_
  change AW ev false 0 t_X6_isPlace Q 0 [some (vI s), some (vI t)] [] M
  refine AW.go pk_X6_isPlace 0 12 rfl rfl ?_
  refine And.intro (show Inr s from ⟨by omega, by omega⟩) (And.intro (fun zh1 => ?_) (fun zh1 => ?_))
  · replace zh1 : s < (0 : Int) := zh1
    change AW ev false 0 t_X6_isPlace Q 24 [some (vI s), some (vI t)] [] M
    refine AW.go pk_X6_isPlace 12 2 rfl rfl ?_
    refine And.intro rfl ?_
    refine And.intro (show ((0 : Int) = 0 ∨ (0 : Int) = 1) from (by omega)) ?_
    exact zQ 0 (by first | rfl | omega)
  · replace zh1 : ¬ (s < (0 : Int)) := zh1
    refine And.intro (show Inr s ∧ Inr 8 from ⟨⟨by omega, by omega⟩, ⟨by omega, by omega⟩⟩) (And.intro (fun zh2 => ?_) (fun zh2 => ?_))
    · replace zh2 : (8 : Int) ≤ s := zh2
      change AW ev false 0 t_X6_isPlace Q 24 [some (vI s), some (vI t)] [] M
      refine AW.go pk_X6_isPlace 12 2 rfl rfl ?_
      refine And.intro rfl ?_
      refine And.intro (show ((0 : Int) = 0 ∨ (0 : Int) = 1) from (by omega)) ?_
      exact zQ 0 (by first | rfl | omega)
    · replace zh2 : ¬ ((8 : Int) ≤ s) := zh2
      refine And.intro (show Inr t from ⟨by omega, by omega⟩) (And.intro (fun zh3 => ?_) (fun zh3 => ?_))
      · replace zh3 : t < (0 : Int) := zh3
        change AW ev false 0 t_X6_isPlace Q 24 [some (vI s), some (vI t)] [] M
        refine AW.go pk_X6_isPlace 12 2 rfl rfl ?_
        refine And.intro rfl ?_
        refine And.intro (show ((0 : Int) = 0 ∨ (0 : Int) = 1) from (by omega)) ?_
        exact zQ 0 (by first | rfl | omega)
      · replace zh3 : ¬ (t < (0 : Int)) := zh3
        refine And.intro (show Inr t ∧ Inr 72 from ⟨⟨by omega, by omega⟩, ⟨by omega, by omega⟩⟩) (And.intro (fun zh4 => ?_) (fun zh4 => ?_))
        · replace zh4 : (72 : Int) ≤ t := zh4
          change AW ev false 0 t_X6_isPlace Q 24 [some (vI s), some (vI t)] [] M
          refine AW.go pk_X6_isPlace 12 2 rfl rfl ?_
          refine And.intro rfl ?_
          refine And.intro (show ((0 : Int) = 0 ∨ (0 : Int) = 1) from (by omega)) ?_
          exact zQ 0 (by first | rfl | omega)
        · replace zh4 : ¬ ((72 : Int) ≤ t) := zh4
          change AW ev false 0 t_X6_isPlace Q 25 [some (vI s), some (vI t)] [vI 1] M
          refine AW.go pk_X6_isPlace 13 1 rfl rfl ?_
          refine And.intro rfl ?_
          refine And.intro (show ((1 : Int) = 0 ∨ (1 : Int) = 1) from (by omega)) ?_
          exact zQ 1 (by first | rfl | omega)
theorem lz_book {ev : Ev} {Q : Out → Mem → Prop} {M : Mem}  (s : Int) (a : Int) (b : Int) (v : Int) (zp0 : 0 ≤ s ∧ s < 8) (zp1 : 0 ≤ a ∧ a ≤ b ∧ b ≤ 72) (zQ : Q (.inl none) (bkM M 21 s a b v)) : ∀ (n : Nat) (i : Int), i + n = b → (a ≤ i) → AW ev false 1 t_X6_bookTurns Q 3 [some (vR 19), some (vI s), some (vI a), some (vI b), some (vI v), some (vI i)] [] (bkM M 21 s a i v) := by
  intro n
  induction n with
  | zero =>
    intro i zn zv0
    refine AW.go pk_X6_bookTurns 2 6 rfl rfl ?_
    refine And.intro (show Inr i ∧ Inr b from ⟨⟨by omega, by omega⟩, ⟨by omega, by omega⟩⟩) (And.intro (fun zh1 => ?_) (fun zh1 => ?_))
    · replace zh1 : b ≤ i := zh1
      change AW ev false 1 t_X6_bookTurns Q 38 [some (vR 19), some (vI s), some (vI a), some (vI b), some (vI v), some (vI i)] [] (bkM M 21 s a i v)
      refine AW.go pk_X6_bookTurns 20 1 rfl rfl ?_
      refine And.intro rfl ?_
      exact Eq.mpr (congrArg (Q _) (show (bkM M 21 s a i v) = (bkM M 21 s a b v) from by rw [show i = b from by omega])) (zQ)
    · replace zh1 : ¬ (b ≤ i) := zh1
      exfalso; omega
  | succ n zih =>
    intro i zn zv0
    refine AW.go pk_X6_bookTurns 2 6 rfl rfl ?_
    refine And.intro (show Inr i ∧ Inr b from ⟨⟨by omega, by omega⟩, ⟨by omega, by omega⟩⟩) (And.intro (fun zh1 => ?_) (fun zh1 => ?_))
    · replace zh1 : b ≤ i := zh1
      exfalso; omega
    · replace zh1 : ¬ (b ≤ i) := zh1
      change AW ev false 1 t_X6_bookTurns Q 12 [some (vR 19), some (vI s), some (vI a), some (vI b), some (vI v), some (vI i)] [vI i, vI s] (bkM M 21 s a i v)
      refine AW.callS (d' := 0) [vI s, vI i] [] sm_X6_isPlace hX6_44 (okP_d pk_X6_bookTurns 7 12 (.invokestatic 44) 3 rfl) (by decide) rfl (Nat.le_of_ble_eq_true rfl) ?_
      refine c_X6_isPlace s i (by omega) (by omega) (fun zr2 zzr2 => ?_)
      change AW ev false 1 t_X6_bookTurns Q 15 [some (vR 19), some (vI s), some (vI a), some (vI b), some (vI v), some (vI i)] [vI zr2] (bkM M 21 s a i v)
      refine AW.go pk_X6_bookTurns 8 12 rfl rfl ?_
      refine And.intro (show Inr zr2 from ⟨by omega, by omega⟩) (And.intro (fun zh3 => ?_) (fun zh3 => ?_))
      · replace zh3 : zr2 = (0 : Int) := zh3
        exfalso; omega
      · replace zh3 : ¬ (zr2 = (0 : Int)) := zh3
        refine And.intro (show ((0 ≤ (72 * s) + i ∧ (72 * s) + i < 576) ∧ ((0 : Nat) = 0 ∨ v = 0 ∨ v = 1)) from ⟨by omega, Or.inl rfl⟩) ?_
        refine And.intro (show 5 < mL t_X6_bookTurns from (by decide)) ?_
        change AW ev false 1 t_X6_bookTurns Q 3 [some (vR 19), some (vI s), some (vI a), some (vI b), some (vI v), some (vI (i + 1))] [] (upM (bkM M 21 s a i v) 21 ((72 * s) + i) v)
        exact AW.mem (show (upM (bkM M 21 s a i v) 21 ((72 * s) + i) v) = (bkM M 21 s a (i + 1) v) from by funext k j; simp only [upM, bkM]; grind) (zih (i + 1) (by omega) (by omega))
theorem c_X6_bookTurns {ev : Ev} {Q : Out → Mem → Prop} {M : Mem}  (s : Int) (a : Int) (b : Int) (v : Int) (zp0 : 0 ≤ s ∧ s < 8) (zp1 : 0 ≤ a ∧ a ≤ b ∧ b ≤ 72) (zQ : Q (.inl none) (bkM M 21 s a b v)) : AM ev false 1 t_X6_bookTurns [vR 19, vI s, vI a, vI b, vI v] M Q := by
  refine AM.of mt_X6_bookTurns (Nat.le_of_ble_eq_true rfl) ?_
  change AW ev false 1 t_X6_bookTurns Q 0 [some (vR 19), some (vI s), some (vI a), some (vI b), some (vI v), none] [] M
  refine AW.go pk_X6_bookTurns 0 2 rfl rfl ?_
  refine And.intro (show 5 < mL t_X6_bookTurns from (by decide)) ?_
  change AW ev false 1 t_X6_bookTurns Q 3 [some (vR 19), some (vI s), some (vI a), some (vI b), some (vI v), some (vI a)] [] M
  exact AW.mem (show M = (bkM M 21 s a a v) from by funext k j; simp only [bkM]; grind) (lz_book s a b v zp0 zp1 zQ (b - a).toNat a (by omega) (by omega))
theorem c_X6_bookedBy {ev : Ev} {Q : Out → Mem → Prop} {M : Mem}  (s : Int) (t : Int) (zp0 : 0 ≤ s ∧ s < 8) (zp1 : 0 ≤ t ∧ t < 72) (zQ : ∀ (r : Int), r = M 21 (72 * s + t) → Q (.inl (some (vI r))) M) : AM ev false 1 t_X6_bookedBy [vR 19, vI s, vI t] M Q := by
  refine AM.of mt_X6_bookedBy (Nat.le_of_ble_eq_true rfl) ?_
  change AW ev false 1 t_X6_bookedBy Q 0 [some (vR 19), some (vI s), some (vI t)] [] M
  refine AW.go pk_X6_bookedBy 0 3 rfl rfl ?_
  change AW ev false 1 t_X6_bookedBy Q 2 [some (vR 19), some (vI s), some (vI t)] [vI t, vI s] M
  refine AW.callS (d' := 0) [vI s, vI t] [] sm_X6_isPlace hX6_44 (okP_d pk_X6_bookedBy 2 2 (.invokestatic 44) 3 rfl) (by decide) rfl (Nat.le_of_ble_eq_true rfl) ?_
  refine c_X6_isPlace s t (by omega) (by omega) (fun zr1 zzr1 => ?_)
  change AW ev false 1 t_X6_bookedBy Q 5 [some (vR 19), some (vI s), some (vI t)] [vI zr1] M
  refine AW.go pk_X6_bookedBy 3 10 rfl rfl ?_
  refine And.intro (show Inr zr1 from ⟨by omega, by omega⟩) (And.intro (fun zh2 => ?_) (fun zh2 => ?_))
  · replace zh2 : zr1 = (0 : Int) := zh2
    exfalso; omega
  · replace zh2 : ¬ (zr1 = (0 : Int)) := zh2
    refine And.intro (show (0 ≤ (72 * s) + t ∧ (72 * s) + t < 576) from (by omega)) ?_
    change AW ev false 1 t_X6_bookedBy Q 23 [some (vR 19), some (vI s), some (vI t)] [vI (M 21 ((72 * s) + t))] M
    refine AW.go pk_X6_bookedBy 14 1 rfl rfl ?_
    refine And.intro rfl ?_
    exact zQ (M 21 ((72 * s) + t)) (by first | rfl | omega)
theorem c_X6_addHop {ev : Ev} {Q : Out → Mem → Prop} {M : Mem}  (a : Int) (b : Int) (t : Int) (m : Int) (h : Int) (l : Int) (zp0 : M 19 2 = m + 1) (zp1 : 0 ≤ m ∧ m < 20) (zp2 : M 20 (27 * m + 5) = h) (zp3 : 0 ≤ h ∧ h < 7) (zp4 : M 20 (27 * m + 2) = l) (zp5 : 1 ≤ l ∧ l ≤ 6) (zp6 : 0 ≤ t ∧ t + l ≤ 72) (zp7 : 0 ≤ a ∧ a < 8) (zp8 : 0 ≤ b ∧ b < 8) (zQ : Q (.inl none) (bkM (bkM (upM (upM (upM (upM M 20 (27 * m + 6 + 3 * h) a) 20 (27 * m + 6 + 3 * h + 1) b) 20 (27 * m + 6 + 3 * h + 2) t) 20 (27 * m + 5) (h + 1)) 21 a t (t + l) m) 21 b t (t + l) m)) : AM ev false 3 t_X6_addHop [vR 19, vI a, vI b, vI t] M Q := by
  refine AM.of mt_X6_addHop (Nat.le_of_ble_eq_true rfl) ?_
  change AW ev false 3 t_X6_addHop Q 0 [some (vR 19), some (vI a), some (vI b), some (vI t), none, none, none, none, none] [] M
  refine AW.go pk_X6_addHop 0 8 rfl rfl ?_
  refine And.intro (show 4 < mL t_X6_addHop from (by decide)) ?_
  change AW ev false 3 t_X6_addHop Q 11 [some (vR 19), some (vI a), some (vI b), some (vI t), some (vI ((M 19 2) - 1)), none, none, none, none] [vI ((M 19 2) - 1), vR 19] M
  refine AW.callV (d' := 2) [vI ((M 19 2) - 1)] [] vm_X6_hopsOf rfl hX6_36 (okP_d pk_X6_addHop 7 11 (.invokevirtual 36) 3 rfl) (by decide) rfl (Nat.le_of_ble_eq_true rfl) ?_
  refine c_X6_hopsOf ((M 19 2) - 1) (by omega) (by omega) (fun w1 zw1 => ?_)
  change AW ev false 3 t_X6_addHop Q 14 [some (vR 19), some (vI a), some (vI b), some (vI t), some (vI ((M 19 2) - 1)), none, none, none, none] [vI w1] M
  have zm : M 19 2 - 1 = m := by omega
  have zwh : w1 = h := by rw [zw1, zm, zp2]
  rw [zm, zwh]
  change AW ev false 3 t_X6_addHop Q 14 [some (vR 19), some (vI a), some (vI b), some (vI t), some (vI m), none, none, none, none] [vI h] M
  refine AW.go pk_X6_addHop 8 4 rfl rfl ?_
  refine And.intro (show 5 < mL t_X6_addHop from (by decide)) ?_
  change AW ev false 3 t_X6_addHop Q 19 [some (vR 19), some (vI a), some (vI b), some (vI t), some (vI m), some (vI h), none, none, none] [vI m, vR 19] M
  refine AW.callV (d' := 0) [vI m] [] vm_X6_has rfl hX6_28 (okP_d pk_X6_addHop 11 19 (.invokevirtual 28) 3 rfl) (by decide) rfl (Nat.le_of_ble_eq_true rfl) ?_
  refine c_X6_has m (by omega) (by omega) (fun zr1 zzr1 => ?_)
  change AW ev false 3 t_X6_addHop Q 22 [some (vR 19), some (vI a), some (vI b), some (vI t), some (vI m), some (vI h), none, none, none] [vI zr1] M
  refine AW.go pk_X6_addHop 12 7 rfl rfl ?_
  refine And.intro (show Inr zr1 from ⟨by omega, by omega⟩) (And.intro (fun zh2 => ?_) (fun zh2 => ?_))
  · replace zh2 : zr1 = (0 : Int) := zh2
    exfalso; omega
  · replace zh2 : ¬ (zr1 = (0 : Int)) := zh2
    refine And.intro (show Inr h from ⟨by omega, by omega⟩) (And.intro (fun zh3 => ?_) (fun zh3 => ?_))
    · replace zh3 : h < (0 : Int) := zh3
      exfalso; omega
    · replace zh3 : ¬ (h < (0 : Int)) := zh3
      refine And.intro (show Inr h ∧ Inr 7 from ⟨⟨by omega, by omega⟩, ⟨by omega, by omega⟩⟩) (And.intro (fun zh4 => ?_) (fun zh4 => ?_))
      · replace zh4 : h < (7 : Int) := zh4
        change AW ev false 3 t_X6_addHop Q 38 [some (vR 19), some (vI a), some (vI b), some (vI t), some (vI m), some (vI h), none, none, none] [] M
        refine AW.go pk_X6_addHop 19 54 rfl rfl ?_
        refine And.intro (show 6 < mL t_X6_addHop from (by decide)) ?_
        refine And.intro (show 7 < mL t_X6_addHop from (by decide)) ?_
        refine And.intro (show ((0 ≤ ((27 * m) + 6) + (3 * h) ∧ ((27 * m) + 6) + (3 * h) < 540) ∧ ((0 : Nat) = 0 ∨ a = 0 ∨ a = 1)) from ⟨by omega, Or.inl rfl⟩) ?_
        refine And.intro (show ((0 ≤ (((27 * m) + 6) + (3 * h)) + 1 ∧ (((27 * m) + 6) + (3 * h)) + 1 < 540) ∧ ((0 : Nat) = 0 ∨ b = 0 ∨ b = 1)) from ⟨by omega, Or.inl rfl⟩) ?_
        refine And.intro (show ((0 ≤ (((27 * m) + 6) + (3 * h)) + 2 ∧ (((27 * m) + 6) + (3 * h)) + 2 < 540) ∧ ((0 : Nat) = 0 ∨ t = 0 ∨ t = 1)) from ⟨by omega, Or.inl rfl⟩) ?_
        refine And.intro (show ((0 ≤ (27 * m) + 5 ∧ (27 * m) + 5 < 540) ∧ ((0 : Nat) = 0 ∨ h + 1 = 0 ∨ h + 1 = 1)) from ⟨by omega, Or.inl rfl⟩) ?_
        refine And.intro (show (0 ≤ (27 * m) + 2 ∧ (27 * m) + 2 < 540) from (by omega)) ?_
        refine And.intro (show 8 < mL t_X6_addHop from (by decide)) ?_
        change AW ev false 3 t_X6_addHop Q 118 [some (vR 19), some (vI a), some (vI b), some (vI t), some (vI m), some (vI h), some (vI (27 * m)), some (vI (((27 * m) + 6) + (3 * h))), some (vI (t + ((upM (upM (upM (upM M 20 (((27 * m) + 6) + (3 * h)) a) 20 ((((27 * m) + 6) + (3 * h)) + 1) b) 20 ((((27 * m) + 6) + (3 * h)) + 2) t) 20 ((27 * m) + 5) (h + 1)) 20 ((27 * m) + 2))))] [vI m, vI (t + ((upM (upM (upM (upM M 20 (((27 * m) + 6) + (3 * h)) a) 20 ((((27 * m) + 6) + (3 * h)) + 1) b) 20 ((((27 * m) + 6) + (3 * h)) + 2) t) 20 ((27 * m) + 5) (h + 1)) 20 ((27 * m) + 2))), vI t, vI a, vR 19] (upM (upM (upM (upM M 20 (((27 * m) + 6) + (3 * h)) a) 20 ((((27 * m) + 6) + (3 * h)) + 1) b) 20 ((((27 * m) + 6) + (3 * h)) + 2) t) 20 ((27 * m) + 5) (h + 1))
        have zl : (upM (upM (upM (upM M 20 (((27 * m) + 6) + (3 * h)) a) 20 ((((27 * m) + 6) + (3 * h)) + 1) b) 20 ((((27 * m) + 6) + (3 * h)) + 2) t) 20 ((27 * m) + 5) (h + 1)) 20 ((27 * m) + 2) = l := by simp only [upM]; grind
        rw [zl]
        change AW ev false 3 t_X6_addHop Q 118 [some (vR 19), some (vI a), some (vI b), some (vI t), some (vI m), some (vI h), some (vI (27 * m)), some (vI (((27 * m) + 6) + (3 * h))), some (vI (t + l))] [vI m, vI (t + l), vI t, vI a, vR 19] (upM (upM (upM (upM M 20 (((27 * m) + 6) + (3 * h)) a) 20 ((((27 * m) + 6) + (3 * h)) + 1) b) 20 ((((27 * m) + 6) + (3 * h)) + 2) t) 20 ((27 * m) + 5) (h + 1))
        refine AW.callV (d' := 1) [vI a, vI t, vI (t + l), vI m] [] vm_X6_bookTurns rfl hX6_40 (okP_d pk_X6_addHop 73 118 (.invokevirtual 40) 3 rfl) (by decide) rfl (Nat.le_of_ble_eq_true rfl) ?_
        refine c_X6_bookTurns a t (t + l) m (by omega) (by omega) ?_
        change AW ev false 3 t_X6_addHop Q 121 [some (vR 19), some (vI a), some (vI b), some (vI t), some (vI m), some (vI h), some (vI (27 * m)), some (vI (((27 * m) + 6) + (3 * h))), some (vI (t + l))] [] (bkM (upM (upM (upM (upM M 20 (((27 * m) + 6) + (3 * h)) a) 20 ((((27 * m) + 6) + (3 * h)) + 1) b) 20 ((((27 * m) + 6) + (3 * h)) + 2) t) 20 ((27 * m) + 5) (h + 1)) 21 a t (t + l) m)
        refine AW.go pk_X6_addHop 74 6 rfl rfl ?_
        change AW ev false 3 t_X6_addHop Q 128 [some (vR 19), some (vI a), some (vI b), some (vI t), some (vI m), some (vI h), some (vI (27 * m)), some (vI (((27 * m) + 6) + (3 * h))), some (vI (t + l))] [vI m, vI (t + l), vI t, vI b, vR 19] (bkM (upM (upM (upM (upM M 20 (((27 * m) + 6) + (3 * h)) a) 20 ((((27 * m) + 6) + (3 * h)) + 1) b) 20 ((((27 * m) + 6) + (3 * h)) + 2) t) 20 ((27 * m) + 5) (h + 1)) 21 a t (t + l) m)
        refine AW.callV (d' := 1) [vI b, vI t, vI (t + l), vI m] [] vm_X6_bookTurns rfl hX6_40 (okP_d pk_X6_addHop 79 128 (.invokevirtual 40) 3 rfl) (by decide) rfl (Nat.le_of_ble_eq_true rfl) ?_
        refine c_X6_bookTurns b t (t + l) m (by omega) (by omega) ?_
        change AW ev false 3 t_X6_addHop Q 131 [some (vR 19), some (vI a), some (vI b), some (vI t), some (vI m), some (vI h), some (vI (27 * m)), some (vI (((27 * m) + 6) + (3 * h))), some (vI (t + l))] [] (bkM (bkM (upM (upM (upM (upM M 20 (((27 * m) + 6) + (3 * h)) a) 20 ((((27 * m) + 6) + (3 * h)) + 1) b) 20 ((((27 * m) + 6) + (3 * h)) + 2) t) 20 ((27 * m) + 5) (h + 1)) 21 a t (t + l) m) 21 b t (t + l) m)
        refine AW.go pk_X6_addHop 80 1 rfl rfl ?_
        refine And.intro rfl ?_
        exact Eq.mpr (congrArg (Q _) (show (bkM (bkM (upM (upM (upM (upM M 20 (((27 * m) + 6) + (3 * h)) a) 20 ((((27 * m) + 6) + (3 * h)) + 1) b) 20 ((((27 * m) + 6) + (3 * h)) + 2) t) 20 ((27 * m) + 5) (h + 1)) 21 a t (t + l) m) 21 b t (t + l) m) = (bkM (bkM (upM (upM (upM (upM M 20 (27 * m + 6 + 3 * h) a) 20 (27 * m + 6 + 3 * h + 1) b) 20 (27 * m + 6 + 3 * h + 2) t) 20 (27 * m + 5) (h + 1)) 21 a t (t + l) m) 21 b t (t + l) m) from by rfl)) (zQ)
      · replace zh4 : ¬ (h < (7 : Int)) := zh4
        exfalso; omega
theorem lz_remove {ev : Ev} {Q : Out → Mem → Prop} {M : Mem}  (m : Int) (zp0 : GInv M) (zp1 : 0 ≤ m ∧ m < M 19 2) (zQ : Q (.inl none) (rmM (upM (cpM M 20 (27 * (m + 1)) (27 * m) (27 * (M 19 2 - (m + 1)))) 19 2 (M 19 2 - 1)) m 576)) : ∀ (n : Nat) (i : Int), i + n = 576 → (0 ≤ i) → AW ev false 1 t_X6_remove Q 53 [some (vR 19), some (vI m), some (vI (m + 1)), some (vI i)] [] (rmM (upM (cpM M 20 (27 * (m + 1)) (27 * m) (27 * (M 19 2 - (m + 1)))) 19 2 (M 19 2 - 1)) m i) := by
  intro n
  induction n with
  | zero =>
    intro i zn zv0
    refine AW.go pk_X6_remove 34 3 rfl rfl ?_
    refine And.intro (show Inr i ∧ Inr 576 from ⟨⟨by omega, by omega⟩, ⟨by omega, by omega⟩⟩) (And.intro (fun zh1 => ?_) (fun zh1 => ?_))
    · replace zh1 : (576 : Int) ≤ i := zh1
      change AW ev false 1 t_X6_remove Q 106 [some (vR 19), some (vI m), some (vI (m + 1)), some (vI i)] [] (rmM (upM (cpM M 20 (27 * (m + 1)) (27 * m) (27 * (M 19 2 - (m + 1)))) 19 2 (M 19 2 - 1)) m i)
      refine AW.go pk_X6_remove 65 1 rfl rfl ?_
      refine And.intro rfl ?_
      exact Eq.mpr (congrArg (Q _) (show (rmM (upM (cpM M 20 (27 * (m + 1)) (27 * m) (27 * (M 19 2 - (m + 1)))) 19 2 (M 19 2 - 1)) m i) = (rmM (upM (cpM M 20 (27 * (m + 1)) (27 * m) (27 * (M 19 2 - (m + 1)))) 19 2 (M 19 2 - 1)) m 576) from by rw [show i = 576 from by omega])) (zQ)
    · replace zh1 : ¬ ((576 : Int) ≤ i) := zh1
      exfalso; omega
  | succ n zih =>
    intro i zn zv0
    have zrd : i < 576 → rmM (upM (cpM M 20 (27 * (m + 1)) (27 * m) (27 * (M 19 2 - (m + 1)))) 19 2 (M 19 2 - 1)) m i 21 i = M 21 i := fun _ => by unfold rmM; rw [if_neg (by omega)]; rfl
    have zrb := zp0.2.2 i (by omega) (by omega)
    replace zrd := zrd (by omega)
    have zs := zp0.1
    refine AW.go pk_X6_remove 34 3 rfl rfl ?_
    refine And.intro (show Inr i ∧ Inr 576 from ⟨⟨by omega, by omega⟩, ⟨by omega, by omega⟩⟩) (And.intro (fun zh1 => ?_) (fun zh1 => ?_))
    · replace zh1 : (576 : Int) ≤ i := zh1
      exfalso; omega
    · replace zh1 : ¬ ((576 : Int) ≤ i) := zh1
      change AW ev false 1 t_X6_remove Q 60 [some (vR 19), some (vI m), some (vI (m + 1)), some (vI i)] [] (rmM (upM (cpM M 20 (27 * (m + 1)) (27 * m) (27 * (M 19 2 - (m + 1)))) 19 2 (M 19 2 - 1)) m i)
      have zrd : rmM (upM (cpM M 20 (27 * (m + 1)) (27 * m) (27 * (M 19 2 - (m + 1)))) 19 2 (M 19 2 - 1)) m i 21 i = M 21 i := by unfold rmM; rw [if_neg (by omega)]; rfl
      have zrb := zp0.2.2 i (by omega) (by omega)
      refine AW.go pk_X6_remove 37 12 rfl rfl ?_
      refine And.intro (show (0 ≤ i ∧ i < 576) from (by omega)) ?_
      refine And.intro (show Inr ((rmM (upM (cpM M 20 (27 * (m + 1)) (27 * m) (27 * (M 19 2 - (m + 1)))) 19 2 (M 19 2 - 1)) m i) 21 i) ∧ Inr m from ⟨⟨by omega, by omega⟩, ⟨by omega, by omega⟩⟩) (And.intro (fun zh2 => ?_) (fun zh2 => ?_))
      · replace zh2 : (rmM (upM (cpM M 20 (27 * (m + 1)) (27 * m) (27 * (M 19 2 - (m + 1)))) 19 2 (M 19 2 - 1)) m i) 21 i ≠ m := zh2
        change AW ev false 1 t_X6_remove Q 80 [some (vR 19), some (vI m), some (vI (m + 1)), some (vI i)] [] (rmM (upM (cpM M 20 (27 * (m + 1)) (27 * m) (27 * (M 19 2 - (m + 1)))) 19 2 (M 19 2 - 1)) m i)
        refine AW.go pk_X6_remove 49 16 rfl rfl ?_
        refine And.intro (show (0 ≤ i ∧ i < 576) from (by omega)) ?_
        refine And.intro (show Inr ((rmM (upM (cpM M 20 (27 * (m + 1)) (27 * m) (27 * (M 19 2 - (m + 1)))) 19 2 (M 19 2 - 1)) m i) 21 i) ∧ Inr m from ⟨⟨by omega, by omega⟩, ⟨by omega, by omega⟩⟩) (And.intro (fun zh3 => ?_) (fun zh3 => ?_))
        · replace zh3 : (rmM (upM (cpM M 20 (27 * (m + 1)) (27 * m) (27 * (M 19 2 - (m + 1)))) 19 2 (M 19 2 - 1)) m i) 21 i ≤ m := zh3
          change AW ev false 1 t_X6_remove Q 100 [some (vR 19), some (vI m), some (vI (m + 1)), some (vI i)] [] (rmM (upM (cpM M 20 (27 * (m + 1)) (27 * m) (27 * (M 19 2 - (m + 1)))) 19 2 (M 19 2 - 1)) m i)
          refine AW.go pk_X6_remove 63 2 rfl rfl ?_
          refine And.intro (show 3 < mL t_X6_remove from (by decide)) ?_
          change AW ev false 1 t_X6_remove Q 53 [some (vR 19), some (vI m), some (vI (m + 1)), some (vI (i + 1))] [] (rmM (upM (cpM M 20 (27 * (m + 1)) (27 * m) (27 * (M 19 2 - (m + 1)))) 19 2 (M 19 2 - 1)) m i)
          exact AW.mem (show (rmM (upM (cpM M 20 (27 * (m + 1)) (27 * m) (27 * (M 19 2 - (m + 1)))) 19 2 (M 19 2 - 1)) m i) = (rmM (upM (cpM M 20 (27 * (m + 1)) (27 * m) (27 * (M 19 2 - (m + 1)))) 19 2 (M 19 2 - 1)) m (i + 1)) from by first | exact rm_s1 (by omega) (by omega) | exact rm_s2 (by omega) (by omega) | exact rm_s3 (by omega) (by omega)) (zih (i + 1) (by omega) (by omega))
        · replace zh3 : ¬ ((rmM (upM (cpM M 20 (27 * (m + 1)) (27 * m) (27 * (M 19 2 - (m + 1)))) 19 2 (M 19 2 - 1)) m i) 21 i ≤ m) := zh3
          refine And.intro (show (0 ≤ i ∧ i < 576) from (by omega)) ?_
          refine And.intro (show ((0 ≤ i ∧ i < 576) ∧ ((0 : Nat) = 0 ∨ ((rmM (upM (cpM M 20 (27 * (m + 1)) (27 * m) (27 * (M 19 2 - (m + 1)))) 19 2 (M 19 2 - 1)) m i) 21 i) - 1 = 0 ∨ ((rmM (upM (cpM M 20 (27 * (m + 1)) (27 * m) (27 * (M 19 2 - (m + 1)))) 19 2 (M 19 2 - 1)) m i) 21 i) - 1 = 1)) from ⟨by omega, Or.inl rfl⟩) ?_
          refine And.intro (show 3 < mL t_X6_remove from (by decide)) ?_
          change AW ev false 1 t_X6_remove Q 53 [some (vR 19), some (vI m), some (vI (m + 1)), some (vI (i + 1))] [] (upM (rmM (upM (cpM M 20 (27 * (m + 1)) (27 * m) (27 * (M 19 2 - (m + 1)))) 19 2 (M 19 2 - 1)) m i) 21 i (((rmM (upM (cpM M 20 (27 * (m + 1)) (27 * m) (27 * (M 19 2 - (m + 1)))) 19 2 (M 19 2 - 1)) m i) 21 i) - 1))
          exact AW.mem (show (upM (rmM (upM (cpM M 20 (27 * (m + 1)) (27 * m) (27 * (M 19 2 - (m + 1)))) 19 2 (M 19 2 - 1)) m i) 21 i (((rmM (upM (cpM M 20 (27 * (m + 1)) (27 * m) (27 * (M 19 2 - (m + 1)))) 19 2 (M 19 2 - 1)) m i) 21 i) - 1)) = (rmM (upM (cpM M 20 (27 * (m + 1)) (27 * m) (27 * (M 19 2 - (m + 1)))) 19 2 (M 19 2 - 1)) m (i + 1)) from by first | exact rm_s1 (by omega) (by omega) | exact rm_s2 (by omega) (by omega) | exact rm_s3 (by omega) (by omega)) (zih (i + 1) (by omega) (by omega))
      · replace zh2 : ¬ ((rmM (upM (cpM M 20 (27 * (m + 1)) (27 * m) (27 * (M 19 2 - (m + 1)))) 19 2 (M 19 2 - 1)) m i) 21 i ≠ m) := zh2
        refine And.intro (show ((0 ≤ i ∧ i < 576) ∧ ((0 : Nat) = 0 ∨ (-1 : Int) = 0 ∨ (-1 : Int) = 1)) from ⟨by omega, Or.inl rfl⟩) ?_
        change AW ev false 1 t_X6_remove Q 100 [some (vR 19), some (vI m), some (vI (m + 1)), some (vI i)] [] (upM (rmM (upM (cpM M 20 (27 * (m + 1)) (27 * m) (27 * (M 19 2 - (m + 1)))) 19 2 (M 19 2 - 1)) m i) 21 i (-1))
        refine AW.go pk_X6_remove 63 2 rfl rfl ?_
        refine And.intro (show 3 < mL t_X6_remove from (by decide)) ?_
        change AW ev false 1 t_X6_remove Q 53 [some (vR 19), some (vI m), some (vI (m + 1)), some (vI (i + 1))] [] (upM (rmM (upM (cpM M 20 (27 * (m + 1)) (27 * m) (27 * (M 19 2 - (m + 1)))) 19 2 (M 19 2 - 1)) m i) 21 i (-1))
        exact AW.mem (show (upM (rmM (upM (cpM M 20 (27 * (m + 1)) (27 * m) (27 * (M 19 2 - (m + 1)))) 19 2 (M 19 2 - 1)) m i) 21 i (-1)) = (rmM (upM (cpM M 20 (27 * (m + 1)) (27 * m) (27 * (M 19 2 - (m + 1)))) 19 2 (M 19 2 - 1)) m (i + 1)) from by first | exact rm_s1 (by omega) (by omega) | exact rm_s2 (by omega) (by omega) | exact rm_s3 (by omega) (by omega)) (zih (i + 1) (by omega) (by omega))
theorem c_X6_remove {ev : Ev} {Q : Out → Mem → Prop} {M : Mem}  (m : Int) (zp0 : GInv M) (zp1 : 0 ≤ m ∧ m < M 19 2) (zQ : Q (.inl none) (rmM (upM (cpM M 20 (27 * (m + 1)) (27 * m) (27 * (M 19 2 - (m + 1)))) 19 2 (M 19 2 - 1)) m 576)) : AM ev false 1 t_X6_remove [vR 19, vI m] M Q := by
  have zs := zp0.1
  refine AM.of mt_X6_remove (Nat.le_of_ble_eq_true rfl) ?_
  change AW ev false 1 t_X6_remove Q 0 [some (vR 19), some (vI m), none, none] [] M
  refine AW.go pk_X6_remove 0 3 rfl rfl ?_
  change AW ev false 1 t_X6_remove Q 2 [some (vR 19), some (vI m), none, none] [vI m, vR 19] M
  refine AW.callV (d' := 0) [vI m] [] vm_X6_has rfl hX6_28 (okP_d pk_X6_remove 2 2 (.invokevirtual 28) 3 rfl) (by decide) rfl (Nat.le_of_ble_eq_true rfl) ?_
  refine c_X6_has m (by omega) (by omega) (fun zr1 zzr1 => ?_)
  change AW ev false 1 t_X6_remove Q 5 [some (vR 19), some (vI m), none, none] [vI zr1] M
  refine AW.go pk_X6_remove 3 2 rfl rfl ?_
  refine And.intro (show Inr zr1 from ⟨by omega, by omega⟩) (And.intro (fun zh2 => ?_) (fun zh2 => ?_))
  · replace zh2 : zr1 ≠ (0 : Int) := zh2
    change AW ev false 1 t_X6_remove Q 9 [some (vR 19), some (vI m), none, none] [] M
    refine AW.go pk_X6_remove 5 21 rfl rfl ?_
    refine And.intro (show 2 < mL t_X6_remove from (by decide)) ?_
    change AW ev false 1 t_X6_remove Q 38 [some (vR 19), some (vI m), some (vI (m + 1)), none] [vI (27 * ((M 19 2) - (m + 1))), vI (27 * m), vR 20, vI (27 * (m + 1)), vR 20] M
    refine AW.acopy rfl (bm 886 _ (by decide +kernel) (by decide +kernel)) (okP_d pk_X6_remove 25 38 (.invokestatic 48) 3 rfl) (by decide) (Nat.le_of_ble_eq_true rfl) (by omega) (by omega) (by omega) (by omega) (by omega) ?_
    change AW ev false 1 t_X6_remove Q 41 [some (vR 19), some (vI m), some (vI (m + 1)), none] [] (cpM M 20 (27 * (m + 1)) (27 * m) (27 * ((M 19 2) - (m + 1))))
    refine AW.go pk_X6_remove 26 8 rfl rfl ?_
    refine And.intro (show 3 < mL t_X6_remove from (by decide)) ?_
    change AW ev false 1 t_X6_remove Q 53 [some (vR 19), some (vI m), some (vI (m + 1)), some (vI 0)] [] (upM (cpM M 20 (27 * (m + 1)) (27 * m) (27 * ((M 19 2) - (m + 1)))) 19 2 ((M 19 2) - 1))
    exact AW.mem (show (upM (cpM M 20 (27 * (m + 1)) (27 * m) (27 * ((M 19 2) - (m + 1)))) 19 2 ((M 19 2) - 1)) = (rmM (upM (cpM M 20 (27 * (m + 1)) (27 * m) (27 * (M 19 2 - (m + 1)))) 19 2 (M 19 2 - 1)) m 0) from by funext k j; simp only [rmM]; grind) (lz_remove m zp0 zp1 zQ 576 0 (by omega) (by omega))
  · replace zh2 : ¬ (zr1 ≠ (0 : Int)) := zh2
    exfalso; omega
theorem lz_busy {ev : Ev} {Q : Out → Mem → Prop} {M : Mem}  (s : Int) (zp0 : 0 ≤ s ∧ s < 8) (zp1 : ∀ i, 0 ≤ i → i < 576 → -1 ≤ M 21 i ∧ M 21 i < 20)  : ∀ (n : Nat) (i : Int) (c : Int), i + n = 72 → (0 ≤ i) → (∀ r : Int, r = bzT (fun t => M 21 (72 * s + t)) n i c → Q (.inl (some (vI r))) M) → AW ev false 2 t_X6_busyTurns Q 4 [some (vR 19), some (vI s), some (vI c), some (vI i)] [] M := by
  intro n
  induction n with
  | zero =>
    intro i c zn zv0 zv1
    refine AW.go pk_X6_busyTurns 4 7 rfl rfl ?_
    refine And.intro (show Inr i ∧ Inr 72 from ⟨⟨by omega, by omega⟩, ⟨by omega, by omega⟩⟩) (And.intro (fun zh1 => ?_) (fun zh1 => ?_))
    · replace zh1 : (72 : Int) ≤ i := zh1
      change AW ev false 2 t_X6_busyTurns Q 29 [some (vR 19), some (vI s), some (vI c), some (vI i)] [] M
      refine AW.go pk_X6_busyTurns 16 2 rfl rfl ?_
      refine And.intro rfl ?_
      exact zv1 _ rfl
    · replace zh1 : ¬ ((72 : Int) ≤ i) := zh1
      exfalso; omega
  | succ n zih =>
    intro i c zn zv0 zv1
    refine AW.go pk_X6_busyTurns 4 7 rfl rfl ?_
    refine And.intro (show Inr i ∧ Inr 72 from ⟨⟨by omega, by omega⟩, ⟨by omega, by omega⟩⟩) (And.intro (fun zh1 => ?_) (fun zh1 => ?_))
    · replace zh1 : (72 : Int) ≤ i := zh1
      exfalso; omega
    · replace zh1 : ¬ ((72 : Int) ≤ i) := zh1
      change AW ev false 2 t_X6_busyTurns Q 13 [some (vR 19), some (vI s), some (vI c), some (vI i)] [vI i, vI s, vR 19] M
      refine AW.callV (d' := 1) [vI s, vI i] [] vm_X6_bookedBy rfl hX6_54 (okP_d pk_X6_busyTurns 10 13 (.invokevirtual 54) 3 rfl) (by decide) rfl (Nat.le_of_ble_eq_true rfl) ?_
      refine c_X6_bookedBy s i (by omega) (by omega) (fun w1 zw1 => ?_)
      have zb := zp1 (72 * s + i) (by omega) (by omega)
      change AW ev false 2 t_X6_busyTurns Q 16 [some (vR 19), some (vI s), some (vI c), some (vI i)] [vI w1] M
      refine AW.go pk_X6_busyTurns 11 5 rfl rfl ?_
      refine And.intro (show Inr w1 ∧ Inr (-1) from ⟨⟨by omega, by omega⟩, ⟨by omega, by omega⟩⟩) (And.intro (fun zh2 => ?_) (fun zh2 => ?_))
      · replace zh2 : w1 = (-1 : Int) := zh2
        change AW ev false 2 t_X6_busyTurns Q 23 [some (vR 19), some (vI s), some (vI c), some (vI i)] [] M
        refine AW.go pk_X6_busyTurns 14 2 rfl rfl ?_
        refine And.intro (show 3 < mL t_X6_busyTurns from (by decide)) ?_
        change AW ev false 2 t_X6_busyTurns Q 4 [some (vR 19), some (vI s), some (vI c), some (vI (i + 1))] [] M
        exact zih (i + 1) c (by omega) (by omega) (fun r zr => zv1 r (by rw [zr]; conv => rhs; unfold bzT; first | rw [if_pos (by omega)] | rw [if_neg (by omega)]))
      · replace zh2 : ¬ (w1 = (-1 : Int)) := zh2
        refine And.intro (show 2 < mL t_X6_busyTurns from (by decide)) ?_
        refine And.intro (show 3 < mL t_X6_busyTurns from (by decide)) ?_
        change AW ev false 2 t_X6_busyTurns Q 4 [some (vR 19), some (vI s), some (vI (c + 1)), some (vI (i + 1))] [] M
        exact zih (i + 1) (c + 1) (by omega) (by omega) (fun r zr => zv1 r (by rw [zr]; conv => rhs; unfold bzT; first | rw [if_pos (by omega)] | rw [if_neg (by omega)]))
theorem c_X6_busyTurns {ev : Ev} {Q : Out → Mem → Prop} {M : Mem}  (s : Int) (zp0 : 0 ≤ s ∧ s < 8) (zp1 : ∀ i, 0 ≤ i → i < 576 → -1 ≤ M 21 i ∧ M 21 i < 20) (zQ : ∀ (r : Int), r = bzT (fun t => M 21 (72 * s + t)) 72 0 0 → Q (.inl (some (vI r))) M) : AM ev false 2 t_X6_busyTurns [vR 19, vI s] M Q := by
  refine AM.of mt_X6_busyTurns (Nat.le_of_ble_eq_true rfl) ?_
  change AW ev false 2 t_X6_busyTurns Q 0 [some (vR 19), some (vI s), none, none] [] M
  refine AW.go pk_X6_busyTurns 0 4 rfl rfl ?_
  refine And.intro (show 2 < mL t_X6_busyTurns from (by decide)) ?_
  refine And.intro (show 3 < mL t_X6_busyTurns from (by decide)) ?_
  change AW ev false 2 t_X6_busyTurns Q 4 [some (vR 19), some (vI s), some (vI 0), some (vI 0)] [] M
  exact lz_busy s zp0 zp1 72 0 0 (by omega) (by omega) zQ
theorem lz_allBusy {ev : Ev} {Q : Out → Mem → Prop} {M : Mem}   (zp0 : ∀ i, 0 ≤ i → i < 576 → -1 ≤ M 21 i ∧ M 21 i < 20)  : ∀ (n : Nat) (i : Int) (c : Int), i + n = 8 → (0 ≤ i) → (∀ r : Int, r = bzA (M 21) n i c → Q (.inl (some (vI r))) M) → AW ev false 3 t_X6_allBusyTurns Q 4 [some (vR 19), some (vI c), some (vI i)] [] M := by
  intro n
  induction n with
  | zero =>
    intro i c zn zv0 zv1
    refine AW.go pk_X6_allBusyTurns 4 7 rfl rfl ?_
    refine And.intro (show Inr i ∧ Inr 8 from ⟨⟨by omega, by omega⟩, ⟨by omega, by omega⟩⟩) (And.intro (fun zh1 => ?_) (fun zh1 => ?_))
    · replace zh1 : (8 : Int) ≤ i := zh1
      change AW ev false 3 t_X6_allBusyTurns Q 24 [some (vR 19), some (vI c), some (vI i)] [] M
      refine AW.go pk_X6_allBusyTurns 15 2 rfl rfl ?_
      refine And.intro rfl ?_
      exact zv1 _ rfl
    · replace zh1 : ¬ ((8 : Int) ≤ i) := zh1
      exfalso; omega
  | succ n zih =>
    intro i c zn zv0 zv1
    refine AW.go pk_X6_allBusyTurns 4 7 rfl rfl ?_
    refine And.intro (show Inr i ∧ Inr 8 from ⟨⟨by omega, by omega⟩, ⟨by omega, by omega⟩⟩) (And.intro (fun zh1 => ?_) (fun zh1 => ?_))
    · replace zh1 : (8 : Int) ≤ i := zh1
      exfalso; omega
    · replace zh1 : ¬ ((8 : Int) ≤ i) := zh1
      change AW ev false 3 t_X6_allBusyTurns Q 13 [some (vR 19), some (vI c), some (vI i)] [vI i, vR 19, vI c] M
      refine AW.callV (d' := 2) [vI i] [vI c] vm_X6_busyTurns rfl hX6_57 (okP_d pk_X6_allBusyTurns 10 13 (.invokevirtual 57) 3 rfl) (by decide) rfl (Nat.le_of_ble_eq_true rfl) ?_
      refine c_X6_busyTurns i (by omega) zp0 (fun w1 zw1 => ?_)
      change AW ev false 3 t_X6_allBusyTurns Q 16 [some (vR 19), some (vI c), some (vI i)] [vI w1, vI c] M
      refine AW.go pk_X6_allBusyTurns 11 4 rfl rfl ?_
      refine And.intro (show 1 < mL t_X6_allBusyTurns from (by decide)) ?_
      refine And.intro (show 2 < mL t_X6_allBusyTurns from (by decide)) ?_
      change AW ev false 3 t_X6_allBusyTurns Q 4 [some (vR 19), some (vI (c + w1)), some (vI (i + 1))] [] M
      exact zih (i + 1) (c + w1) (by omega) (by omega) (fun r zr => zv1 r (by rw [zr, zw1]; rfl))
theorem c_X6_allBusyTurns {ev : Ev} {Q : Out → Mem → Prop} {M : Mem}   (zp0 : ∀ i, 0 ≤ i → i < 576 → -1 ≤ M 21 i ∧ M 21 i < 20) (zQ : ∀ (r : Int), r = bzA (M 21) 8 0 0 → Q (.inl (some (vI r))) M) : AM ev false 3 t_X6_allBusyTurns [vR 19] M Q := by
  refine AM.of mt_X6_allBusyTurns (Nat.le_of_ble_eq_true rfl) ?_
  change AW ev false 3 t_X6_allBusyTurns Q 0 [some (vR 19), none, none] [] M
  refine AW.go pk_X6_allBusyTurns 0 4 rfl rfl ?_
  refine And.intro (show 1 < mL t_X6_allBusyTurns from (by decide)) ?_
  refine And.intro (show 2 < mL t_X6_allBusyTurns from (by decide)) ?_
  change AW ev false 3 t_X6_allBusyTurns Q 4 [some (vR 19), some (vI 0), some (vI 0)] [] M
  exact lz_allBusy zp0 8 0 0 (by omega) (by omega) zQ
theorem lz_latest {ev : Ev} {Q : Out → Mem → Prop} {M : Mem}   (zp0 : GInv M)  : ∀ (n : Nat) (i : Int) (c : Int), i + n = M 19 2 → (0 ≤ i) → (-1 ≤ c ∧ c ≤ 72) → (∀ r : Int, r = laT (fun m => M 20 (27 * m + 4)) n i c → Q (.inl (some (vI r))) M) → AW ev false 2 t_X6_latestArrival Q 4 [some (vR 19), some (vI c), some (vI i)] [] M := by
  intro n
  induction n with
  | zero =>
    intro i c zn zv0 zv1 zv2
    have zs := zp0.1
    refine AW.go pk_X6_latestArrival 4 9 rfl rfl ?_
    refine And.intro (show Inr i ∧ Inr (M 19 2) from ⟨⟨by omega, by omega⟩, ⟨by omega, by omega⟩⟩) (And.intro (fun zh1 => ?_) (fun zh1 => ?_))
    · replace zh1 : M 19 2 ≤ i := zh1
      change AW ev false 2 t_X6_latestArrival Q 29 [some (vR 19), some (vI c), some (vI i)] [] M
      refine AW.go pk_X6_latestArrival 17 2 rfl rfl ?_
      refine And.intro rfl ?_
      exact zv2 _ rfl
    · replace zh1 : ¬ (M 19 2 ≤ i) := zh1
      exfalso; omega
  | succ n zih =>
    intro i c zn zv0 zv1 zv2
    have zs := zp0.1
    refine AW.go pk_X6_latestArrival 4 9 rfl rfl ?_
    refine And.intro (show Inr i ∧ Inr (M 19 2) from ⟨⟨by omega, by omega⟩, ⟨by omega, by omega⟩⟩) (And.intro (fun zh1 => ?_) (fun zh1 => ?_))
    · replace zh1 : M 19 2 ≤ i := zh1
      exfalso; omega
    · replace zh1 : ¬ (M 19 2 ≤ i) := zh1
      change AW ev false 2 t_X6_latestArrival Q 16 [some (vR 19), some (vI c), some (vI i)] [vI 4, vI i, vR 19, vI c] M
      refine AW.callV (d' := 1) [vI i, vI 4] [vI c] vm_X6_property rfl hX6_32 (okP_d pk_X6_latestArrival 12 16 (.invokevirtual 32) 3 rfl) (by decide) rfl (Nat.le_of_ble_eq_true rfl) ?_
      refine c_X6_property i 4 (by omega) (by omega) (by omega) (fun w1 zw1 => ?_)
      have zb := zp0.2.1 i (by omega) (by omega)
      change AW ev false 2 t_X6_latestArrival Q 19 [some (vR 19), some (vI c), some (vI i)] [vI w1, vI c] M
      refine AW.mmax (bm 579 _ (by decide +kernel) (by decide +kernel)) (okP_d pk_X6_latestArrival 13 19 (.invokestatic 60) 3 rfl) (by decide) (Nat.le_of_ble_eq_true rfl) ⟨by omega, by omega⟩ ⟨by omega, by omega⟩ (fun w2 zw2 => ?_)
      change AW ev false 2 t_X6_latestArrival Q 22 [some (vR 19), some (vI c), some (vI i)] [vI w2] M
      refine AW.go pk_X6_latestArrival 14 3 rfl rfl ?_
      refine And.intro (show 1 < mL t_X6_latestArrival from (by decide)) ?_
      refine And.intro (show 2 < mL t_X6_latestArrival from (by decide)) ?_
      change AW ev false 2 t_X6_latestArrival Q 4 [some (vR 19), some (vI w2), some (vI (i + 1))] [] M
      exact zih (i + 1) w2 (by omega) (by omega) (by omega) (fun r zr => zv2 r (by rw [zr]; conv => rhs; unfold laT; rw [show (if c < M 20 (27 * i + 4) then M 20 (27 * i + 4) else c) = w2 from by split <;> omega]))
theorem c_X6_latestArrival {ev : Ev} {Q : Out → Mem → Prop} {M : Mem}   (zp0 : GInv M) (zQ : ∀ (r : Int), r = laT (fun m => M 20 (27 * m + 4)) (M 19 2).toNat 0 (-1) → Q (.inl (some (vI r))) M) : AM ev false 2 t_X6_latestArrival [vR 19] M Q := by
  have zs := zp0.1
  refine AM.of mt_X6_latestArrival (Nat.le_of_ble_eq_true rfl) ?_
  change AW ev false 2 t_X6_latestArrival Q 0 [some (vR 19), none, none] [] M
  refine AW.go pk_X6_latestArrival 0 4 rfl rfl ?_
  refine And.intro (show 1 < mL t_X6_latestArrival from (by decide)) ?_
  refine And.intro (show 2 < mL t_X6_latestArrival from (by decide)) ?_
  change AW ev false 2 t_X6_latestArrival Q 4 [some (vR 19), some (vI (-1)), some (vI 0)] [] M
  exact lz_latest zp0 (M 19 2).toNat 0 (-1) (by omega) (by omega) (by omega) zQ
