theorem c_X3_arrivalAt {ev : Ev} {Q : Out → Mem → Prop} {M : Mem}  (s : Int) (zp0 : SInv M) (zp1 : 0 ≤ s ∧ s < M 7 3) (zQ : ∀ (r : Int), r = M 24 s → Q (.inl (some (vI r))) M) : AM ev false 1 t_X3_arrivalAt [vR 22, vI s] M Q := by
  have zs := zp0.1
  refine AM.of mt_X3_arrivalAt (Nat.le_of_ble_eq_true rfl) ?_
  change AW ev false 1 t_X3_arrivalAt Q 0 [some (vR 22), some (vI s)] [] M
  refine AW.go pk_X3_arrivalAt 0 4 rfl rfl ?_
  change AW ev false 1 t_X3_arrivalAt Q 5 [some (vR 22), some (vI s)] [vI s, vR 7] M
  refine AW.callV (d' := 0) [vI s] [] vm_X4_has rfl hX3_52 (okP_d pk_X3_arrivalAt 3 5 (.invokevirtual 52) 3 rfl) (by decide) rfl (Nat.le_of_ble_eq_true rfl) ?_
  refine c_X4_has s zp0 (by omega) (fun zr1 zzr1 => ?_)
  change AW ev false 1 t_X3_arrivalAt Q 8 [some (vR 22), some (vI s)] [vI zr1] M
  refine AW.go pk_X3_arrivalAt 4 6 rfl rfl ?_
  refine And.intro (show Inr zr1 from ⟨by omega, by omega⟩) (And.intro (fun zh2 => ?_) (fun zh2 => ?_))
  · replace zh2 : zr1 = (0 : Int) := zh2
    exfalso; omega
  · replace zh2 : ¬ (zr1 = (0 : Int)) := zh2
    refine And.intro (show (0 ≤ s ∧ s < 8) from (by omega)) ?_
    change AW ev false 1 t_X3_arrivalAt Q 21 [some (vR 22), some (vI s)] [vI (M 24 s)] M
    refine AW.go pk_X3_arrivalAt 11 1 rfl rfl ?_
    refine And.intro rfl ?_
    exact zQ (M 24 s) (by first | rfl | omega)
theorem c_X3_hoursOfPair {ev : Ev} {Q : Out → Mem → Prop} {M : Mem}  (a : Int) (b : Int) (zp0 : SInv M) (zp1 : 0 ≤ a ∧ a < M 7 3) (zp2 : 0 ≤ b ∧ b < M 7 3) (zQ : ∀ (r : Int), r = M 23 (8 * a + b) → Q (.inl (some (vI r))) M) : AM ev false 1 t_X3_hoursOfPair [vR 22, vI a, vI b] M Q := by
  have zs := zp0.1
  refine AM.of mt_X3_hoursOfPair (Nat.le_of_ble_eq_true rfl) ?_
  change AW ev false 1 t_X3_hoursOfPair Q 0 [some (vR 22), some (vI a), some (vI b), none] [] M
  refine AW.go pk_X3_hoursOfPair 0 4 rfl rfl ?_
  change AW ev false 1 t_X3_hoursOfPair Q 5 [some (vR 22), some (vI a), some (vI b), none] [vI a, vR 7] M
  refine AW.callV (d' := 0) [vI a] [] vm_X4_has rfl hX3_52 (okP_d pk_X3_hoursOfPair 3 5 (.invokevirtual 52) 3 rfl) (by decide) rfl (Nat.le_of_ble_eq_true rfl) ?_
  refine c_X4_has a zp0 (by omega) (fun zr1 zzr1 => ?_)
  change AW ev false 1 t_X3_hoursOfPair Q 8 [some (vR 22), some (vI a), some (vI b), none] [vI zr1] M
  refine AW.go pk_X3_hoursOfPair 4 5 rfl rfl ?_
  refine And.intro (show Inr zr1 from ⟨by omega, by omega⟩) (And.intro (fun zh2 => ?_) (fun zh2 => ?_))
  · replace zh2 : zr1 = (0 : Int) := zh2
    exfalso; omega
  · replace zh2 : ¬ (zr1 = (0 : Int)) := zh2
    change AW ev false 1 t_X3_hoursOfPair Q 16 [some (vR 22), some (vI a), some (vI b), none] [vI b, vR 7] M
    refine AW.callV (d' := 0) [vI b] [] vm_X4_has rfl hX3_52 (okP_d pk_X3_hoursOfPair 8 16 (.invokevirtual 52) 3 rfl) (by decide) rfl (Nat.le_of_ble_eq_true rfl) ?_
    refine c_X4_has b zp0 (by omega) (fun zr3 zzr3 => ?_)
    change AW ev false 1 t_X3_hoursOfPair Q 19 [some (vR 22), some (vI a), some (vI b), none] [vI zr3] M
    refine AW.go pk_X3_hoursOfPair 9 3 rfl rfl ?_
    refine And.intro (show Inr zr3 from ⟨by omega, by omega⟩) (And.intro (fun zh4 => ?_) (fun zh4 => ?_))
    · replace zh4 : zr3 = (0 : Int) := zh4
      exfalso; omega
    · replace zh4 : ¬ (zr3 = (0 : Int)) := zh4
      change AW ev false 1 t_X3_hoursOfPair Q 27 [some (vR 22), some (vI a), some (vI b), none] [vI 1] M
      refine AW.go pk_X3_hoursOfPair 13 12 rfl rfl ?_
      refine And.intro (show 3 < mL t_X3_hoursOfPair from (by decide)) ?_
      refine And.intro (show Inr 1 from ⟨by omega, by omega⟩) (And.intro (fun zh5 => ?_) (fun zh5 => ?_))
      · replace zh5 : (1 : Int) = (0 : Int) := zh5
        exfalso; omega
      · replace zh5 : ¬ ((1 : Int) = (0 : Int)) := zh5
        refine And.intro (show (0 ≤ (8 * a) + b ∧ (8 * a) + b < 64) from (by omega)) ?_
        change AW ev false 1 t_X3_hoursOfPair Q 47 [some (vR 22), some (vI a), some (vI b), some (vI 1)] [vI (M 23 ((8 * a) + b))] M
        refine AW.go pk_X3_hoursOfPair 26 1 rfl rfl ?_
        refine And.intro rfl ?_
        exact zQ (M 23 ((8 * a) + b)) (by first | rfl | omega)
theorem lz_end {ev : Ev} {Q : Out → Mem → Prop} {M : Mem}  (a : Int) (b : Int) (l : Int) (zp0 : SInv M) (zp1 : 0 ≤ a ∧ a < M 7 3) (zp2 : 0 ≤ b ∧ b < M 7 3) (zp3 : M 22 7 = l) (zp4 : 1 ≤ l ∧ l ≤ 6) (zp5 : 0 ≤ M 24 a ∧ M 24 a ≤ 72) (zp6 : ∀ i, 0 ≤ i → i < 576 → -1 ≤ M 21 i ∧ M 21 i < 20)  : ∀ (n : Nat) (t : Int) (run : Int), t + n = 72 → (0 ≤ t) → (0 ≤ run ∧ run < l) → (∀ r : Int, r = eeT (okC (M 23) (M 21) a b) l n t run → Q (.inl (some (vI r))) M) → AW ev false 2 t_X3_earliestEnd Q 17 [some (vR 22), some (vI a), some (vI b), some (vI (M 23 (8 * a + b))), some (vI run), some (vI t), none, none, none] [] M := by
  intro n
  induction n with
  | zero =>
    intro t run zn zv0 zv1 zv2
    have zs := zp0.1
    refine AW.go pk_X3_earliestEnd 11 18 rfl rfl ?_
    refine And.intro (show Inr t ∧ Inr 72 from ⟨⟨by omega, by omega⟩, ⟨by omega, by omega⟩⟩) (And.intro (fun zh1 => ?_) (fun zh1 => ?_))
    · replace zh1 : (72 : Int) ≤ t := zh1
      change AW ev false 2 t_X3_earliestEnd Q 126 [some (vR 22), some (vI a), some (vI b), some (vI (M 23 (8 * a + b))), some (vI run), some (vI t), none, none, none] [] M
      refine AW.go pk_X3_earliestEnd 69 2 rfl rfl ?_
      refine And.intro rfl ?_
      exact zv2 (-1) rfl
    · replace zh1 : ¬ ((72 : Int) ≤ t) := zh1
      exfalso; omega
  | succ n zih =>
    intro t run zn zv0 zv1 zv2
    have zs := zp0.1
    refine AW.go pk_X3_earliestEnd 11 18 rfl rfl ?_
    refine And.intro (show Inr t ∧ Inr 72 from ⟨⟨by omega, by omega⟩, ⟨by omega, by omega⟩⟩) (And.intro (fun zh1 => ?_) (fun zh1 => ?_))
    · replace zh1 : (72 : Int) ≤ t := zh1
      exfalso; omega
    · replace zh1 : ¬ ((72 : Int) ≤ t) := zh1
      refine And.intro (show ((0 ≤ t ∧ t < 2147483648) ∧ 0 < (6 : Int) ∧ (6 : Int) < 2147483648) from (by omega)) ?_
      refine And.intro (show 6 < mL t_X3_earliestEnd from (by decide)) ?_
      refine And.intro (show Inr (iandI (ishrI (M 23 (8 * a + b)) (6 + (t / 6))) 1) ∧ Inr 1 from ⟨(by first | exact tI_inr _ | exact ⟨by omega, by omega⟩), ⟨by omega, by omega⟩⟩) (And.intro (fun zh2 => ?_) (fun zh2 => ?_))
      · replace zh2 : iandI (ishrI (M 23 (8 * a + b)) (6 + (t / 6))) 1 ≠ (1 : Int) := zh2
        change AW ev false 2 t_X3_earliestEnd Q 48 [some (vR 22), some (vI a), some (vI b), some (vI (M 23 (8 * a + b))), some (vI run), some (vI t), some (vI (6 + (t / 6))), none, none] [] M
        refine AW.go pk_X3_earliestEnd 29 7 rfl rfl ?_
        refine And.intro (show 7 < mL t_X3_earliestEnd from (by decide)) ?_
        change AW ev false 2 t_X3_earliestEnd Q 58 [some (vR 22), some (vI a), some (vI b), some (vI (M 23 (8 * a + b))), some (vI run), some (vI t), some (vI (6 + (t / 6))), some (vI 0), none] [vI t, vI a, vR 19] M
        refine AW.callV (d' := 1) [vI a, vI t] [] vm_X6_bookedBy rfl hX3_83 (okP_d pk_X3_earliestEnd 35 58 (.invokevirtual 83) 3 rfl) (by decide) rfl (Nat.le_of_ble_eq_true rfl) ?_
        refine c_X6_bookedBy a t (by omega) (by omega) (fun w3 zw3 => ?_)
        have zb3 := zp6 (72 * a + t) (by omega) (by omega)
        change AW ev false 2 t_X3_earliestEnd Q 61 [some (vR 22), some (vI a), some (vI b), some (vI (M 23 (8 * a + b))), some (vI run), some (vI t), some (vI (6 + (t / 6))), some (vI 0), none] [vI w3] M
        refine AW.go pk_X3_earliestEnd 36 7 rfl rfl ?_
        refine And.intro (show Inr w3 ∧ Inr (-1) from ⟨⟨by omega, by omega⟩, ⟨by omega, by omega⟩⟩) (And.intro (fun zh3 => ?_) (fun zh3 => ?_))
        · replace zh3 : w3 ≠ (-1 : Int) := zh3
          change AW ev false 2 t_X3_earliestEnd Q 83 [some (vR 22), some (vI a), some (vI b), some (vI (M 23 (8 * a + b))), some (vI run), some (vI t), some (vI (6 + (t / 6))), some (vI 0), none] [] M
          refine AW.go pk_X3_earliestEnd 47 10 rfl rfl ?_
          refine And.intro (show 8 < mL t_X3_earliestEnd from (by decide)) ?_
          refine And.intro (show Inr 0 from ⟨by omega, by omega⟩) (And.intro (fun zh4 => ?_) (fun zh4 => ?_))
          · replace zh4 : (0 : Int) = (0 : Int) := zh4
            change AW ev false 2 t_X3_earliestEnd Q 103 [some (vR 22), some (vI a), some (vI b), some (vI (M 23 (8 * a + b))), some (vI run), some (vI t), some (vI (6 + (t / 6))), some (vI 0), some (vI 0)] [] M
            refine AW.go pk_X3_earliestEnd 57 1 rfl rfl ?_
            change AW ev false 2 t_X3_earliestEnd Q 104 [some (vR 22), some (vI a), some (vI b), some (vI (M 23 (8 * a + b))), some (vI run), some (vI t), some (vI (6 + (t / 6))), some (vI 0), some (vI 0)] [vI 0] M
            have zok : ¬ (okC (M 23) (M 21) a b t) := fun q => by have := q.1; have := q.2.1; have := q.2.2; omega
            refine AW.go pk_X3_earliestEnd 58 9 rfl rfl ?_
            refine And.intro (show 4 < mL t_X3_earliestEnd from (by decide)) ?_
            refine And.intro (show Inr 0 ∧ Inr (M 22 7) from ⟨⟨by omega, by omega⟩, ⟨by omega, by omega⟩⟩) (And.intro (fun zh5 => ?_) (fun zh5 => ?_))
            · replace zh5 : (0 : Int) ≠ M 22 7 := zh5
              change AW ev false 2 t_X3_earliestEnd Q 120 [some (vR 22), some (vI a), some (vI b), some (vI (M 23 (8 * a + b))), some (vI 0), some (vI t), some (vI (6 + (t / 6))), some (vI 0), some (vI 0)] [] M
              refine AW.go pk_X3_earliestEnd 67 2 rfl rfl ?_
              refine And.intro (show 5 < mL t_X3_earliestEnd from (by decide)) ?_
              change AW ev false 2 t_X3_earliestEnd Q 17 [some (vR 22), some (vI a), some (vI b), some (vI (M 23 (8 * a + b))), some (vI 0), some (vI (t + 1)), some (vI (6 + (t / 6))), some (vI 0), some (vI 0)] [] M
              refine AW.sub [some (vR 22), some (vI a), some (vI b), some (vI (M 23 (8 * a + b))), some (vI 0), some (vI (t + 1)), none, none, none] (by simp [lsub]) ?_
              exact zih (t + 1) 0 (by omega) (by omega) (by omega) (fun r zr => zv2 r (by rw [zr]; first | rw [eeT_yes (ok := okC (M 23) (M 21) a b) zok, if_neg (by omega)] | rw [eeT_no (ok := okC (M 23) (M 21) a b) zok (by omega)]))
            · replace zh5 : ¬ ((0 : Int) ≠ M 22 7) := zh5
              refine And.intro rfl ?_
              exact zv2 (t + 1) (by first | rw [eeT_yes (ok := okC (M 23) (M 21) a b) zok, if_pos (by omega)] | (exfalso; omega))
          · replace zh4 : ¬ ((0 : Int) = (0 : Int)) := zh4
            exfalso; omega
        · replace zh3 : ¬ (w3 ≠ (-1 : Int)) := zh3
          change AW ev false 2 t_X3_earliestEnd Q 72 [some (vR 22), some (vI a), some (vI b), some (vI (M 23 (8 * a + b))), some (vI run), some (vI t), some (vI (6 + (t / 6))), some (vI 0), none] [vI t, vI b, vR 19] M
          refine AW.callV (d' := 1) [vI b, vI t] [] vm_X6_bookedBy rfl hX3_83 (okP_d pk_X3_earliestEnd 42 72 (.invokevirtual 83) 3 rfl) (by decide) rfl (Nat.le_of_ble_eq_true rfl) ?_
          refine c_X6_bookedBy b t (by omega) (by omega) (fun w4 zw4 => ?_)
          have zb4 := zp6 (72 * b + t) (by omega) (by omega)
          change AW ev false 2 t_X3_earliestEnd Q 75 [some (vR 22), some (vI a), some (vI b), some (vI (M 23 (8 * a + b))), some (vI run), some (vI t), some (vI (6 + (t / 6))), some (vI 0), none] [vI w4] M
          refine AW.go pk_X3_earliestEnd 43 4 rfl rfl ?_
          refine And.intro (show Inr w4 ∧ Inr (-1) from ⟨⟨by omega, by omega⟩, ⟨by omega, by omega⟩⟩) (And.intro (fun zh6 => ?_) (fun zh6 => ?_))
          · replace zh6 : w4 ≠ (-1 : Int) := zh6
            change AW ev false 2 t_X3_earliestEnd Q 83 [some (vR 22), some (vI a), some (vI b), some (vI (M 23 (8 * a + b))), some (vI run), some (vI t), some (vI (6 + (t / 6))), some (vI 0), none] [] M
            refine AW.go pk_X3_earliestEnd 47 10 rfl rfl ?_
            refine And.intro (show 8 < mL t_X3_earliestEnd from (by decide)) ?_
            refine And.intro (show Inr 0 from ⟨by omega, by omega⟩) (And.intro (fun zh7 => ?_) (fun zh7 => ?_))
            · replace zh7 : (0 : Int) = (0 : Int) := zh7
              change AW ev false 2 t_X3_earliestEnd Q 103 [some (vR 22), some (vI a), some (vI b), some (vI (M 23 (8 * a + b))), some (vI run), some (vI t), some (vI (6 + (t / 6))), some (vI 0), some (vI 0)] [] M
              refine AW.go pk_X3_earliestEnd 57 1 rfl rfl ?_
              change AW ev false 2 t_X3_earliestEnd Q 104 [some (vR 22), some (vI a), some (vI b), some (vI (M 23 (8 * a + b))), some (vI run), some (vI t), some (vI (6 + (t / 6))), some (vI 0), some (vI 0)] [vI 0] M
              have zok : ¬ (okC (M 23) (M 21) a b t) := fun q => by have := q.1; have := q.2.1; have := q.2.2; omega
              refine AW.go pk_X3_earliestEnd 58 9 rfl rfl ?_
              refine And.intro (show 4 < mL t_X3_earliestEnd from (by decide)) ?_
              refine And.intro (show Inr 0 ∧ Inr (M 22 7) from ⟨⟨by omega, by omega⟩, ⟨by omega, by omega⟩⟩) (And.intro (fun zh8 => ?_) (fun zh8 => ?_))
              · replace zh8 : (0 : Int) ≠ M 22 7 := zh8
                change AW ev false 2 t_X3_earliestEnd Q 120 [some (vR 22), some (vI a), some (vI b), some (vI (M 23 (8 * a + b))), some (vI 0), some (vI t), some (vI (6 + (t / 6))), some (vI 0), some (vI 0)] [] M
                refine AW.go pk_X3_earliestEnd 67 2 rfl rfl ?_
                refine And.intro (show 5 < mL t_X3_earliestEnd from (by decide)) ?_
                change AW ev false 2 t_X3_earliestEnd Q 17 [some (vR 22), some (vI a), some (vI b), some (vI (M 23 (8 * a + b))), some (vI 0), some (vI (t + 1)), some (vI (6 + (t / 6))), some (vI 0), some (vI 0)] [] M
                refine AW.sub [some (vR 22), some (vI a), some (vI b), some (vI (M 23 (8 * a + b))), some (vI 0), some (vI (t + 1)), none, none, none] (by simp [lsub]) ?_
                exact zih (t + 1) 0 (by omega) (by omega) (by omega) (fun r zr => zv2 r (by rw [zr]; first | rw [eeT_yes (ok := okC (M 23) (M 21) a b) zok, if_neg (by omega)] | rw [eeT_no (ok := okC (M 23) (M 21) a b) zok (by omega)]))
              · replace zh8 : ¬ ((0 : Int) ≠ M 22 7) := zh8
                refine And.intro rfl ?_
                exact zv2 (t + 1) (by first | rw [eeT_yes (ok := okC (M 23) (M 21) a b) zok, if_pos (by omega)] | (exfalso; omega))
            · replace zh7 : ¬ ((0 : Int) = (0 : Int)) := zh7
              exfalso; omega
          · replace zh6 : ¬ (w4 ≠ (-1 : Int)) := zh6
            change AW ev false 2 t_X3_earliestEnd Q 84 [some (vR 22), some (vI a), some (vI b), some (vI (M 23 (8 * a + b))), some (vI run), some (vI t), some (vI (6 + (t / 6))), some (vI 0), none] [vI 1] M
            refine AW.go pk_X3_earliestEnd 48 9 rfl rfl ?_
            refine And.intro (show 8 < mL t_X3_earliestEnd from (by decide)) ?_
            refine And.intro (show Inr 0 from ⟨by omega, by omega⟩) (And.intro (fun zh9 => ?_) (fun zh9 => ?_))
            · replace zh9 : (0 : Int) = (0 : Int) := zh9
              change AW ev false 2 t_X3_earliestEnd Q 103 [some (vR 22), some (vI a), some (vI b), some (vI (M 23 (8 * a + b))), some (vI run), some (vI t), some (vI (6 + (t / 6))), some (vI 0), some (vI 1)] [] M
              refine AW.go pk_X3_earliestEnd 57 1 rfl rfl ?_
              change AW ev false 2 t_X3_earliestEnd Q 104 [some (vR 22), some (vI a), some (vI b), some (vI (M 23 (8 * a + b))), some (vI run), some (vI t), some (vI (6 + (t / 6))), some (vI 0), some (vI 1)] [vI 0] M
              have zok : ¬ (okC (M 23) (M 21) a b t) := fun q => by have := q.1; have := q.2.1; have := q.2.2; omega
              refine AW.go pk_X3_earliestEnd 58 9 rfl rfl ?_
              refine And.intro (show 4 < mL t_X3_earliestEnd from (by decide)) ?_
              refine And.intro (show Inr 0 ∧ Inr (M 22 7) from ⟨⟨by omega, by omega⟩, ⟨by omega, by omega⟩⟩) (And.intro (fun zh10 => ?_) (fun zh10 => ?_))
              · replace zh10 : (0 : Int) ≠ M 22 7 := zh10
                change AW ev false 2 t_X3_earliestEnd Q 120 [some (vR 22), some (vI a), some (vI b), some (vI (M 23 (8 * a + b))), some (vI 0), some (vI t), some (vI (6 + (t / 6))), some (vI 0), some (vI 1)] [] M
                refine AW.go pk_X3_earliestEnd 67 2 rfl rfl ?_
                refine And.intro (show 5 < mL t_X3_earliestEnd from (by decide)) ?_
                change AW ev false 2 t_X3_earliestEnd Q 17 [some (vR 22), some (vI a), some (vI b), some (vI (M 23 (8 * a + b))), some (vI 0), some (vI (t + 1)), some (vI (6 + (t / 6))), some (vI 0), some (vI 1)] [] M
                refine AW.sub [some (vR 22), some (vI a), some (vI b), some (vI (M 23 (8 * a + b))), some (vI 0), some (vI (t + 1)), none, none, none] (by simp [lsub]) ?_
                exact zih (t + 1) 0 (by omega) (by omega) (by omega) (fun r zr => zv2 r (by rw [zr]; first | rw [eeT_yes (ok := okC (M 23) (M 21) a b) zok, if_neg (by omega)] | rw [eeT_no (ok := okC (M 23) (M 21) a b) zok (by omega)]))
              · replace zh10 : ¬ ((0 : Int) ≠ M 22 7) := zh10
                refine And.intro rfl ?_
                exact zv2 (t + 1) (by first | rw [eeT_yes (ok := okC (M 23) (M 21) a b) zok, if_pos (by omega)] | (exfalso; omega))
            · replace zh9 : ¬ ((0 : Int) = (0 : Int)) := zh9
              exfalso; omega
      · replace zh2 : ¬ (iandI (ishrI (M 23 (8 * a + b)) (6 + (t / 6))) 1 ≠ (1 : Int)) := zh2
        change AW ev false 2 t_X3_earliestEnd Q 49 [some (vR 22), some (vI a), some (vI b), some (vI (M 23 (8 * a + b))), some (vI run), some (vI t), some (vI (6 + (t / 6))), none, none] [vI 1] M
        refine AW.go pk_X3_earliestEnd 30 6 rfl rfl ?_
        refine And.intro (show 7 < mL t_X3_earliestEnd from (by decide)) ?_
        change AW ev false 2 t_X3_earliestEnd Q 58 [some (vR 22), some (vI a), some (vI b), some (vI (M 23 (8 * a + b))), some (vI run), some (vI t), some (vI (6 + (t / 6))), some (vI 1), none] [vI t, vI a, vR 19] M
        refine AW.callV (d' := 1) [vI a, vI t] [] vm_X6_bookedBy rfl hX3_83 (okP_d pk_X3_earliestEnd 35 58 (.invokevirtual 83) 3 rfl) (by decide) rfl (Nat.le_of_ble_eq_true rfl) ?_
        refine c_X6_bookedBy a t (by omega) (by omega) (fun w3 zw3 => ?_)
        have zb3 := zp6 (72 * a + t) (by omega) (by omega)
        change AW ev false 2 t_X3_earliestEnd Q 61 [some (vR 22), some (vI a), some (vI b), some (vI (M 23 (8 * a + b))), some (vI run), some (vI t), some (vI (6 + (t / 6))), some (vI 1), none] [vI w3] M
        refine AW.go pk_X3_earliestEnd 36 7 rfl rfl ?_
        refine And.intro (show Inr w3 ∧ Inr (-1) from ⟨⟨by omega, by omega⟩, ⟨by omega, by omega⟩⟩) (And.intro (fun zh11 => ?_) (fun zh11 => ?_))
        · replace zh11 : w3 ≠ (-1 : Int) := zh11
          change AW ev false 2 t_X3_earliestEnd Q 83 [some (vR 22), some (vI a), some (vI b), some (vI (M 23 (8 * a + b))), some (vI run), some (vI t), some (vI (6 + (t / 6))), some (vI 1), none] [] M
          refine AW.go pk_X3_earliestEnd 47 10 rfl rfl ?_
          refine And.intro (show 8 < mL t_X3_earliestEnd from (by decide)) ?_
          refine And.intro (show Inr 1 from ⟨by omega, by omega⟩) (And.intro (fun zh12 => ?_) (fun zh12 => ?_))
          · replace zh12 : (1 : Int) = (0 : Int) := zh12
            exfalso; omega
          · replace zh12 : ¬ ((1 : Int) = (0 : Int)) := zh12
            refine And.intro (show Inr 0 from ⟨by omega, by omega⟩) (And.intro (fun zh13 => ?_) (fun zh13 => ?_))
            · replace zh13 : (0 : Int) = (0 : Int) := zh13
              change AW ev false 2 t_X3_earliestEnd Q 103 [some (vR 22), some (vI a), some (vI b), some (vI (M 23 (8 * a + b))), some (vI run), some (vI t), some (vI (6 + (t / 6))), some (vI 1), some (vI 0)] [] M
              refine AW.go pk_X3_earliestEnd 57 1 rfl rfl ?_
              change AW ev false 2 t_X3_earliestEnd Q 104 [some (vR 22), some (vI a), some (vI b), some (vI (M 23 (8 * a + b))), some (vI run), some (vI t), some (vI (6 + (t / 6))), some (vI 1), some (vI 0)] [vI 0] M
              have zok : ¬ (okC (M 23) (M 21) a b t) := fun q => by have := q.1; have := q.2.1; have := q.2.2; omega
              refine AW.go pk_X3_earliestEnd 58 9 rfl rfl ?_
              refine And.intro (show 4 < mL t_X3_earliestEnd from (by decide)) ?_
              refine And.intro (show Inr 0 ∧ Inr (M 22 7) from ⟨⟨by omega, by omega⟩, ⟨by omega, by omega⟩⟩) (And.intro (fun zh14 => ?_) (fun zh14 => ?_))
              · replace zh14 : (0 : Int) ≠ M 22 7 := zh14
                change AW ev false 2 t_X3_earliestEnd Q 120 [some (vR 22), some (vI a), some (vI b), some (vI (M 23 (8 * a + b))), some (vI 0), some (vI t), some (vI (6 + (t / 6))), some (vI 1), some (vI 0)] [] M
                refine AW.go pk_X3_earliestEnd 67 2 rfl rfl ?_
                refine And.intro (show 5 < mL t_X3_earliestEnd from (by decide)) ?_
                change AW ev false 2 t_X3_earliestEnd Q 17 [some (vR 22), some (vI a), some (vI b), some (vI (M 23 (8 * a + b))), some (vI 0), some (vI (t + 1)), some (vI (6 + (t / 6))), some (vI 1), some (vI 0)] [] M
                refine AW.sub [some (vR 22), some (vI a), some (vI b), some (vI (M 23 (8 * a + b))), some (vI 0), some (vI (t + 1)), none, none, none] (by simp [lsub]) ?_
                exact zih (t + 1) 0 (by omega) (by omega) (by omega) (fun r zr => zv2 r (by rw [zr]; first | rw [eeT_yes (ok := okC (M 23) (M 21) a b) zok, if_neg (by omega)] | rw [eeT_no (ok := okC (M 23) (M 21) a b) zok (by omega)]))
              · replace zh14 : ¬ ((0 : Int) ≠ M 22 7) := zh14
                refine And.intro rfl ?_
                exact zv2 (t + 1) (by first | rw [eeT_yes (ok := okC (M 23) (M 21) a b) zok, if_pos (by omega)] | (exfalso; omega))
            · replace zh13 : ¬ ((0 : Int) = (0 : Int)) := zh13
              exfalso; omega
        · replace zh11 : ¬ (w3 ≠ (-1 : Int)) := zh11
          change AW ev false 2 t_X3_earliestEnd Q 72 [some (vR 22), some (vI a), some (vI b), some (vI (M 23 (8 * a + b))), some (vI run), some (vI t), some (vI (6 + (t / 6))), some (vI 1), none] [vI t, vI b, vR 19] M
          refine AW.callV (d' := 1) [vI b, vI t] [] vm_X6_bookedBy rfl hX3_83 (okP_d pk_X3_earliestEnd 42 72 (.invokevirtual 83) 3 rfl) (by decide) rfl (Nat.le_of_ble_eq_true rfl) ?_
          refine c_X6_bookedBy b t (by omega) (by omega) (fun w4 zw4 => ?_)
          have zb4 := zp6 (72 * b + t) (by omega) (by omega)
          change AW ev false 2 t_X3_earliestEnd Q 75 [some (vR 22), some (vI a), some (vI b), some (vI (M 23 (8 * a + b))), some (vI run), some (vI t), some (vI (6 + (t / 6))), some (vI 1), none] [vI w4] M
          refine AW.go pk_X3_earliestEnd 43 4 rfl rfl ?_
          refine And.intro (show Inr w4 ∧ Inr (-1) from ⟨⟨by omega, by omega⟩, ⟨by omega, by omega⟩⟩) (And.intro (fun zh15 => ?_) (fun zh15 => ?_))
          · replace zh15 : w4 ≠ (-1 : Int) := zh15
            change AW ev false 2 t_X3_earliestEnd Q 83 [some (vR 22), some (vI a), some (vI b), some (vI (M 23 (8 * a + b))), some (vI run), some (vI t), some (vI (6 + (t / 6))), some (vI 1), none] [] M
            refine AW.go pk_X3_earliestEnd 47 10 rfl rfl ?_
            refine And.intro (show 8 < mL t_X3_earliestEnd from (by decide)) ?_
            refine And.intro (show Inr 1 from ⟨by omega, by omega⟩) (And.intro (fun zh16 => ?_) (fun zh16 => ?_))
            · replace zh16 : (1 : Int) = (0 : Int) := zh16
              exfalso; omega
            · replace zh16 : ¬ ((1 : Int) = (0 : Int)) := zh16
              refine And.intro (show Inr 0 from ⟨by omega, by omega⟩) (And.intro (fun zh17 => ?_) (fun zh17 => ?_))
              · replace zh17 : (0 : Int) = (0 : Int) := zh17
                change AW ev false 2 t_X3_earliestEnd Q 103 [some (vR 22), some (vI a), some (vI b), some (vI (M 23 (8 * a + b))), some (vI run), some (vI t), some (vI (6 + (t / 6))), some (vI 1), some (vI 0)] [] M
                refine AW.go pk_X3_earliestEnd 57 1 rfl rfl ?_
                change AW ev false 2 t_X3_earliestEnd Q 104 [some (vR 22), some (vI a), some (vI b), some (vI (M 23 (8 * a + b))), some (vI run), some (vI t), some (vI (6 + (t / 6))), some (vI 1), some (vI 0)] [vI 0] M
                have zok : ¬ (okC (M 23) (M 21) a b t) := fun q => by have := q.1; have := q.2.1; have := q.2.2; omega
                refine AW.go pk_X3_earliestEnd 58 9 rfl rfl ?_
                refine And.intro (show 4 < mL t_X3_earliestEnd from (by decide)) ?_
                refine And.intro (show Inr 0 ∧ Inr (M 22 7) from ⟨⟨by omega, by omega⟩, ⟨by omega, by omega⟩⟩) (And.intro (fun zh18 => ?_) (fun zh18 => ?_))
                · replace zh18 : (0 : Int) ≠ M 22 7 := zh18
                  change AW ev false 2 t_X3_earliestEnd Q 120 [some (vR 22), some (vI a), some (vI b), some (vI (M 23 (8 * a + b))), some (vI 0), some (vI t), some (vI (6 + (t / 6))), some (vI 1), some (vI 0)] [] M
                  refine AW.go pk_X3_earliestEnd 67 2 rfl rfl ?_
                  refine And.intro (show 5 < mL t_X3_earliestEnd from (by decide)) ?_
                  change AW ev false 2 t_X3_earliestEnd Q 17 [some (vR 22), some (vI a), some (vI b), some (vI (M 23 (8 * a + b))), some (vI 0), some (vI (t + 1)), some (vI (6 + (t / 6))), some (vI 1), some (vI 0)] [] M
                  refine AW.sub [some (vR 22), some (vI a), some (vI b), some (vI (M 23 (8 * a + b))), some (vI 0), some (vI (t + 1)), none, none, none] (by simp [lsub]) ?_
                  exact zih (t + 1) 0 (by omega) (by omega) (by omega) (fun r zr => zv2 r (by rw [zr]; first | rw [eeT_yes (ok := okC (M 23) (M 21) a b) zok, if_neg (by omega)] | rw [eeT_no (ok := okC (M 23) (M 21) a b) zok (by omega)]))
                · replace zh18 : ¬ ((0 : Int) ≠ M 22 7) := zh18
                  refine And.intro rfl ?_
                  exact zv2 (t + 1) (by first | rw [eeT_yes (ok := okC (M 23) (M 21) a b) zok, if_pos (by omega)] | (exfalso; omega))
              · replace zh17 : ¬ ((0 : Int) = (0 : Int)) := zh17
                exfalso; omega
          · replace zh15 : ¬ (w4 ≠ (-1 : Int)) := zh15
            change AW ev false 2 t_X3_earliestEnd Q 84 [some (vR 22), some (vI a), some (vI b), some (vI (M 23 (8 * a + b))), some (vI run), some (vI t), some (vI (6 + (t / 6))), some (vI 1), none] [vI 1] M
            refine AW.go pk_X3_earliestEnd 48 9 rfl rfl ?_
            refine And.intro (show 8 < mL t_X3_earliestEnd from (by decide)) ?_
            refine And.intro (show Inr 1 from ⟨by omega, by omega⟩) (And.intro (fun zh19 => ?_) (fun zh19 => ?_))
            · replace zh19 : (1 : Int) = (0 : Int) := zh19
              exfalso; omega
            · replace zh19 : ¬ ((1 : Int) = (0 : Int)) := zh19
              refine And.intro (show Inr 1 from ⟨by omega, by omega⟩) (And.intro (fun zh20 => ?_) (fun zh20 => ?_))
              · replace zh20 : (1 : Int) = (0 : Int) := zh20
                exfalso; omega
              · replace zh20 : ¬ ((1 : Int) = (0 : Int)) := zh20
                change AW ev false 2 t_X3_earliestEnd Q 104 [some (vR 22), some (vI a), some (vI b), some (vI (M 23 (8 * a + b))), some (vI run), some (vI t), some (vI (6 + (t / 6))), some (vI 1), some (vI 1)] [vI (run + 1)] M
                have zok : okC (M 23) (M 21) a b t := ⟨by omega, by omega, by omega⟩
                refine AW.go pk_X3_earliestEnd 58 9 rfl rfl ?_
                refine And.intro (show 4 < mL t_X3_earliestEnd from (by decide)) ?_
                refine And.intro (show Inr (run + 1) ∧ Inr (M 22 7) from ⟨⟨by omega, by omega⟩, ⟨by omega, by omega⟩⟩) (And.intro (fun zh21 => ?_) (fun zh21 => ?_))
                · replace zh21 : run + 1 ≠ M 22 7 := zh21
                  change AW ev false 2 t_X3_earliestEnd Q 120 [some (vR 22), some (vI a), some (vI b), some (vI (M 23 (8 * a + b))), some (vI (run + 1)), some (vI t), some (vI (6 + (t / 6))), some (vI 1), some (vI 1)] [] M
                  refine AW.go pk_X3_earliestEnd 67 2 rfl rfl ?_
                  refine And.intro (show 5 < mL t_X3_earliestEnd from (by decide)) ?_
                  change AW ev false 2 t_X3_earliestEnd Q 17 [some (vR 22), some (vI a), some (vI b), some (vI (M 23 (8 * a + b))), some (vI (run + 1)), some (vI (t + 1)), some (vI (6 + (t / 6))), some (vI 1), some (vI 1)] [] M
                  refine AW.sub [some (vR 22), some (vI a), some (vI b), some (vI (M 23 (8 * a + b))), some (vI (run + 1)), some (vI (t + 1)), none, none, none] (by simp [lsub]) ?_
                  exact zih (t + 1) (run + 1) (by omega) (by omega) (by omega) (fun r zr => zv2 r (by rw [zr]; first | rw [eeT_yes (ok := okC (M 23) (M 21) a b) zok, if_neg (by omega)] | rw [eeT_no (ok := okC (M 23) (M 21) a b) zok (by omega)]))
                · replace zh21 : ¬ (run + 1 ≠ M 22 7) := zh21
                  refine And.intro rfl ?_
                  exact zv2 (t + 1) (by first | rw [eeT_yes (ok := okC (M 23) (M 21) a b) zok, if_pos (by omega)] | (exfalso; omega))
theorem c_X3_earliestEnd {ev : Ev} {Q : Out → Mem → Prop} {M : Mem}  (a : Int) (b : Int) (l : Int) (zp0 : SInv M) (zp1 : 0 ≤ a ∧ a < M 7 3) (zp2 : 0 ≤ b ∧ b < M 7 3) (zp3 : M 22 7 = l) (zp4 : 1 ≤ l ∧ l ≤ 6) (zp5 : 0 ≤ M 24 a ∧ M 24 a ≤ 72) (zp6 : ∀ i, 0 ≤ i → i < 576 → -1 ≤ M 21 i ∧ M 21 i < 20) (zQ : ∀ (r : Int), r = EE (M 23) (M 21) l a b (M 24 a) ∧ (r = -1 ∨ (M 24 a + l ≤ r ∧ r ≤ 72)) → Q (.inl (some (vI r))) M) : AM ev false 2 t_X3_earliestEnd [vR 22, vI a, vI b] M Q := by
  have zs := zp0.1
  refine AM.of mt_X3_earliestEnd (Nat.le_of_ble_eq_true rfl) ?_
  change AW ev false 2 t_X3_earliestEnd Q 0 [some (vR 22), some (vI a), some (vI b), none, none, none, none, none, none] [] M
  refine AW.go pk_X3_earliestEnd 0 4 rfl rfl ?_
  change AW ev false 2 t_X3_earliestEnd Q 3 [some (vR 22), some (vI a), some (vI b), none, none, none, none, none, none] [vI b, vI a, vR 22] M
  refine AW.callV (d' := 1) [vI a, vI b] [] vm_X3_hoursOfPair rfl hX3_80 (okP_d pk_X3_earliestEnd 3 3 (.invokevirtual 80) 3 rfl) (by decide) rfl (Nat.le_of_ble_eq_true rfl) ?_
  refine c_X3_hoursOfPair a b zp0 (by omega) (by omega) (fun w1 zw1 => ?_)
  change AW ev false 2 t_X3_earliestEnd Q 6 [some (vR 22), some (vI a), some (vI b), none, none, none, none, none, none] [vI w1] M
  refine AW.go pk_X3_earliestEnd 4 6 rfl rfl ?_
  refine And.intro (show 3 < mL t_X3_earliestEnd from (by decide)) ?_
  refine And.intro (show 4 < mL t_X3_earliestEnd from (by decide)) ?_
  change AW ev false 2 t_X3_earliestEnd Q 12 [some (vR 22), some (vI a), some (vI b), some (vI w1), some (vI 0), none, none, none, none] [vI a, vR 22] M
  refine AW.callV (d' := 1) [vI a] [] vm_X3_arrivalAt rfl hX3_73 (okP_d pk_X3_earliestEnd 9 12 (.invokevirtual 73) 3 rfl) (by decide) rfl (Nat.le_of_ble_eq_true rfl) ?_
  refine c_X3_arrivalAt a zp0 (by omega) (fun w2 zw2 => ?_)
  change AW ev false 2 t_X3_earliestEnd Q 15 [some (vR 22), some (vI a), some (vI b), some (vI w1), some (vI 0), none, none, none, none] [vI w2] M
  refine AW.go pk_X3_earliestEnd 10 1 rfl rfl ?_
  refine And.intro (show 5 < mL t_X3_earliestEnd from (by decide)) ?_
  change AW ev false 2 t_X3_earliestEnd Q 17 [some (vR 22), some (vI a), some (vI b), some (vI w1), some (vI 0), some (vI w2), none, none, none] [] M
  rw [zw1, zw2]
  exact lz_end a b l zp0 zp1 zp2 zp3 zp4 zp5 zp6 (72 - M 24 a).toNat (M 24 a) 0 (by omega) (by omega) (by omega) (fun r zr => zQ r ⟨zr, by have := eeT_bd (okC (M 23) (M 21) a b) (l := l) (by omega) (72 - M 24 a).toNat (M 24 a) 0 (by omega) (by omega); rw [← zr] at this; omega⟩)
