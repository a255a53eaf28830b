theorem c_X8_takesDigit {ev : Ev} {Q : Out → Mem → Prop} {M : Mem}  (s : QS) (c : Int) (zp0 : s.2.1 = 0 ∨ s.2.1 = 1) (zp1 : -1 ≤ s.2.2.1 ∧ s.2.2.1 ≤ 500) (zp2 : 48 ≤ c ∧ c ≤ 57) (zQ0 : qokD (c - 48) s → Q (.inl (some (vI 1))) (qsM M (qput s (qnx (c - 48) s)))) (zQ1 : ¬ qokD (c - 48) s → Q (.inl (some (vI 0))) (qsM M s)) : AM ev false 0 t_X8_takesDigit [vR 27, vI c] (qsM M s) Q := by
  refine AM.of mt_X8_takesDigit (Nat.le_of_ble_eq_true rfl) ?_
  change AW ev false 0 t_X8_takesDigit Q 0 [some (vR 27), some (vI c), none, none, none] [] (qsM M s)
  refine AW.go pk_X8_takesDigit 0 10 rfl rfl ?_
  refine And.intro (show 2 < mL t_X8_takesDigit from (by decide)) ?_
  refine And.intro (show Inr s.2.2.1 ∧ Inr (-1) from ⟨⟨by omega, by omega⟩, ⟨by omega, by omega⟩⟩) (And.intro (fun zh1 => ?_) (fun zh1 => ?_))
  · replace zh1 : s.2.2.1 ≠ (-1 : Int) := zh1
    change AW ev false 0 t_X8_takesDigit Q 17 [some (vR 27), some (vI c), some (vI (c - 48)), none, none] [] (qsM M s)
    refine AW.go pk_X8_takesDigit 10 6 rfl rfl ?_
    change AW ev false 0 t_X8_takesDigit Q 26 [some (vR 27), some (vI c), some (vI (c - 48)), none, none] [vI ((10 * s.2.2.1) + (c - 48))] (qsM M s)
    have znx : (10 * s.2.2.1) + (c - 48) = qnx (c - 48) s := by unfold qnx; first | rw [if_pos (by omega)] | rw [if_neg (by omega)]
    refine AW.st (show [vI ((10 * s.2.2.1) + (c - 48))] = [vI (qnx (c - 48) s)] from by rw [← znx]) ?_
    have znb : -1 ≤ qnx (c - 48) s ∧ qnx (c - 48) s ≤ 6000 := by rw [← znx]; omega
    refine AW.go pk_X8_takesDigit 16 12 rfl rfl ?_
    refine And.intro (show 3 < mL t_X8_takesDigit from (by decide)) ?_
    refine And.intro (show Inr s.2.1 from ⟨by omega, by omega⟩) (And.intro (fun zh2 => ?_) (fun zh2 => ?_))
    · replace zh2 : s.2.1 = (0 : Int) := zh2
      change AW ev false 0 t_X8_takesDigit Q 54 [some (vR 27), some (vI c), some (vI (c - 48)), some (vI (qnx (c - 48) s)), none] [] (qsM M s)
      refine AW.go pk_X8_takesDigit 30 8 rfl rfl ?_
      refine And.intro (show Inr s.2.2.1 from ⟨by omega, by omega⟩) (And.intro (fun zh3 => ?_) (fun zh3 => ?_))
      · replace zh3 : s.2.2.1 = (0 : Int) := zh3
        change AW ev false 0 t_X8_takesDigit Q 72 [some (vR 27), some (vI c), some (vI (c - 48)), some (vI (qnx (c - 48) s)), none] [] (qsM M s)
        refine AW.go pk_X8_takesDigit 38 7 rfl rfl ?_
        refine And.intro (show 4 < mL t_X8_takesDigit from (by decide)) ?_
        refine And.intro (show Inr 0 from ⟨by omega, by omega⟩) (And.intro (fun zh4 => ?_) (fun zh4 => ?_))
        · replace zh4 : (0 : Int) = (0 : Int) := zh4
          change AW ev false 0 t_X8_takesDigit Q 85 [some (vR 27), some (vI c), some (vI (c - 48)), some (vI (qnx (c - 48) s)), some (vI 0)] [vR 27] (qsM M s)
          refine AW.go pk_X8_takesDigit 45 5 rfl rfl ?_
          refine And.intro rfl ?_
          refine And.intro (show ((0 : Int) = 0 ∨ (0 : Int) = 1) from (by omega)) ?_
          first
            | exact QcI (Q := Q) (show (0 : Int) = (1 : Int) from by first | rfl | omega) (show (upM (qsM M s) 27 20 s.2.2.1) = (qsM M (qput s (qnx (c - 48) s))) from by funext zk zj; simp only [upM, qsM, qput]; grind) (zQ0 (by omega))
            | exact QcI (Q := Q) (show (0 : Int) = (0 : Int) from by first | rfl | omega) (show (upM (qsM M s) 27 20 s.2.2.1) = (qsM M s) from by funext zk zj; simp only [upM, qsM, qput]; grind) (zQ1 (by omega))
        · replace zh4 : ¬ ((0 : Int) = (0 : Int)) := zh4
          exfalso; omega
      · replace zh3 : ¬ (s.2.2.1 = (0 : Int)) := zh3
        refine And.intro (show Inr (qnx (c - 48) s) ∧ Inr 500 from ⟨⟨by omega, by omega⟩, ⟨by omega, by omega⟩⟩) (And.intro (fun zh5 => ?_) (fun zh5 => ?_))
        · replace zh5 : (500 : Int) < qnx (c - 48) s := zh5
          change AW ev false 0 t_X8_takesDigit Q 72 [some (vR 27), some (vI c), some (vI (c - 48)), some (vI (qnx (c - 48) s)), none] [] (qsM M s)
          refine AW.go pk_X8_takesDigit 38 7 rfl rfl ?_
          refine And.intro (show 4 < mL t_X8_takesDigit from (by decide)) ?_
          refine And.intro (show Inr 0 from ⟨by omega, by omega⟩) (And.intro (fun zh6 => ?_) (fun zh6 => ?_))
          · replace zh6 : (0 : Int) = (0 : Int) := zh6
            change AW ev false 0 t_X8_takesDigit Q 85 [some (vR 27), some (vI c), some (vI (c - 48)), some (vI (qnx (c - 48) s)), some (vI 0)] [vR 27] (qsM M s)
            refine AW.go pk_X8_takesDigit 45 5 rfl rfl ?_
            refine And.intro rfl ?_
            refine And.intro (show ((0 : Int) = 0 ∨ (0 : Int) = 1) from (by omega)) ?_
            first
              | exact QcI (Q := Q) (show (0 : Int) = (1 : Int) from by first | rfl | omega) (show (upM (qsM M s) 27 20 s.2.2.1) = (qsM M (qput s (qnx (c - 48) s))) from by funext zk zj; simp only [upM, qsM, qput]; grind) (zQ0 (by omega))
              | exact QcI (Q := Q) (show (0 : Int) = (0 : Int) from by first | rfl | omega) (show (upM (qsM M s) 27 20 s.2.2.1) = (qsM M s) from by funext zk zj; simp only [upM, qsM, qput]; grind) (zQ1 (by omega))
          · replace zh6 : ¬ ((0 : Int) = (0 : Int)) := zh6
            exfalso; omega
        · replace zh5 : ¬ ((500 : Int) < qnx (c - 48) s) := zh5
          change AW ev false 0 t_X8_takesDigit Q 73 [some (vR 27), some (vI c), some (vI (c - 48)), some (vI (qnx (c - 48) s)), none] [vI 1] (qsM M s)
          refine AW.go pk_X8_takesDigit 39 6 rfl rfl ?_
          refine And.intro (show 4 < mL t_X8_takesDigit from (by decide)) ?_
          refine And.intro (show Inr 1 from ⟨by omega, by omega⟩) (And.intro (fun zh7 => ?_) (fun zh7 => ?_))
          · replace zh7 : (1 : Int) = (0 : Int) := zh7
            exfalso; omega
          · replace zh7 : ¬ ((1 : Int) = (0 : Int)) := zh7
            change AW ev false 0 t_X8_takesDigit Q 89 [some (vR 27), some (vI c), some (vI (c - 48)), some (vI (qnx (c - 48) s)), some (vI 1)] [vI (qnx (c - 48) s), vR 27] (qsM M s)
            refine AW.go pk_X8_takesDigit 47 3 rfl rfl ?_
            refine And.intro rfl ?_
            refine And.intro (show ((1 : Int) = 0 ∨ (1 : Int) = 1) from (by omega)) ?_
            first
              | exact QcI (Q := Q) (show (1 : Int) = (1 : Int) from by first | rfl | omega) (show (upM (qsM M s) 27 20 (qnx (c - 48) s)) = (qsM M (qput s (qnx (c - 48) s))) from by funext zk zj; simp only [upM, qsM, qput]; grind) (zQ0 (by omega))
              | exact QcI (Q := Q) (show (1 : Int) = (0 : Int) from by first | rfl | omega) (show (upM (qsM M s) 27 20 (qnx (c - 48) s)) = (qsM M s) from by funext zk zj; simp only [upM, qsM, qput]; grind) (zQ1 (by omega))
    · replace zh2 : ¬ (s.2.1 = (0 : Int)) := zh2
      refine And.intro (show Inr (qnx (c - 48) s) ∧ Inr 1 from ⟨⟨by omega, by omega⟩, ⟨by omega, by omega⟩⟩) (And.intro (fun zh8 => ?_) (fun zh8 => ?_))
      · replace zh8 : qnx (c - 48) s < (1 : Int) := zh8
        change AW ev false 0 t_X8_takesDigit Q 50 [some (vR 27), some (vI c), some (vI (c - 48)), some (vI (qnx (c - 48) s)), none] [] (qsM M s)
        refine AW.go pk_X8_takesDigit 28 2 rfl rfl ?_
        change AW ev false 0 t_X8_takesDigit Q 73 [some (vR 27), some (vI c), some (vI (c - 48)), some (vI (qnx (c - 48) s)), none] [vI 0] (qsM M s)
        refine AW.go pk_X8_takesDigit 39 6 rfl rfl ?_
        refine And.intro (show 4 < mL t_X8_takesDigit from (by decide)) ?_
        refine And.intro (show Inr 0 from ⟨by omega, by omega⟩) (And.intro (fun zh9 => ?_) (fun zh9 => ?_))
        · replace zh9 : (0 : Int) = (0 : Int) := zh9
          change AW ev false 0 t_X8_takesDigit Q 85 [some (vR 27), some (vI c), some (vI (c - 48)), some (vI (qnx (c - 48) s)), some (vI 0)] [vR 27] (qsM M s)
          refine AW.go pk_X8_takesDigit 45 5 rfl rfl ?_
          refine And.intro rfl ?_
          refine And.intro (show ((0 : Int) = 0 ∨ (0 : Int) = 1) from (by omega)) ?_
          first
            | exact QcI (Q := Q) (show (0 : Int) = (1 : Int) from by first | rfl | omega) (show (upM (qsM M s) 27 20 s.2.2.1) = (qsM M (qput s (qnx (c - 48) s))) from by funext zk zj; simp only [upM, qsM, qput]; grind) (zQ0 (by omega))
            | exact QcI (Q := Q) (show (0 : Int) = (0 : Int) from by first | rfl | omega) (show (upM (qsM M s) 27 20 s.2.2.1) = (qsM M s) from by funext zk zj; simp only [upM, qsM, qput]; grind) (zQ1 (by omega))
        · replace zh9 : ¬ ((0 : Int) = (0 : Int)) := zh9
          exfalso; omega
      · replace zh8 : ¬ (qnx (c - 48) s < (1 : Int)) := zh8
        refine And.intro (show Inr (qnx (c - 48) s) ∧ Inr 144 from ⟨⟨by omega, by omega⟩, ⟨by omega, by omega⟩⟩) (And.intro (fun zh10 => ?_) (fun zh10 => ?_))
        · replace zh10 : (144 : Int) < qnx (c - 48) s := zh10
          change AW ev false 0 t_X8_takesDigit Q 50 [some (vR 27), some (vI c), some (vI (c - 48)), some (vI (qnx (c - 48) s)), none] [] (qsM M s)
          refine AW.go pk_X8_takesDigit 28 2 rfl rfl ?_
          change AW ev false 0 t_X8_takesDigit Q 73 [some (vR 27), some (vI c), some (vI (c - 48)), some (vI (qnx (c - 48) s)), none] [vI 0] (qsM M s)
          refine AW.go pk_X8_takesDigit 39 6 rfl rfl ?_
          refine And.intro (show 4 < mL t_X8_takesDigit from (by decide)) ?_
          refine And.intro (show Inr 0 from ⟨by omega, by omega⟩) (And.intro (fun zh11 => ?_) (fun zh11 => ?_))
          · replace zh11 : (0 : Int) = (0 : Int) := zh11
            change AW ev false 0 t_X8_takesDigit Q 85 [some (vR 27), some (vI c), some (vI (c - 48)), some (vI (qnx (c - 48) s)), some (vI 0)] [vR 27] (qsM M s)
            refine AW.go pk_X8_takesDigit 45 5 rfl rfl ?_
            refine And.intro rfl ?_
            refine And.intro (show ((0 : Int) = 0 ∨ (0 : Int) = 1) from (by omega)) ?_
            first
              | exact QcI (Q := Q) (show (0 : Int) = (1 : Int) from by first | rfl | omega) (show (upM (qsM M s) 27 20 s.2.2.1) = (qsM M (qput s (qnx (c - 48) s))) from by funext zk zj; simp only [upM, qsM, qput]; grind) (zQ0 (by omega))
              | exact QcI (Q := Q) (show (0 : Int) = (0 : Int) from by first | rfl | omega) (show (upM (qsM M s) 27 20 s.2.2.1) = (qsM M s) from by funext zk zj; simp only [upM, qsM, qput]; grind) (zQ1 (by omega))
          · replace zh11 : ¬ ((0 : Int) = (0 : Int)) := zh11
            exfalso; omega
        · replace zh10 : ¬ ((144 : Int) < qnx (c - 48) s) := zh10
          change AW ev false 0 t_X8_takesDigit Q 73 [some (vR 27), some (vI c), some (vI (c - 48)), some (vI (qnx (c - 48) s)), none] [vI 1] (qsM M s)
          refine AW.go pk_X8_takesDigit 39 6 rfl rfl ?_
          refine And.intro (show 4 < mL t_X8_takesDigit from (by decide)) ?_
          refine And.intro (show Inr 1 from ⟨by omega, by omega⟩) (And.intro (fun zh12 => ?_) (fun zh12 => ?_))
          · replace zh12 : (1 : Int) = (0 : Int) := zh12
            exfalso; omega
          · replace zh12 : ¬ ((1 : Int) = (0 : Int)) := zh12
            change AW ev false 0 t_X8_takesDigit Q 89 [some (vR 27), some (vI c), some (vI (c - 48)), some (vI (qnx (c - 48) s)), some (vI 1)] [vI (qnx (c - 48) s), vR 27] (qsM M s)
            refine AW.go pk_X8_takesDigit 47 3 rfl rfl ?_
            refine And.intro rfl ?_
            refine And.intro (show ((1 : Int) = 0 ∨ (1 : Int) = 1) from (by omega)) ?_
            first
              | exact QcI (Q := Q) (show (1 : Int) = (1 : Int) from by first | rfl | omega) (show (upM (qsM M s) 27 20 (qnx (c - 48) s)) = (qsM M (qput s (qnx (c - 48) s))) from by funext zk zj; simp only [upM, qsM, qput]; grind) (zQ0 (by omega))
              | exact QcI (Q := Q) (show (1 : Int) = (0 : Int) from by first | rfl | omega) (show (upM (qsM M s) 27 20 (qnx (c - 48) s)) = (qsM M s) from by funext zk zj; simp only [upM, qsM, qput]; grind) (zQ1 (by omega))
  · replace zh1 : ¬ (s.2.2.1 ≠ (-1 : Int)) := zh1
    change AW ev false 0 t_X8_takesDigit Q 26 [some (vR 27), some (vI c), some (vI (c - 48)), none, none] [vI (c - 48)] (qsM M s)
    have znx : c - 48 = qnx (c - 48) s := by unfold qnx; first | rw [if_pos (by omega)] | rw [if_neg (by omega)]
    refine AW.st (show [vI (c - 48)] = [vI (qnx (c - 48) s)] from by rw [← znx]) ?_
    have znb : -1 ≤ qnx (c - 48) s ∧ qnx (c - 48) s ≤ 6000 := by rw [← znx]; omega
    refine AW.go pk_X8_takesDigit 16 12 rfl rfl ?_
    refine And.intro (show 3 < mL t_X8_takesDigit from (by decide)) ?_
    refine And.intro (show Inr s.2.1 from ⟨by omega, by omega⟩) (And.intro (fun zh13 => ?_) (fun zh13 => ?_))
    · replace zh13 : s.2.1 = (0 : Int) := zh13
      change AW ev false 0 t_X8_takesDigit Q 54 [some (vR 27), some (vI c), some (vI (c - 48)), some (vI (qnx (c - 48) s)), none] [] (qsM M s)
      refine AW.go pk_X8_takesDigit 30 8 rfl rfl ?_
      refine And.intro (show Inr s.2.2.1 from ⟨by omega, by omega⟩) (And.intro (fun zh14 => ?_) (fun zh14 => ?_))
      · replace zh14 : s.2.2.1 = (0 : Int) := zh14
        change AW ev false 0 t_X8_takesDigit Q 72 [some (vR 27), some (vI c), some (vI (c - 48)), some (vI (qnx (c - 48) s)), none] [] (qsM M s)
        refine AW.go pk_X8_takesDigit 38 7 rfl rfl ?_
        refine And.intro (show 4 < mL t_X8_takesDigit from (by decide)) ?_
        refine And.intro (show Inr 0 from ⟨by omega, by omega⟩) (And.intro (fun zh15 => ?_) (fun zh15 => ?_))
        · replace zh15 : (0 : Int) = (0 : Int) := zh15
          change AW ev false 0 t_X8_takesDigit Q 85 [some (vR 27), some (vI c), some (vI (c - 48)), some (vI (qnx (c - 48) s)), some (vI 0)] [vR 27] (qsM M s)
          refine AW.go pk_X8_takesDigit 45 5 rfl rfl ?_
          refine And.intro rfl ?_
          refine And.intro (show ((0 : Int) = 0 ∨ (0 : Int) = 1) from (by omega)) ?_
          first
            | exact QcI (Q := Q) (show (0 : Int) = (1 : Int) from by first | rfl | omega) (show (upM (qsM M s) 27 20 s.2.2.1) = (qsM M (qput s (qnx (c - 48) s))) from by funext zk zj; simp only [upM, qsM, qput]; grind) (zQ0 (by omega))
            | exact QcI (Q := Q) (show (0 : Int) = (0 : Int) from by first | rfl | omega) (show (upM (qsM M s) 27 20 s.2.2.1) = (qsM M s) from by funext zk zj; simp only [upM, qsM, qput]; grind) (zQ1 (by omega))
        · replace zh15 : ¬ ((0 : Int) = (0 : Int)) := zh15
          exfalso; omega
      · replace zh14 : ¬ (s.2.2.1 = (0 : Int)) := zh14
        refine And.intro (show Inr (qnx (c - 48) s) ∧ Inr 500 from ⟨⟨by omega, by omega⟩, ⟨by omega, by omega⟩⟩) (And.intro (fun zh16 => ?_) (fun zh16 => ?_))
        · replace zh16 : (500 : Int) < qnx (c - 48) s := zh16
          change AW ev false 0 t_X8_takesDigit Q 72 [some (vR 27), some (vI c), some (vI (c - 48)), some (vI (qnx (c - 48) s)), none] [] (qsM M s)
          refine AW.go pk_X8_takesDigit 38 7 rfl rfl ?_
          refine And.intro (show 4 < mL t_X8_takesDigit from (by decide)) ?_
          refine And.intro (show Inr 0 from ⟨by omega, by omega⟩) (And.intro (fun zh17 => ?_) (fun zh17 => ?_))
          · replace zh17 : (0 : Int) = (0 : Int) := zh17
            change AW ev false 0 t_X8_takesDigit Q 85 [some (vR 27), some (vI c), some (vI (c - 48)), some (vI (qnx (c - 48) s)), some (vI 0)] [vR 27] (qsM M s)
            refine AW.go pk_X8_takesDigit 45 5 rfl rfl ?_
            refine And.intro rfl ?_
            refine And.intro (show ((0 : Int) = 0 ∨ (0 : Int) = 1) from (by omega)) ?_
            first
              | exact QcI (Q := Q) (show (0 : Int) = (1 : Int) from by first | rfl | omega) (show (upM (qsM M s) 27 20 s.2.2.1) = (qsM M (qput s (qnx (c - 48) s))) from by funext zk zj; simp only [upM, qsM, qput]; grind) (zQ0 (by omega))
              | exact QcI (Q := Q) (show (0 : Int) = (0 : Int) from by first | rfl | omega) (show (upM (qsM M s) 27 20 s.2.2.1) = (qsM M s) from by funext zk zj; simp only [upM, qsM, qput]; grind) (zQ1 (by omega))
          · replace zh17 : ¬ ((0 : Int) = (0 : Int)) := zh17
            exfalso; omega
        · replace zh16 : ¬ ((500 : Int) < qnx (c - 48) s) := zh16
          change AW ev false 0 t_X8_takesDigit Q 73 [some (vR 27), some (vI c), some (vI (c - 48)), some (vI (qnx (c - 48) s)), none] [vI 1] (qsM M s)
          refine AW.go pk_X8_takesDigit 39 6 rfl rfl ?_
          refine And.intro (show 4 < mL t_X8_takesDigit from (by decide)) ?_
          refine And.intro (show Inr 1 from ⟨by omega, by omega⟩) (And.intro (fun zh18 => ?_) (fun zh18 => ?_))
          · replace zh18 : (1 : Int) = (0 : Int) := zh18
            exfalso; omega
          · replace zh18 : ¬ ((1 : Int) = (0 : Int)) := zh18
            change AW ev false 0 t_X8_takesDigit Q 89 [some (vR 27), some (vI c), some (vI (c - 48)), some (vI (qnx (c - 48) s)), some (vI 1)] [vI (qnx (c - 48) s), vR 27] (qsM M s)
            refine AW.go pk_X8_takesDigit 47 3 rfl rfl ?_
            refine And.intro rfl ?_
            refine And.intro (show ((1 : Int) = 0 ∨ (1 : Int) = 1) from (by omega)) ?_
            first
              | exact QcI (Q := Q) (show (1 : Int) = (1 : Int) from by first | rfl | omega) (show (upM (qsM M s) 27 20 (qnx (c - 48) s)) = (qsM M (qput s (qnx (c - 48) s))) from by funext zk zj; simp only [upM, qsM, qput]; grind) (zQ0 (by omega))
              | exact QcI (Q := Q) (show (1 : Int) = (0 : Int) from by first | rfl | omega) (show (upM (qsM M s) 27 20 (qnx (c - 48) s)) = (qsM M s) from by funext zk zj; simp only [upM, qsM, qput]; grind) (zQ1 (by omega))
    · replace zh13 : ¬ (s.2.1 = (0 : Int)) := zh13
      refine And.intro (show Inr (qnx (c - 48) s) ∧ Inr 1 from ⟨⟨by omega, by omega⟩, ⟨by omega, by omega⟩⟩) (And.intro (fun zh19 => ?_) (fun zh19 => ?_))
      · replace zh19 : qnx (c - 48) s < (1 : Int) := zh19
        change AW ev false 0 t_X8_takesDigit Q 50 [some (vR 27), some (vI c), some (vI (c - 48)), some (vI (qnx (c - 48) s)), none] [] (qsM M s)
        refine AW.go pk_X8_takesDigit 28 2 rfl rfl ?_
        change AW ev false 0 t_X8_takesDigit Q 73 [some (vR 27), some (vI c), some (vI (c - 48)), some (vI (qnx (c - 48) s)), none] [vI 0] (qsM M s)
        refine AW.go pk_X8_takesDigit 39 6 rfl rfl ?_
        refine And.intro (show 4 < mL t_X8_takesDigit from (by decide)) ?_
        refine And.intro (show Inr 0 from ⟨by omega, by omega⟩) (And.intro (fun zh20 => ?_) (fun zh20 => ?_))
        · replace zh20 : (0 : Int) = (0 : Int) := zh20
          change AW ev false 0 t_X8_takesDigit Q 85 [some (vR 27), some (vI c), some (vI (c - 48)), some (vI (qnx (c - 48) s)), some (vI 0)] [vR 27] (qsM M s)
          refine AW.go pk_X8_takesDigit 45 5 rfl rfl ?_
          refine And.intro rfl ?_
          refine And.intro (show ((0 : Int) = 0 ∨ (0 : Int) = 1) from (by omega)) ?_
          first
            | exact QcI (Q := Q) (show (0 : Int) = (1 : Int) from by first | rfl | omega) (show (upM (qsM M s) 27 20 s.2.2.1) = (qsM M (qput s (qnx (c - 48) s))) from by funext zk zj; simp only [upM, qsM, qput]; grind) (zQ0 (by omega))
            | exact QcI (Q := Q) (show (0 : Int) = (0 : Int) from by first | rfl | omega) (show (upM (qsM M s) 27 20 s.2.2.1) = (qsM M s) from by funext zk zj; simp only [upM, qsM, qput]; grind) (zQ1 (by omega))
        · replace zh20 : ¬ ((0 : Int) = (0 : Int)) := zh20
          exfalso; omega
      · replace zh19 : ¬ (qnx (c - 48) s < (1 : Int)) := zh19
        refine And.intro (show Inr (qnx (c - 48) s) ∧ Inr 144 from ⟨⟨by omega, by omega⟩, ⟨by omega, by omega⟩⟩) (And.intro (fun zh21 => ?_) (fun zh21 => ?_))
        · replace zh21 : (144 : Int) < qnx (c - 48) s := zh21
          change AW ev false 0 t_X8_takesDigit Q 50 [some (vR 27), some (vI c), some (vI (c - 48)), some (vI (qnx (c - 48) s)), none] [] (qsM M s)
          refine AW.go pk_X8_takesDigit 28 2 rfl rfl ?_
          change AW ev false 0 t_X8_takesDigit Q 73 [some (vR 27), some (vI c), some (vI (c - 48)), some (vI (qnx (c - 48) s)), none] [vI 0] (qsM M s)
          refine AW.go pk_X8_takesDigit 39 6 rfl rfl ?_
          refine And.intro (show 4 < mL t_X8_takesDigit from (by decide)) ?_
          refine And.intro (show Inr 0 from ⟨by omega, by omega⟩) (And.intro (fun zh22 => ?_) (fun zh22 => ?_))
          · replace zh22 : (0 : Int) = (0 : Int) := zh22
            change AW ev false 0 t_X8_takesDigit Q 85 [some (vR 27), some (vI c), some (vI (c - 48)), some (vI (qnx (c - 48) s)), some (vI 0)] [vR 27] (qsM M s)
            refine AW.go pk_X8_takesDigit 45 5 rfl rfl ?_
            refine And.intro rfl ?_
            refine And.intro (show ((0 : Int) = 0 ∨ (0 : Int) = 1) from (by omega)) ?_
            first
              | exact QcI (Q := Q) (show (0 : Int) = (1 : Int) from by first | rfl | omega) (show (upM (qsM M s) 27 20 s.2.2.1) = (qsM M (qput s (qnx (c - 48) s))) from by funext zk zj; simp only [upM, qsM, qput]; grind) (zQ0 (by omega))
              | exact QcI (Q := Q) (show (0 : Int) = (0 : Int) from by first | rfl | omega) (show (upM (qsM M s) 27 20 s.2.2.1) = (qsM M s) from by funext zk zj; simp only [upM, qsM, qput]; grind) (zQ1 (by omega))
          · replace zh22 : ¬ ((0 : Int) = (0 : Int)) := zh22
            exfalso; omega
        · replace zh21 : ¬ ((144 : Int) < qnx (c - 48) s) := zh21
          change AW ev false 0 t_X8_takesDigit Q 73 [some (vR 27), some (vI c), some (vI (c - 48)), some (vI (qnx (c - 48) s)), none] [vI 1] (qsM M s)
          refine AW.go pk_X8_takesDigit 39 6 rfl rfl ?_
          refine And.intro (show 4 < mL t_X8_takesDigit from (by decide)) ?_
          refine And.intro (show Inr 1 from ⟨by omega, by omega⟩) (And.intro (fun zh23 => ?_) (fun zh23 => ?_))
          · replace zh23 : (1 : Int) = (0 : Int) := zh23
            exfalso; omega
          · replace zh23 : ¬ ((1 : Int) = (0 : Int)) := zh23
            change AW ev false 0 t_X8_takesDigit Q 89 [some (vR 27), some (vI c), some (vI (c - 48)), some (vI (qnx (c - 48) s)), some (vI 1)] [vI (qnx (c - 48) s), vR 27] (qsM M s)
            refine AW.go pk_X8_takesDigit 47 3 rfl rfl ?_
            refine And.intro rfl ?_
            refine And.intro (show ((1 : Int) = 0 ∨ (1 : Int) = 1) from (by omega)) ?_
            first
              | exact QcI (Q := Q) (show (1 : Int) = (1 : Int) from by first | rfl | omega) (show (upM (qsM M s) 27 20 (qnx (c - 48) s)) = (qsM M (qput s (qnx (c - 48) s))) from by funext zk zj; simp only [upM, qsM, qput]; grind) (zQ0 (by omega))
              | exact QcI (Q := Q) (show (1 : Int) = (0 : Int) from by first | rfl | omega) (show (upM (qsM M s) 27 20 (qnx (c - 48) s)) = (qsM M s) from by funext zk zj; simp only [upM, qsM, qput]; grind) (zQ1 (by omega))
theorem c_X8_endItem {ev : Ev} {Q : Out → Mem → Prop} {M : Mem}  (s : QS) (zp0 : s.2.1 = 0 ∨ s.2.1 = 1) (zp1 : 0 ≤ s.1 ∧ s.1 < 21) (zQ0 : True → Q (.inl none) (qsM M (qend s))) : AM ev false 0 t_X8_endItem [vR 27] (qsM M s) Q := by
  refine AM.of mt_X8_endItem (Nat.le_of_ble_eq_true rfl) ?_
  change AW ev false 0 t_X8_endItem Q 0 [some (vR 27)] [] (qsM M s)
  refine AW.go pk_X8_endItem 0 13 rfl rfl ?_
  refine And.intro (show Inr s.2.1 from ⟨by omega, by omega⟩) (And.intro (fun zh1 => ?_) (fun zh1 => ?_))
  · replace zh1 : s.2.1 = (0 : Int) := zh1
    change AW ev false 0 t_X8_endItem Q 27 [some (vR 27)] [vI s.1, vR 39] (qsM M s)
    refine AW.go pk_X8_endItem 13 13 rfl rfl ?_
    refine And.intro (show ((0 ≤ s.1 ∧ s.1 < 21) ∧ ((0 : Nat) = 0 ∨ s.2.2.1 = 0 ∨ s.2.2.1 = 1)) from ⟨by omega, Or.inl rfl⟩) ?_
    refine And.intro (show Inr s.2.1 from ⟨by omega, by omega⟩) (And.intro (fun zh2 => ?_) (fun zh2 => ?_))
    · replace zh2 : s.2.1 = (0 : Int) := zh2
      change AW ev false 0 t_X8_endItem Q 54 [some (vR 27)] [vI s.1, vR 40] (upM (qsM M s) 39 s.1 s.2.2.1)
      refine AW.go pk_X8_endItem 26 3 rfl rfl ?_
      refine And.intro (show ((0 ≤ s.1 ∧ s.1 < 21) ∧ ((0 : Nat) = 0 ∨ (1 : Int) = 0 ∨ (1 : Int) = 1)) from ⟨by omega, Or.inl rfl⟩) ?_
      refine And.intro rfl ?_
      first | (exfalso; omega) | exact QcV (Q := Q) (show (upM (upM (qsM M s) 39 s.1 s.2.2.1) 40 s.1 1) = qsM M (qend s) from by first | exact qe_1 (by omega) | exact qe_0 (by omega)) (zQ0 trivial)
    · replace zh2 : ¬ (s.2.1 = (0 : Int)) := zh2
      change AW ev false 0 t_X8_endItem Q 55 [some (vR 27)] [vI s.2.2.1, vI s.1, vR 40] (upM (qsM M s) 39 s.1 s.2.2.1)
      refine AW.go pk_X8_endItem 27 2 rfl rfl ?_
      refine And.intro (show ((0 ≤ s.1 ∧ s.1 < 21) ∧ ((0 : Nat) = 0 ∨ s.2.2.1 = 0 ∨ s.2.2.1 = 1)) from ⟨by omega, Or.inl rfl⟩) ?_
      refine And.intro rfl ?_
      first | (exfalso; omega) | exact QcV (Q := Q) (show (upM (upM (qsM M s) 39 s.1 s.2.2.1) 40 s.1 s.2.2.1) = qsM M (qend s) from by first | exact qe_1 (by omega) | exact qe_0 (by omega)) (zQ0 trivial)
  · replace zh1 : ¬ (s.2.1 = (0 : Int)) := zh1
    refine And.intro (show (0 ≤ s.1 ∧ s.1 < 21) from (by omega)) ?_
    change AW ev false 0 t_X8_endItem Q 31 [some (vR 27)] [vI (s.2.2.2.1 s.1), vI s.1, vR 39] (qsM M s)
    refine AW.go pk_X8_endItem 15 11 rfl rfl ?_
    refine And.intro (show ((0 ≤ s.1 ∧ s.1 < 21) ∧ ((0 : Nat) = 0 ∨ s.2.2.2.1 s.1 = 0 ∨ s.2.2.2.1 s.1 = 1)) from ⟨by omega, Or.inl rfl⟩) ?_
    refine And.intro (show Inr s.2.1 from ⟨by omega, by omega⟩) (And.intro (fun zh3 => ?_) (fun zh3 => ?_))
    · replace zh3 : s.2.1 = (0 : Int) := zh3
      change AW ev false 0 t_X8_endItem Q 54 [some (vR 27)] [vI s.1, vR 40] (upM (qsM M s) 39 s.1 (s.2.2.2.1 s.1))
      refine AW.go pk_X8_endItem 26 3 rfl rfl ?_
      refine And.intro (show ((0 ≤ s.1 ∧ s.1 < 21) ∧ ((0 : Nat) = 0 ∨ (1 : Int) = 0 ∨ (1 : Int) = 1)) from ⟨by omega, Or.inl rfl⟩) ?_
      refine And.intro rfl ?_
      first | (exfalso; omega) | exact QcV (Q := Q) (show (upM (upM (qsM M s) 39 s.1 (s.2.2.2.1 s.1)) 40 s.1 1) = qsM M (qend s) from by first | exact qe_1 (by omega) | exact qe_0 (by omega)) (zQ0 trivial)
    · replace zh3 : ¬ (s.2.1 = (0 : Int)) := zh3
      change AW ev false 0 t_X8_endItem Q 55 [some (vR 27)] [vI s.2.2.1, vI s.1, vR 40] (upM (qsM M s) 39 s.1 (s.2.2.2.1 s.1))
      refine AW.go pk_X8_endItem 27 2 rfl rfl ?_
      refine And.intro (show ((0 ≤ s.1 ∧ s.1 < 21) ∧ ((0 : Nat) = 0 ∨ s.2.2.1 = 0 ∨ s.2.2.1 = 1)) from ⟨by omega, Or.inl rfl⟩) ?_
      refine And.intro rfl ?_
      first | (exfalso; omega) | exact QcV (Q := Q) (show (upM (upM (qsM M s) 39 s.1 (s.2.2.2.1 s.1)) 40 s.1 s.2.2.1) = qsM M (qend s) from by first | exact qe_1 (by omega) | exact qe_0 (by omega)) (zQ0 trivial)
theorem c_X8_takes {ev : Ev} {Q : Out → Mem → Prop} {M : Mem}  (s : QS) (c : Int) (k : Int) (zp0 : QSI k s) (zp1 : 0 ≤ k ∧ k ≤ 39) (zp2 : 0 ≤ c ∧ c ≤ 200) (zQ0 : qok c s → Q (.inl (some (vI 1))) (qsM M (qst c s))) (zQ1 : ¬ qok c s → Q (.inl (some (vI 0))) (qsM M s)) : AM ev false 1 t_X8_takes [vR 27, vI c] (qsM M s) Q := by
  obtain ⟨zs1, zs2, zs3, zs4, zs5⟩ := zp0
  refine AM.of mt_X8_takes (Nat.le_of_ble_eq_true rfl) ?_
  change AW ev false 1 t_X8_takes Q 0 [some (vR 27), some (vI c), none] [] (qsM M s)
  refine AW.go pk_X8_takes 0 4 rfl rfl ?_
  change AW ev false 1 t_X8_takes Q 5 [some (vR 27), some (vI c), none] [vI 57, vI 48, vI c] (qsM M s)
  refine AW.callS (d' := 0) [vI c, vI 48, vI 57] [] sm_X8_within hX8_69 (okP_d pk_X8_takes 3 5 (.invokestatic 69) 3 rfl) (by decide) rfl (Nat.le_of_ble_eq_true rfl) ?_
  refine c_X8_within c 48 57 (by omega) (by omega) (by omega) (fun w0 zw0 => ?_)
  change AW ev false 1 t_X8_takes Q 8 [some (vR 27), some (vI c), none] [vI w0] (qsM M s)
  refine AW.go pk_X8_takes 4 4 rfl rfl ?_
  refine And.intro (show Inr w0 from ⟨by omega, by omega⟩) (And.intro (fun zh1 => ?_) (fun zh1 => ?_))
  · replace zh1 : w0 = (0 : Int) := zh1
    change AW ev false 1 t_X8_takes Q 17 [some (vR 27), some (vI c), none] [] (qsM M s)
    refine AW.go pk_X8_takes 9 15 rfl rfl ?_
    refine And.intro (show Inr s.2.2.1 ∧ Inr (-1) from ⟨⟨by omega, by omega⟩, ⟨by omega, by omega⟩⟩) (And.intro (fun zh2 => ?_) (fun zh2 => ?_))
    · replace zh2 : s.2.2.1 = (-1 : Int) := zh2
      change AW ev false 1 t_X8_takes Q 48 [some (vR 27), some (vI c), none] [] (qsM M s)
      refine AW.go pk_X8_takes 24 6 rfl rfl ?_
      refine And.intro (show 2 < mL t_X8_takes from (by decide)) ?_
      refine And.intro (show Inr 0 from ⟨by omega, by omega⟩) (And.intro (fun zh3 => ?_) (fun zh3 => ?_))
      · replace zh3 : (0 : Int) = (0 : Int) := zh3
        change AW ev false 1 t_X8_takes Q 98 [some (vR 27), some (vI c), some (vI 0)] [] (qsM M s)
        refine AW.go pk_X8_takes 52 2 rfl rfl ?_
        refine And.intro rfl ?_
        refine And.intro (show ((0 : Int) = 0 ∨ (0 : Int) = 1) from (by omega)) ?_
        exact zQ1 (fun q => q.elim (fun q => by have := q.1; omega) (fun q => by have := q.2; omega))
      · replace zh3 : ¬ ((0 : Int) = (0 : Int)) := zh3
        exfalso; omega
    · replace zh2 : ¬ (s.2.2.1 = (-1 : Int)) := zh2
      refine And.intro (show Inr c ∧ Inr 44 from ⟨⟨by omega, by omega⟩, ⟨by omega, by omega⟩⟩) (And.intro (fun zh4 => ?_) (fun zh4 => ?_))
      · replace zh4 : c = (44 : Int) := zh4
        change AW ev false 1 t_X8_takes Q 44 [some (vR 27), some (vI c), none] [] (qsM M s)
        refine AW.go pk_X8_takes 22 2 rfl rfl ?_
        change AW ev false 1 t_X8_takes Q 49 [some (vR 27), some (vI c), none] [vI 1] (qsM M s)
        refine AW.go pk_X8_takes 25 5 rfl rfl ?_
        refine And.intro (show 2 < mL t_X8_takes from (by decide)) ?_
        refine And.intro (show Inr 1 from ⟨by omega, by omega⟩) (And.intro (fun zh5 => ?_) (fun zh5 => ?_))
        · replace zh5 : (1 : Int) = (0 : Int) := zh5
          exfalso; omega
        · replace zh5 : ¬ ((1 : Int) = (0 : Int)) := zh5
          change AW ev false 1 t_X8_takes Q 55 [some (vR 27), some (vI c), some (vI 1)] [vR 27] (qsM M s)
          refine AW.callV (d' := 0) [] [] vm_X8_endItem rfl hX8_106 (okP_d pk_X8_takes 29 55 (.invokevirtual 106) 3 rfl) (by decide) rfl (Nat.le_of_ble_eq_true rfl) ?_
          refine c_X8_endItem s zs3 (by omega) (fun zc7 => ?_)
          · replace zc7 : True := zc7
            change AW ev false 1 t_X8_takes Q 58 [some (vR 27), some (vI c), some (vI 1)] [] (qsM M (qend s))
            refine AW.go pk_X8_takes 30 8 rfl rfl ?_
            refine And.intro (show Inr c ∧ Inr 44 from ⟨⟨by omega, by omega⟩, ⟨by omega, by omega⟩⟩) (And.intro (fun zh8 => ?_) (fun zh8 => ?_))
            · replace zh8 : c ≠ (44 : Int) := zh8
              change AW ev false 1 t_X8_takes Q 73 [some (vR 27), some (vI c), some (vI 1)] [vI ((qend s).1), vR 27] (qsM M (qend s))
              refine AW.go pk_X8_takes 38 9 rfl rfl ?_
              refine And.intro (show Inr c ∧ Inr 42 from ⟨⟨by omega, by omega⟩, ⟨by omega, by omega⟩⟩) (And.intro (fun zh9 => ?_) (fun zh9 => ?_))
              · replace zh9 : c ≠ (42 : Int) := zh9
                change AW ev false 1 t_X8_takes Q 89 [some (vR 27), some (vI c), some (vI 1)] [vR 27] (upM (qsM M (qend s)) 27 16 (((qend s).1) + 0))
                refine AW.go pk_X8_takes 47 7 rfl rfl ?_
                refine And.intro (show ((0 : Int) = 0 ∨ (0 : Int) = 1) from (by omega)) ?_
                refine And.intro rfl ?_
                refine And.intro (show ((1 : Int) = 0 ∨ (1 : Int) = 1) from (by omega)) ?_
                first | (exfalso; omega) | exact QcI (Q := Q) (show (1 : Int) = 1 from rfl) (show (upM (upM (upM (qsM M (qend s)) 27 16 (((qend s).1) + 0)) 27 19 0) 27 20 (-1)) = qsM M (qst c s) from by unfold qst; rw [if_neg (by omega)]; first | exact qp_c (by omega) | exact qp_s (by omega)) (zQ0 (Or.inr ⟨by omega, by omega, by omega⟩))
              · replace zh9 : ¬ (c ≠ (42 : Int)) := zh9
                change AW ev false 1 t_X8_takes Q 90 [some (vR 27), some (vI c), some (vI 1)] [vI 1, vR 27] (upM (qsM M (qend s)) 27 16 (((qend s).1) + 0))
                refine AW.go pk_X8_takes 48 6 rfl rfl ?_
                refine And.intro (show ((1 : Int) = 0 ∨ (1 : Int) = 1) from (by omega)) ?_
                refine And.intro rfl ?_
                refine And.intro (show ((1 : Int) = 0 ∨ (1 : Int) = 1) from (by omega)) ?_
                first | (exfalso; omega) | exact QcI (Q := Q) (show (1 : Int) = 1 from rfl) (show (upM (upM (upM (qsM M (qend s)) 27 16 (((qend s).1) + 0)) 27 19 1) 27 20 (-1)) = qsM M (qst c s) from by unfold qst; rw [if_neg (by omega)]; first | exact qp_c (by omega) | exact qp_s (by omega)) (zQ0 (Or.inr ⟨by omega, by omega, by omega⟩))
            · replace zh8 : ¬ (c ≠ (44 : Int)) := zh8
              change AW ev false 1 t_X8_takes Q 74 [some (vR 27), some (vI c), some (vI 1)] [vI 1, vI ((qend s).1), vR 27] (qsM M (qend s))
              refine AW.go pk_X8_takes 39 8 rfl rfl ?_
              refine And.intro (show Inr c ∧ Inr 42 from ⟨⟨by omega, by omega⟩, ⟨by omega, by omega⟩⟩) (And.intro (fun zh10 => ?_) (fun zh10 => ?_))
              · replace zh10 : c ≠ (42 : Int) := zh10
                change AW ev false 1 t_X8_takes Q 89 [some (vR 27), some (vI c), some (vI 1)] [vR 27] (upM (qsM M (qend s)) 27 16 (((qend s).1) + 1))
                refine AW.go pk_X8_takes 47 7 rfl rfl ?_
                refine And.intro (show ((0 : Int) = 0 ∨ (0 : Int) = 1) from (by omega)) ?_
                refine And.intro rfl ?_
                refine And.intro (show ((1 : Int) = 0 ∨ (1 : Int) = 1) from (by omega)) ?_
                first | (exfalso; omega) | exact QcI (Q := Q) (show (1 : Int) = 1 from rfl) (show (upM (upM (upM (qsM M (qend s)) 27 16 (((qend s).1) + 1)) 27 19 0) 27 20 (-1)) = qsM M (qst c s) from by unfold qst; rw [if_neg (by omega)]; first | exact qp_c (by omega) | exact qp_s (by omega)) (zQ0 (Or.inr ⟨by omega, by omega, by omega⟩))
              · replace zh10 : ¬ (c ≠ (42 : Int)) := zh10
                change AW ev false 1 t_X8_takes Q 90 [some (vR 27), some (vI c), some (vI 1)] [vI 1, vR 27] (upM (qsM M (qend s)) 27 16 (((qend s).1) + 1))
                refine AW.go pk_X8_takes 48 6 rfl rfl ?_
                refine And.intro (show ((1 : Int) = 0 ∨ (1 : Int) = 1) from (by omega)) ?_
                refine And.intro rfl ?_
                refine And.intro (show ((1 : Int) = 0 ∨ (1 : Int) = 1) from (by omega)) ?_
                first | (exfalso; omega) | exact QcI (Q := Q) (show (1 : Int) = 1 from rfl) (show (upM (upM (upM (qsM M (qend s)) 27 16 (((qend s).1) + 1)) 27 19 1) 27 20 (-1)) = qsM M (qst c s) from by unfold qst; rw [if_neg (by omega)]; first | exact qp_c (by omega) | exact qp_s (by omega)) (zQ0 (Or.inr ⟨by omega, by omega, by omega⟩))
      · replace zh4 : ¬ (c = (44 : Int)) := zh4
        refine And.intro (show Inr c ∧ Inr 42 from ⟨⟨by omega, by omega⟩, ⟨by omega, by omega⟩⟩) (And.intro (fun zh11 => ?_) (fun zh11 => ?_))
        · replace zh11 : c ≠ (42 : Int) := zh11
          change AW ev false 1 t_X8_takes Q 48 [some (vR 27), some (vI c), none] [] (qsM M s)
          refine AW.go pk_X8_takes 24 6 rfl rfl ?_
          refine And.intro (show 2 < mL t_X8_takes from (by decide)) ?_
          refine And.intro (show Inr 0 from ⟨by omega, by omega⟩) (And.intro (fun zh12 => ?_) (fun zh12 => ?_))
          · replace zh12 : (0 : Int) = (0 : Int) := zh12
            change AW ev false 1 t_X8_takes Q 98 [some (vR 27), some (vI c), some (vI 0)] [] (qsM M s)
            refine AW.go pk_X8_takes 52 2 rfl rfl ?_
            refine And.intro rfl ?_
            refine And.intro (show ((0 : Int) = 0 ∨ (0 : Int) = 1) from (by omega)) ?_
            exact zQ1 (fun q => q.elim (fun q => by have := q.1; omega) (fun q => by have := q.2; omega))
          · replace zh12 : ¬ ((0 : Int) = (0 : Int)) := zh12
            exfalso; omega
        · replace zh11 : ¬ (c ≠ (42 : Int)) := zh11
          refine And.intro (show Inr s.2.1 from ⟨by omega, by omega⟩) (And.intro (fun zh13 => ?_) (fun zh13 => ?_))
          · replace zh13 : s.2.1 ≠ (0 : Int) := zh13
            change AW ev false 1 t_X8_takes Q 48 [some (vR 27), some (vI c), none] [] (qsM M s)
            refine AW.go pk_X8_takes 24 6 rfl rfl ?_
            refine And.intro (show 2 < mL t_X8_takes from (by decide)) ?_
            refine And.intro (show Inr 0 from ⟨by omega, by omega⟩) (And.intro (fun zh14 => ?_) (fun zh14 => ?_))
            · replace zh14 : (0 : Int) = (0 : Int) := zh14
              change AW ev false 1 t_X8_takes Q 98 [some (vR 27), some (vI c), some (vI 0)] [] (qsM M s)
              refine AW.go pk_X8_takes 52 2 rfl rfl ?_
              refine And.intro rfl ?_
              refine And.intro (show ((0 : Int) = 0 ∨ (0 : Int) = 1) from (by omega)) ?_
              exact zQ1 (fun q => q.elim (fun q => by have := q.1; omega) (fun q => by have := q.2; omega))
            · replace zh14 : ¬ ((0 : Int) = (0 : Int)) := zh14
              exfalso; omega
          · replace zh13 : ¬ (s.2.1 ≠ (0 : Int)) := zh13
            change AW ev false 1 t_X8_takes Q 49 [some (vR 27), some (vI c), none] [vI 1] (qsM M s)
            refine AW.go pk_X8_takes 25 5 rfl rfl ?_
            refine And.intro (show 2 < mL t_X8_takes from (by decide)) ?_
            refine And.intro (show Inr 1 from ⟨by omega, by omega⟩) (And.intro (fun zh15 => ?_) (fun zh15 => ?_))
            · replace zh15 : (1 : Int) = (0 : Int) := zh15
              exfalso; omega
            · replace zh15 : ¬ ((1 : Int) = (0 : Int)) := zh15
              change AW ev false 1 t_X8_takes Q 55 [some (vR 27), some (vI c), some (vI 1)] [vR 27] (qsM M s)
              refine AW.callV (d' := 0) [] [] vm_X8_endItem rfl hX8_106 (okP_d pk_X8_takes 29 55 (.invokevirtual 106) 3 rfl) (by decide) rfl (Nat.le_of_ble_eq_true rfl) ?_
              refine c_X8_endItem s zs3 (by omega) (fun zc17 => ?_)
              · replace zc17 : True := zc17
                change AW ev false 1 t_X8_takes Q 58 [some (vR 27), some (vI c), some (vI 1)] [] (qsM M (qend s))
                refine AW.go pk_X8_takes 30 8 rfl rfl ?_
                refine And.intro (show Inr c ∧ Inr 44 from ⟨⟨by omega, by omega⟩, ⟨by omega, by omega⟩⟩) (And.intro (fun zh18 => ?_) (fun zh18 => ?_))
                · replace zh18 : c ≠ (44 : Int) := zh18
                  change AW ev false 1 t_X8_takes Q 73 [some (vR 27), some (vI c), some (vI 1)] [vI ((qend s).1), vR 27] (qsM M (qend s))
                  refine AW.go pk_X8_takes 38 9 rfl rfl ?_
                  refine And.intro (show Inr c ∧ Inr 42 from ⟨⟨by omega, by omega⟩, ⟨by omega, by omega⟩⟩) (And.intro (fun zh19 => ?_) (fun zh19 => ?_))
                  · replace zh19 : c ≠ (42 : Int) := zh19
                    change AW ev false 1 t_X8_takes Q 89 [some (vR 27), some (vI c), some (vI 1)] [vR 27] (upM (qsM M (qend s)) 27 16 (((qend s).1) + 0))
                    refine AW.go pk_X8_takes 47 7 rfl rfl ?_
                    refine And.intro (show ((0 : Int) = 0 ∨ (0 : Int) = 1) from (by omega)) ?_
                    refine And.intro rfl ?_
                    refine And.intro (show ((1 : Int) = 0 ∨ (1 : Int) = 1) from (by omega)) ?_
                    first | (exfalso; omega) | exact QcI (Q := Q) (show (1 : Int) = 1 from rfl) (show (upM (upM (upM (qsM M (qend s)) 27 16 (((qend s).1) + 0)) 27 19 0) 27 20 (-1)) = qsM M (qst c s) from by unfold qst; rw [if_neg (by omega)]; first | exact qp_c (by omega) | exact qp_s (by omega)) (zQ0 (Or.inr ⟨by omega, by omega, by omega⟩))
                  · replace zh19 : ¬ (c ≠ (42 : Int)) := zh19
                    change AW ev false 1 t_X8_takes Q 90 [some (vR 27), some (vI c), some (vI 1)] [vI 1, vR 27] (upM (qsM M (qend s)) 27 16 (((qend s).1) + 0))
                    refine AW.go pk_X8_takes 48 6 rfl rfl ?_
                    refine And.intro (show ((1 : Int) = 0 ∨ (1 : Int) = 1) from (by omega)) ?_
                    refine And.intro rfl ?_
                    refine And.intro (show ((1 : Int) = 0 ∨ (1 : Int) = 1) from (by omega)) ?_
                    first | (exfalso; omega) | exact QcI (Q := Q) (show (1 : Int) = 1 from rfl) (show (upM (upM (upM (qsM M (qend s)) 27 16 (((qend s).1) + 0)) 27 19 1) 27 20 (-1)) = qsM M (qst c s) from by unfold qst; rw [if_neg (by omega)]; first | exact qp_c (by omega) | exact qp_s (by omega)) (zQ0 (Or.inr ⟨by omega, by omega, by omega⟩))
                · replace zh18 : ¬ (c ≠ (44 : Int)) := zh18
                  change AW ev false 1 t_X8_takes Q 74 [some (vR 27), some (vI c), some (vI 1)] [vI 1, vI ((qend s).1), vR 27] (qsM M (qend s))
                  refine AW.go pk_X8_takes 39 8 rfl rfl ?_
                  refine And.intro (show Inr c ∧ Inr 42 from ⟨⟨by omega, by omega⟩, ⟨by omega, by omega⟩⟩) (And.intro (fun zh20 => ?_) (fun zh20 => ?_))
                  · replace zh20 : c ≠ (42 : Int) := zh20
                    change AW ev false 1 t_X8_takes Q 89 [some (vR 27), some (vI c), some (vI 1)] [vR 27] (upM (qsM M (qend s)) 27 16 (((qend s).1) + 1))
                    refine AW.go pk_X8_takes 47 7 rfl rfl ?_
                    refine And.intro (show ((0 : Int) = 0 ∨ (0 : Int) = 1) from (by omega)) ?_
                    refine And.intro rfl ?_
                    refine And.intro (show ((1 : Int) = 0 ∨ (1 : Int) = 1) from (by omega)) ?_
                    first | (exfalso; omega) | exact QcI (Q := Q) (show (1 : Int) = 1 from rfl) (show (upM (upM (upM (qsM M (qend s)) 27 16 (((qend s).1) + 1)) 27 19 0) 27 20 (-1)) = qsM M (qst c s) from by unfold qst; rw [if_neg (by omega)]; first | exact qp_c (by omega) | exact qp_s (by omega)) (zQ0 (Or.inr ⟨by omega, by omega, by omega⟩))
                  · replace zh20 : ¬ (c ≠ (42 : Int)) := zh20
                    change AW ev false 1 t_X8_takes Q 90 [some (vR 27), some (vI c), some (vI 1)] [vI 1, vR 27] (upM (qsM M (qend s)) 27 16 (((qend s).1) + 1))
                    refine AW.go pk_X8_takes 48 6 rfl rfl ?_
                    refine And.intro (show ((1 : Int) = 0 ∨ (1 : Int) = 1) from (by omega)) ?_
                    refine And.intro rfl ?_
                    refine And.intro (show ((1 : Int) = 0 ∨ (1 : Int) = 1) from (by omega)) ?_
                    first | (exfalso; omega) | exact QcI (Q := Q) (show (1 : Int) = 1 from rfl) (show (upM (upM (upM (qsM M (qend s)) 27 16 (((qend s).1) + 1)) 27 19 1) 27 20 (-1)) = qsM M (qst c s) from by unfold qst; rw [if_neg (by omega)]; first | exact qp_c (by omega) | exact qp_s (by omega)) (zQ0 (Or.inr ⟨by omega, by omega, by omega⟩))
  · replace zh1 : ¬ (w0 = (0 : Int)) := zh1
    change AW ev false 1 t_X8_takes Q 13 [some (vR 27), some (vI c), none] [vI c, vR 27] (qsM M s)
    refine AW.callV (d' := 0) [vI c] [] vm_X8_takesDigit rfl hX8_103 (okP_d pk_X8_takes 7 13 (.invokevirtual 103) 3 rfl) (by decide) rfl (Nat.le_of_ble_eq_true rfl) ?_
    refine c_X8_takesDigit s c zs3 zs4 (by omega) (fun zc22 => ?_) (fun zc22 => ?_)
    · replace zc22 : qokD (c - 48) s := zc22
      have zcc := zc22
      change AW ev false 1 t_X8_takes Q 16 [some (vR 27), some (vI c), none] [vI 1] (qsM M (qput s (qnx (c - 48) s)))
      refine AW.go pk_X8_takes 8 1 rfl rfl ?_
      refine And.intro rfl ?_
      refine And.intro (show ((1 : Int) = 0 ∨ (1 : Int) = 1) from (by omega)) ?_
      exact QcI (Q := Q) (show (1 : Int) = 1 from rfl) (show (qsM M (qput s (qnx (c - 48) s))) = qsM M (qst c s) from by unfold qst; rw [if_pos (by omega)]) (zQ0 (Or.inl ⟨by omega, zcc⟩))
    · replace zc22 : ¬ qokD (c - 48) s := zc22
      have zcc := zc22
      change AW ev false 1 t_X8_takes Q 16 [some (vR 27), some (vI c), none] [vI 0] (qsM M s)
      refine AW.go pk_X8_takes 8 1 rfl rfl ?_
      refine And.intro rfl ?_
      refine And.intro (show ((0 : Int) = 0 ∨ (0 : Int) = 1) from (by omega)) ?_
      exact zQ1 (fun q => q.elim (fun q => zcc q.2) (fun q => q.1 (by omega)))
theorem lz_read8 {ev : Ev} {Q : Out → Mem → Prop} {M : Mem}   (zp0 : 0 ≤ M 27 14 ∧ M 27 14 ≤ 40) (zp1 : ∀ i, 0 ≤ i → i < M 27 14 → 33 ≤ M 38 i ∧ M 38 i ≤ 126)  : ∀ (n : Nat) (i : Int) (s : QS), i + n = M 27 14 → (0 ≤ i) → (QSI i s) → (Q (.inl (some (vI (qrun (M 38) n i s).1))) (qsM M (qrun (M 38) n i s).2)) → AW ev false 2 t_X8_read Q 17 [some (vR 27), some (vI i)] [] (qsM M s) := by
  intro n
  induction n with
  | zero =>
    intro i s zn zv0 zv1 zv2
    refine AW.go pk_X8_read 11 10 rfl rfl ?_
    refine And.intro (show Inr i ∧ Inr (M 27 14) from ⟨⟨by omega, by omega⟩, ⟨by omega, by omega⟩⟩) (And.intro (fun zh1 => ?_) (fun zh1 => ?_))
    · replace zh1 : M 27 14 ≤ i := zh1
      change AW ev false 2 t_X8_read Q 44 [some (vR 27), some (vI i)] [] (qsM M s)
      refine AW.go pk_X8_read 24 2 rfl rfl ?_
      refine And.intro rfl ?_
      first
        | exact QcI (Q := Q) rfl rfl zv2
        | (have zps : qrun (M 38) (n + 1) i s = (i, s) := by
             unfold qrun; rw [if_neg zcc]
           rw [zps] at zv2; exact zv2)
    · replace zh1 : ¬ (M 27 14 ≤ i) := zh1
      exfalso; omega
  | succ n zih =>
    intro i s zn zv0 zv1 zv2
    have zb := zp1 i (by omega) (by omega)
    refine AW.go pk_X8_read 11 10 rfl rfl ?_
    refine And.intro (show Inr i ∧ Inr (M 27 14) from ⟨⟨by omega, by omega⟩, ⟨by omega, by omega⟩⟩) (And.intro (fun zh1 => ?_) (fun zh1 => ?_))
    · replace zh1 : M 27 14 ≤ i := zh1
      exfalso; omega
    · replace zh1 : ¬ (M 27 14 ≤ i) := zh1
      refine And.intro (show (0 ≤ i ∧ i < 40) from (by omega)) ?_
      have zf2 := zp1 i (by omega) (by omega)
      change AW ev false 2 t_X8_read Q 32 [some (vR 27), some (vI i)] [vI (M 38 i), vR 27] (qsM M s)
      refine AW.callV (d' := 1) [vI (M 38 i)] [] vm_X8_takes rfl hX8_109 (okP_d pk_X8_read 20 32 (.invokevirtual 109) 3 rfl) (by decide) rfl (Nat.le_of_ble_eq_true rfl) ?_
      refine c_X8_takes s (M 38 i) i zv1 (by omega) (by omega) (fun zc4 => ?_) (fun zc4 => ?_)
      · replace zc4 : qok (M 38 i) s := zc4
        have zcc := zc4
        change AW ev false 2 t_X8_read Q 35 [some (vR 27), some (vI i)] [vI 1] (qsM M (qst (M 38 i) s))
        refine AW.go pk_X8_read 21 3 rfl rfl ?_
        refine And.intro (show Inr 1 from ⟨by omega, by omega⟩) (And.intro (fun zh5 => ?_) (fun zh5 => ?_))
        · replace zh5 : (1 : Int) = (0 : Int) := zh5
          exfalso; omega
        · replace zh5 : ¬ ((1 : Int) = (0 : Int)) := zh5
          refine And.intro (show 1 < mL t_X8_read from (by decide)) ?_
          change AW ev false 2 t_X8_read Q 17 [some (vR 27), some (vI (i + 1))] [] (qsM M (qst (M 38 i) s))
          exact zih (i + 1) (qst (M 38 i) s) (by omega) (by omega) (QSI.step zv1 zcc) (by rw [show qrun (M 38) (n + 1) i s = qrun (M 38) n (i + 1) (qst (M 38 i) s) from by (conv => lhs; unfold qrun); rw [if_pos zcc]] at zv2; exact zv2)
      · replace zc4 : ¬ qok (M 38 i) s := zc4
        have zcc := zc4
        change AW ev false 2 t_X8_read Q 35 [some (vR 27), some (vI i)] [vI 0] (qsM M s)
        refine AW.go pk_X8_read 21 3 rfl rfl ?_
        refine And.intro (show Inr 0 from ⟨by omega, by omega⟩) (And.intro (fun zh6 => ?_) (fun zh6 => ?_))
        · replace zh6 : (0 : Int) = (0 : Int) := zh6
          change AW ev false 2 t_X8_read Q 44 [some (vR 27), some (vI i)] [] (qsM M s)
          refine AW.go pk_X8_read 24 2 rfl rfl ?_
          refine And.intro rfl ?_
          first
            | exact QcI (Q := Q) rfl rfl zv2
            | (have zps : qrun (M 38) (n + 1) i s = (i, s) := by
                 unfold qrun; rw [if_neg zcc]
               rw [zps] at zv2; exact zv2)
        · replace zh6 : ¬ ((0 : Int) = (0 : Int)) := zh6
          exfalso; omega
theorem c_X8_read {ev : Ev} {Q : Out → Mem → Prop} {M : Mem}   (zp0 : 0 ≤ M 27 14 ∧ M 27 14 ≤ 40) (zp1 : ∀ i, 0 ≤ i → i < M 27 14 → 33 ≤ M 38 i ∧ M 38 i ≤ 126) (zQ0 : True → Q (.inl (some (vI ((qrun (M 38) (M 27 14).toNat 0 (0, 0, -1, M 39, M 40)).1)))) (qsM M ((qrun (M 38) (M 27 14).toNat 0 (0, 0, -1, M 39, M 40)).2))) : AM ev false 2 t_X8_read [vR 27] M Q := by
  refine AM.of mt_X8_read (Nat.le_of_ble_eq_true rfl) ?_
  change AW ev false 2 t_X8_read Q 0 [some (vR 27), none] [] M
  refine AW.go pk_X8_read 0 11 rfl rfl ?_
  refine And.intro (show ((0 : Int) = 0 ∨ (0 : Int) = 1) from (by omega)) ?_
  refine And.intro (show 1 < mL t_X8_read from (by decide)) ?_
  change AW ev false 2 t_X8_read Q 17 [some (vR 27), some (vI 0)] [] (upM (upM (upM M 27 16 0) 27 19 0) 27 20 (-1))
  exact AW.mem (qs_0 M) (lz_read8 zp0 zp1 (M 27 14).toNat 0 (0, 0, -1, M 39, M 40) (by omega) (by omega) ⟨by dsimp only; omega, by dsimp only; omega, by dsimp only; omega, by dsimp only; omega, fun q => by dsimp only at q; omega⟩ (zQ0 trivial))
theorem c_X8_firstError {ev : Ev} {Q : Out → Mem → Prop} {M : Mem}   (zp0 : 0 ≤ M 27 14 ∧ M 27 14 ≤ 40) (zp1 : ∀ i, 0 ≤ i → i < M 27 14 → 33 ≤ M 38 i ∧ M 38 i ≤ 126) (zQ0 : True → Q (.inl (some (vI ((qrun (M 38) (M 27 14).toNat 0 (0, 0, -1, M 39, M 40)).1)))) (qsM (upM M 27 0 0) ((qrun (M 38) (M 27 14).toNat 0 (0, 0, -1, M 39, M 40)).2))) : AM ev false 3 t_X8_firstError [vR 27] M Q := by
  refine AM.of mt_X8_firstError (Nat.le_of_ble_eq_true rfl) ?_
  change AW ev false 3 t_X8_firstError Q 0 [some (vR 27)] [] M
  refine AW.go pk_X8_firstError 0 5 rfl rfl ?_
  change AW ev false 3 t_X8_firstError Q 6 [some (vR 27)] [vR 27] (upM M 27 0 0)
  refine AW.callV (d' := 2) [] [] vm_X8_read rfl hX8_112 (okP_d pk_X8_firstError 4 6 (.invokevirtual 112) 3 rfl) (by decide) rfl (Nat.le_of_ble_eq_true rfl) ?_
  refine c_X8_read  zp0 zp1 (fun zc2 => ?_)
  · replace zc2 : True := zc2
    change AW ev false 3 t_X8_firstError Q 9 [some (vR 27)] [vI ((qrun (M 38) (M 27 14).toNat 0 (0, 0, -1, M 39, M 40)).1)] (qsM (upM M 27 0 0) ((qrun (M 38) (M 27 14).toNat 0 (0, 0, -1, M 39, M 40)).2))
    refine AW.go pk_X8_firstError 5 1 rfl rfl ?_
    refine And.intro rfl ?_
    exact zQ0 trivial
theorem lz_cells8 {ev : Ev} {Q : Out → Mem → Prop} {M : Mem}  (s : QS) (zp0 : 0 ≤ s.1 ∧ s.1 < 21)  : ∀ (n : Nat) (i : Int) (c : Int), i + n = s.1 + 1 → (0 ≤ i) → (∀ r : Int, r = itT (fun j a => a + s.2.2.2.2 j) n i c → Q (.inl (some (vI r))) (qsM M s)) → AW ev false 0 t_X8_cellsRead Q 4 [some (vR 27), some (vI c), some (vI i)] [] (qsM M s) := by
  intro n
  induction n with
  | zero =>
    intro i c zn zv0 zv1
    refine AW.go pk_X8_cellsRead 4 13 rfl rfl ?_
    refine And.intro (show Inr i ∧ Inr s.1 from ⟨⟨by omega, by omega⟩, ⟨by omega, by omega⟩⟩) (And.intro (fun zh1 => ?_) (fun zh1 => ?_))
    · replace zh1 : s.1 < i := zh1
      change AW ev false 0 t_X8_cellsRead Q 27 [some (vR 27), some (vI c), some (vI i)] [] (qsM M s)
      refine AW.go pk_X8_cellsRead 17 2 rfl rfl ?_
      refine And.intro rfl ?_
      exact zv1 _ rfl
    · replace zh1 : ¬ (s.1 < i) := zh1
      exfalso; omega
  | succ n zih =>
    intro i c zn zv0 zv1
    refine AW.go pk_X8_cellsRead 4 13 rfl rfl ?_
    refine And.intro (show Inr i ∧ Inr s.1 from ⟨⟨by omega, by omega⟩, ⟨by omega, by omega⟩⟩) (And.intro (fun zh1 => ?_) (fun zh1 => ?_))
    · replace zh1 : s.1 < i := zh1
      exfalso; omega
    · replace zh1 : ¬ (s.1 < i) := zh1
      refine And.intro (show (0 ≤ i ∧ i < 21) from (by omega)) ?_
      refine And.intro (show 1 < mL t_X8_cellsRead from (by decide)) ?_
      refine And.intro (show 2 < mL t_X8_cellsRead from (by decide)) ?_
      change AW ev false 0 t_X8_cellsRead Q 4 [some (vR 27), some (vI (c + (s.2.2.2.2 i))), some (vI (i + 1))] [] (qsM M s)
      exact zih (i + 1) (c + (s.2.2.2.2 i)) (by omega) (by omega) (fun r zr => zv1 r (itT_step rfl zr))
theorem c_X8_cellsRead {ev : Ev} {Q : Out → Mem → Prop} {M : Mem}  (s : QS) (zp0 : 0 ≤ s.1 ∧ s.1 < 21) (zQ : ∀ r : Int, r = icS s.2.2.2.2 (s.1 + 1).toNat 0 → Q (.inl (some (vI r))) (qsM M s)) : AM ev false 0 t_X8_cellsRead [vR 27] (qsM M s) Q := by
  refine AM.of mt_X8_cellsRead (Nat.le_of_ble_eq_true rfl) ?_
  change AW ev false 0 t_X8_cellsRead Q 0 [some (vR 27), none, none] [] (qsM M s)
  refine AW.go pk_X8_cellsRead 0 4 rfl rfl ?_
  refine And.intro (show 1 < mL t_X8_cellsRead from (by decide)) ?_
  refine And.intro (show 2 < mL t_X8_cellsRead from (by decide)) ?_
  change AW ev false 0 t_X8_cellsRead Q 4 [some (vR 27), some (vI 0), some (vI 0)] [] (qsM M s)
  exact lz_cells8 s zp0 (s.1 + 1).toNat 0 0 (by omega) (by omega) zQ
theorem lz_loadIn {ev : Ev} {Q : Out → Mem → Prop} {M : Mem}  (f : Int) (zp0 : 0 ≤ M 27 14 ∧ M 27 14 ≤ 40) (zp1 : ∀ i, 0 ≤ i → i < M 27 14 → 33 ≤ M 38 i ∧ M 38 i ≤ 126) (zp2 : -2147483648 ≤ f ∧ f < 2147483648) (z : QS) (zz0 : 0 ≤ z.1 ∧ z.1 < 21) (zz : ∀ j, 0 ≤ j → j < z.1 + 1 → (0 ≤ z.2.2.2.1 j ∧ z.2.2.2.1 j ≤ 500) ∧ (1 ≤ z.2.2.2.2 j ∧ z.2.2.2.2 j ≤ 144)) (b : Int) (i c0 : Int) (h : Int → Int) (zi : 0 ≤ i ∧ i < z.1 + 1) (zc : 0 ≤ c0 ∧ c0 + z.2.2.2.2 i ≤ 144) (zX : AW ev false 3 t_X8_load Q 133 [some (vR 27), some (vI f), some (vI b), some (vI (c0 + z.2.2.2.2 i)), some (vI i), some (vI (z.2.2.2.2 i))] [] (stR (upM (qsM M z) 27 0 0) (segF h c0 (c0 + z.2.2.2.2 i) (z.2.2.2.1 i)))) : ∀ (n : Nat) (c : Int) (e : Int), e + n = z.2.2.2.2 i → (0 ≤ e) → (c = c0 + e) → AW ev false 3 t_X8_load Q 99 [some (vR 27), some (vI f), some (vI b), some (vI c), some (vI i), some (vI e)] [] (stR (upM (qsM M z) 27 0 0) (segF h c0 c (z.2.2.2.1 i))) := by
  intro n
  induction n with
  | zero =>
    intro c e zn zv0 zv1
    have zzi := zz i (by omega) (by omega)
    refine AW.go pk_X8_load 52 17 rfl rfl ?_
    refine And.intro (show (0 ≤ i ∧ i < 21) from (by omega)) ?_
    refine And.intro (show Inr e ∧ Inr (z.2.2.2.2 i) from ⟨⟨by omega, by omega⟩, ⟨by omega, by omega⟩⟩) (And.intro (fun zh1 => ?_) (fun zh1 => ?_))
    · replace zh1 : z.2.2.2.2 i ≤ e := zh1
      change AW ev false 3 t_X8_load Q 133 [some (vR 27), some (vI f), some (vI b), some (vI c), some (vI i), some (vI e)] [] (stR (upM (qsM M z) 27 0 0) (segF h c0 c (z.2.2.2.1 i)))
      have zee : e = z.2.2.2.2 i := by omega
      have zce : c = c0 + z.2.2.2.2 i := by omega
      rw [zee, zce]
      exact zX
    · replace zh1 : ¬ (z.2.2.2.2 i ≤ e) := zh1
      exfalso; omega
  | succ n zih =>
    intro c e zn zv0 zv1
    have zzi := zz i (by omega) (by omega)
    refine AW.go pk_X8_load 52 17 rfl rfl ?_
    refine And.intro (show (0 ≤ i ∧ i < 21) from (by omega)) ?_
    refine And.intro (show Inr e ∧ Inr (z.2.2.2.2 i) from ⟨⟨by omega, by omega⟩, ⟨by omega, by omega⟩⟩) (And.intro (fun zh1 => ?_) (fun zh1 => ?_))
    · replace zh1 : z.2.2.2.2 i ≤ e := zh1
      exfalso; omega
    · replace zh1 : ¬ (z.2.2.2.2 i ≤ e) := zh1
      refine And.intro (show (0 ≤ i ∧ i < 21) from (by omega)) ?_
      refine And.intro (show ((0 ≤ c ∧ c < 144) ∧ ((0 : Nat) = 0 ∨ z.2.2.2.1 i = 0 ∨ z.2.2.2.1 i = 1)) from ⟨by omega, Or.inl rfl⟩) ?_
      refine And.intro (show 3 < mL t_X8_load from (by decide)) ?_
      refine And.intro (show 5 < mL t_X8_load from (by decide)) ?_
      change AW ev false 3 t_X8_load Q 99 [some (vR 27), some (vI f), some (vI b), some (vI (c + 1)), some (vI i), some (vI (e + 1))] [] (upM (stR (upM (qsM M z) 27 0 0) (segF h c0 c (z.2.2.2.1 i))) 28 c (z.2.2.2.1 i))
      exact AW.mem (show (upM (stR (upM (qsM M z) 27 0 0) (segF h c0 c (z.2.2.2.1 i))) 28 c (z.2.2.2.1 i)) = (stR (upM (qsM M z) 27 0 0) (segF h c0 (c + 1) (z.2.2.2.1 i))) from by exact segR_step h c0 c (z.2.2.2.1 i) _ (by omega)) (zih (c + 1) (e + 1) (by omega) (by omega) (by omega))
theorem lz_load {ev : Ev} {Q : Out → Mem → Prop} {M : Mem}  (f : Int) (zp0 : 0 ≤ M 27 14 ∧ M 27 14 ≤ 40) (zp1 : ∀ i, 0 ≤ i → i < M 27 14 → 33 ≤ M 38 i ∧ M 38 i ≤ 126) (zp2 : -2147483648 ≤ f ∧ f < 2147483648) (z : QS) (zz0 : 0 ≤ z.1 ∧ z.1 < 21) (zz : ∀ j, 0 ≤ j → j < z.1 + 1 → (0 ≤ z.2.2.2.1 j ∧ z.2.2.2.1 j ≤ 500) ∧ (1 ≤ z.2.2.2.2 j ∧ z.2.2.2.2 j ≤ 144)) (b : Int) : ∀ (n : Nat) (c : Int) (i : Int) (h : Int → Int), i + n = z.1 + 1 → (0 ≤ i) → (0 ≤ c ∧ c + icS z.2.2.2.2 n i ≤ 144) → (∀ c2 : Int, c2 = c + icS z.2.2.2.2 n i → Q (.inl (some (vI (c2 - f)))) (upM (stR (upM (qsM M z) 27 0 0) (segT z.2.2.2.1 z.2.2.2.2 n i c h)) 27 14 0)) → AW ev false 3 t_X8_load Q 87 [some (vR 27), some (vI f), some (vI b), some (vI c), some (vI i), none] [] (stR (upM (qsM M z) 27 0 0) h) := by
  intro n
  induction n with
  | zero =>
    intro c i h zn zv0 zv1 zv2
    refine AW.go pk_X8_load 46 6 rfl rfl ?_
    refine And.intro (show Inr i ∧ Inr z.1 from ⟨⟨by omega, by omega⟩, ⟨by omega, by omega⟩⟩) (And.intro (fun zh1 => ?_) (fun zh1 => ?_))
    · replace zh1 : z.1 < i := zh1
      change AW ev false 3 t_X8_load Q 139 [some (vR 27), some (vI f), some (vI b), some (vI c), some (vI i), none] [] (stR (upM (qsM M z) 27 0 0) h)
      refine AW.go pk_X8_load 71 7 rfl rfl ?_
      refine And.intro rfl ?_
      exact zv2 c (by simp only [icS, itT]; omega)
    · replace zh1 : ¬ (z.1 < i) := zh1
      exfalso; omega
  | succ n zih =>
    intro c i h zn zv0 zv1 zv2
    refine AW.go pk_X8_load 46 6 rfl rfl ?_
    refine And.intro (show Inr i ∧ Inr z.1 from ⟨⟨by omega, by omega⟩, ⟨by omega, by omega⟩⟩) (And.intro (fun zh1 => ?_) (fun zh1 => ?_))
    · replace zh1 : z.1 < i := zh1
      exfalso; omega
    · replace zh1 : ¬ (z.1 < i) := zh1
      refine And.intro (show 5 < mL t_X8_load from (by decide)) ?_
      change AW ev false 3 t_X8_load Q 99 [some (vR 27), some (vI f), some (vI b), some (vI c), some (vI i), some (vI 0)] [] (stR (upM (qsM M z) 27 0 0) h)
      have zzi := zz i (by omega) (by omega)
      have zun := icS_s z.2.2.2.2 n i
      have znn := icS_bd (f := z.2.2.2.2) n (i + 1) (fun j q0 q1 => (zz j (by omega) (by omega)).2)
      refine AW.mem (segR_0 h c (z.2.2.2.1 i) _) (lz_loadIn f zp0 zp1 zp2 z zz0 zz b i c h (by omega) (by omega) ?_ (z.2.2.2.2 i).toNat c 0 (by omega) (by omega) (by omega))
      refine AW.go pk_X8_load 69 2 rfl rfl ?_
      refine And.intro (show 4 < mL t_X8_load from (by decide)) ?_
      change AW ev false 3 t_X8_load Q 87 [some (vR 27), some (vI f), some (vI b), some (vI (c + z.2.2.2.2 i)), some (vI (i + 1)), some (vI (z.2.2.2.2 i))] [] (stR (upM (qsM M z) 27 0 0) (segF h c (c + z.2.2.2.2 i) (z.2.2.2.1 i)))
      refine AW.sub [some (vR 27), some (vI f), some (vI b), some (vI (c + z.2.2.2.2 i)), some (vI (i + 1)), none] (by simp [lsub]) ?_
      exact zih (c + z.2.2.2.2 i) (i + 1) (segF h c (c + z.2.2.2.2 i) (z.2.2.2.1 i)) (by omega) (by omega) (by omega) (fun c2 zc2 => zv2 c2 (by omega))
theorem c_X8_load {ev : Ev} {Q : Out → Mem → Prop} {M : Mem}  (f : Int) (zp0 : 0 ≤ M 27 14 ∧ M 27 14 ≤ 40) (zp1 : ∀ i, 0 ≤ i → i < M 27 14 → 33 ≤ M 38 i ∧ M 38 i ≤ 126) (zp2 : -2147483648 ≤ f ∧ f < 2147483648) (zQ0 : (0 ≤ f ∧ f < 144) ∧ ((qrun (M 38) (M 27 14).toNat 0 (0, 0, -1, M 39, M 40)).1 = M 27 14 ∧ (qrun (M 38) (M 27 14).toNat 0 (0, 0, -1, M 39, M 40)).2.2.2.1 ≠ -1) ∧ f + icS (qend (qrun (M 38) (M 27 14).toNat 0 (0, 0, -1, M 39, M 40)).2).2.2.2.2 ((qrun (M 38) (M 27 14).toNat 0 (0, 0, -1, M 39, M 40)).2.1 + 1).toNat 0 ≤ 144 → Q (.inl (some (vI (icS (qend (qrun (M 38) (M 27 14).toNat 0 (0, 0, -1, M 39, M 40)).2).2.2.2.2 ((qrun (M 38) (M 27 14).toNat 0 (0, 0, -1, M 39, M 40)).2.1 + 1).toNat 0)))) (upM (stR (upM (qsM M (qend (qrun (M 38) (M 27 14).toNat 0 (0, 0, -1, M 39, M 40)).2)) 27 0 0) (segT (qend (qrun (M 38) (M 27 14).toNat 0 (0, 0, -1, M 39, M 40)).2).2.2.2.1 (qend (qrun (M 38) (M 27 14).toNat 0 (0, 0, -1, M 39, M 40)).2).2.2.2.2 ((qend (qrun (M 38) (M 27 14).toNat 0 (0, 0, -1, M 39, M 40)).2).1 + 1).toNat 0 f (M 28))) 27 14 0)) (zQ1 : ∀ (X : QS), ¬ (0 ≤ f ∧ f < 144) → Q (.inl (some (vI 0))) (upM (qsM M X) 27 0 1)) (zQ2 : ∀ (X : QS), (0 ≤ f ∧ f < 144) ∧ ¬ ((qrun (M 38) (M 27 14).toNat 0 (0, 0, -1, M 39, M 40)).1 = M 27 14 ∧ (qrun (M 38) (M 27 14).toNat 0 (0, 0, -1, M 39, M 40)).2.2.2.1 ≠ -1) → Q (.inl (some (vI 0))) (upM (qsM M X) 27 0 2)) (zQ3 : ∀ (X : QS), (0 ≤ f ∧ f < 144) ∧ ((qrun (M 38) (M 27 14).toNat 0 (0, 0, -1, M 39, M 40)).1 = M 27 14 ∧ (qrun (M 38) (M 27 14).toNat 0 (0, 0, -1, M 39, M 40)).2.2.2.1 ≠ -1) ∧ 144 < f + icS (qend (qrun (M 38) (M 27 14).toNat 0 (0, 0, -1, M 39, M 40)).2).2.2.2.2 ((qrun (M 38) (M 27 14).toNat 0 (0, 0, -1, M 39, M 40)).2.1 + 1).toNat 0 → Q (.inl (some (vI 0))) (upM (qsM M X) 27 0 3)) : AM ev false 3 t_X8_load [vR 27, vI f] M Q := by
  have zqi := qrun_I (M 38) (M 27 14).toNat 0 (0, 0, -1, M 39, M 40) (QSI_0 _ _) (by omega)
  have zqj := qrun_J (M 38) (M 27 14).toNat 0 (0, 0, -1, M 39, M 40) (QSJ_0 _ _)
  have zq1 := zqi.1.1
  have zq2 := zqi.1.2.1
  have zq3 := zqi.1.2.2.1
  have zq4 := zqi.1.2.2.2.1
  have zq5 := zqi.1.2.2.2.2
  have zq6 := zqi.2
  refine AM.of mt_X8_load (Nat.le_of_ble_eq_true rfl) ?_
  change AW ev false 3 t_X8_load Q 0 [some (vR 27), some (vI f), none, none, none, none] [] M
  refine AW.go pk_X8_load 0 2 rfl rfl ?_
  change AW ev false 3 t_X8_load Q 1 [some (vR 27), some (vI f), none, none, none, none] [vR 27] M
  refine AW.callV (d' := 2) [] [] vm_X8_read rfl hX8_112 (okP_d pk_X8_load 1 1 (.invokevirtual 112) 3 rfl) (by decide) rfl (Nat.le_of_ble_eq_true rfl) ?_
  refine c_X8_read  zp0 zp1 (fun zc2 => ?_)
  · replace zc2 : True := zc2
    change AW ev false 3 t_X8_load Q 4 [some (vR 27), some (vI f), none, none, none, none] [vI ((qrun (M 38) (M 27 14).toNat 0 (0, 0, -1, M 39, M 40)).1)] (qsM M ((qrun (M 38) (M 27 14).toNat 0 (0, 0, -1, M 39, M 40)).2))
    refine AW.go pk_X8_load 2 9 rfl rfl ?_
    refine And.intro (show Inr ((qrun (M 38) (M 27 14).toNat 0 (0, 0, -1, M 39, M 40)).1) ∧ Inr (M 27 14) from ⟨⟨by omega, by omega⟩, ⟨by omega, by omega⟩⟩) (And.intro (fun zh3 => ?_) (fun zh3 => ?_))
    · replace zh3 : (qrun (M 38) (M 27 14).toNat 0 (0, 0, -1, M 39, M 40)).1 ≠ M 27 14 := zh3
      change AW ev false 3 t_X8_load Q 23 [some (vR 27), some (vI f), none, none, none, none] [] (qsM M ((qrun (M 38) (M 27 14).toNat 0 (0, 0, -1, M 39, M 40)).2))
      refine AW.go pk_X8_load 11 6 rfl rfl ?_
      refine And.intro (show 2 < mL t_X8_load from (by decide)) ?_
      refine And.intro (show Inr 0 from ⟨by omega, by omega⟩) (And.intro (fun zh4 => ?_) (fun zh4 => ?_))
      · replace zh4 : (0 : Int) = (0 : Int) := zh4
        change AW ev false 3 t_X8_load Q 33 [some (vR 27), some (vI f), some (vI 0), none, none, none] [] (qsM M ((qrun (M 38) (M 27 14).toNat 0 (0, 0, -1, M 39, M 40)).2))
        refine AW.go pk_X8_load 17 3 rfl rfl ?_
        change AW ev false 3 t_X8_load Q 35 [some (vR 27), some (vI f), some (vI 0), none, none, none] [vI f, vR 27] (qsM M ((qrun (M 38) (M 27 14).toNat 0 (0, 0, -1, M 39, M 40)).2))
        refine AW.callS (d' := 1) [vI f] [vR 27] sm_X8_isCell hX8_82 (okP_d pk_X8_load 19 35 (.invokestatic 82) 3 rfl) (by decide) rfl (Nat.le_of_ble_eq_true rfl) ?_
        refine c_X8_isCell f (by omega) (fun w1 zw1 => ?_)
        change AW ev false 3 t_X8_load Q 38 [some (vR 27), some (vI f), some (vI 0), none, none, none] [vI w1, vR 27] (qsM M ((qrun (M 38) (M 27 14).toNat 0 (0, 0, -1, M 39, M 40)).2))
        refine AW.go pk_X8_load 20 3 rfl rfl ?_
        refine And.intro (show Inr w1 from ⟨by omega, by omega⟩) (And.intro (fun zh5 => ?_) (fun zh5 => ?_))
        · replace zh5 : w1 ≠ (0 : Int) := zh5
          change AW ev false 3 t_X8_load Q 45 [some (vR 27), some (vI f), some (vI 0), none, none, none] [vR 27] (qsM M ((qrun (M 38) (M 27 14).toNat 0 (0, 0, -1, M 39, M 40)).2))
          refine AW.go pk_X8_load 23 4 rfl rfl ?_
          refine And.intro (show Inr 0 from ⟨by omega, by omega⟩) (And.intro (fun zh6 => ?_) (fun zh6 => ?_))
          · replace zh6 : (0 : Int) ≠ (0 : Int) := zh6
            exfalso; omega
          · replace zh6 : ¬ ((0 : Int) ≠ (0 : Int)) := zh6
            change AW ev false 3 t_X8_load Q 70 [some (vR 27), some (vI f), some (vI 0), none, none, none] [vI 2, vR 27] (qsM M ((qrun (M 38) (M 27 14).toNat 0 (0, 0, -1, M 39, M 40)).2))
            refine AW.go pk_X8_load 36 6 rfl rfl ?_
            refine And.intro (show Inr 2 from ⟨by omega, by omega⟩) (And.intro (fun zh7 => ?_) (fun zh7 => ?_))
            · replace zh7 : (2 : Int) ≤ (0 : Int) := zh7
              exfalso; omega
            · replace zh7 : ¬ ((2 : Int) ≤ (0 : Int)) := zh7
              refine And.intro rfl ?_
              exact zQ2 _ ⟨by omega, by omega⟩
        · replace zh5 : ¬ (w1 ≠ (0 : Int)) := zh5
          change AW ev false 3 t_X8_load Q 70 [some (vR 27), some (vI f), some (vI 0), none, none, none] [vI 1, vR 27] (qsM M ((qrun (M 38) (M 27 14).toNat 0 (0, 0, -1, M 39, M 40)).2))
          refine AW.go pk_X8_load 36 6 rfl rfl ?_
          refine And.intro (show Inr 1 from ⟨by omega, by omega⟩) (And.intro (fun zh8 => ?_) (fun zh8 => ?_))
          · replace zh8 : (1 : Int) ≤ (0 : Int) := zh8
            exfalso; omega
          · replace zh8 : ¬ ((1 : Int) ≤ (0 : Int)) := zh8
            refine And.intro rfl ?_
            exact zQ1 _ (by omega)
      · replace zh4 : ¬ ((0 : Int) = (0 : Int)) := zh4
        exfalso; omega
    · replace zh3 : ¬ ((qrun (M 38) (M 27 14).toNat 0 (0, 0, -1, M 39, M 40)).1 ≠ M 27 14) := zh3
      refine And.intro (show Inr (((qrun (M 38) (M 27 14).toNat 0 (0, 0, -1, M 39, M 40)).2).2.2.1) ∧ Inr (-1) from ⟨⟨by omega, by omega⟩, ⟨by omega, by omega⟩⟩) (And.intro (fun zh9 => ?_) (fun zh9 => ?_))
      · replace zh9 : ((qrun (M 38) (M 27 14).toNat 0 (0, 0, -1, M 39, M 40)).2).2.2.1 = (-1 : Int) := zh9
        change AW ev false 3 t_X8_load Q 23 [some (vR 27), some (vI f), none, none, none, none] [] (qsM M ((qrun (M 38) (M 27 14).toNat 0 (0, 0, -1, M 39, M 40)).2))
        refine AW.go pk_X8_load 11 6 rfl rfl ?_
        refine And.intro (show 2 < mL t_X8_load from (by decide)) ?_
        refine And.intro (show Inr 0 from ⟨by omega, by omega⟩) (And.intro (fun zh10 => ?_) (fun zh10 => ?_))
        · replace zh10 : (0 : Int) = (0 : Int) := zh10
          change AW ev false 3 t_X8_load Q 33 [some (vR 27), some (vI f), some (vI 0), none, none, none] [] (qsM M ((qrun (M 38) (M 27 14).toNat 0 (0, 0, -1, M 39, M 40)).2))
          refine AW.go pk_X8_load 17 3 rfl rfl ?_
          change AW ev false 3 t_X8_load Q 35 [some (vR 27), some (vI f), some (vI 0), none, none, none] [vI f, vR 27] (qsM M ((qrun (M 38) (M 27 14).toNat 0 (0, 0, -1, M 39, M 40)).2))
          refine AW.callS (d' := 1) [vI f] [vR 27] sm_X8_isCell hX8_82 (okP_d pk_X8_load 19 35 (.invokestatic 82) 3 rfl) (by decide) rfl (Nat.le_of_ble_eq_true rfl) ?_
          refine c_X8_isCell f (by omega) (fun w1 zw1 => ?_)
          change AW ev false 3 t_X8_load Q 38 [some (vR 27), some (vI f), some (vI 0), none, none, none] [vI w1, vR 27] (qsM M ((qrun (M 38) (M 27 14).toNat 0 (0, 0, -1, M 39, M 40)).2))
          refine AW.go pk_X8_load 20 3 rfl rfl ?_
          refine And.intro (show Inr w1 from ⟨by omega, by omega⟩) (And.intro (fun zh11 => ?_) (fun zh11 => ?_))
          · replace zh11 : w1 ≠ (0 : Int) := zh11
            change AW ev false 3 t_X8_load Q 45 [some (vR 27), some (vI f), some (vI 0), none, none, none] [vR 27] (qsM M ((qrun (M 38) (M 27 14).toNat 0 (0, 0, -1, M 39, M 40)).2))
            refine AW.go pk_X8_load 23 4 rfl rfl ?_
            refine And.intro (show Inr 0 from ⟨by omega, by omega⟩) (And.intro (fun zh12 => ?_) (fun zh12 => ?_))
            · replace zh12 : (0 : Int) ≠ (0 : Int) := zh12
              exfalso; omega
            · replace zh12 : ¬ ((0 : Int) ≠ (0 : Int)) := zh12
              change AW ev false 3 t_X8_load Q 70 [some (vR 27), some (vI f), some (vI 0), none, none, none] [vI 2, vR 27] (qsM M ((qrun (M 38) (M 27 14).toNat 0 (0, 0, -1, M 39, M 40)).2))
              refine AW.go pk_X8_load 36 6 rfl rfl ?_
              refine And.intro (show Inr 2 from ⟨by omega, by omega⟩) (And.intro (fun zh13 => ?_) (fun zh13 => ?_))
              · replace zh13 : (2 : Int) ≤ (0 : Int) := zh13
                exfalso; omega
              · replace zh13 : ¬ ((2 : Int) ≤ (0 : Int)) := zh13
                refine And.intro rfl ?_
                exact zQ2 _ ⟨by omega, by omega⟩
          · replace zh11 : ¬ (w1 ≠ (0 : Int)) := zh11
            change AW ev false 3 t_X8_load Q 70 [some (vR 27), some (vI f), some (vI 0), none, none, none] [vI 1, vR 27] (qsM M ((qrun (M 38) (M 27 14).toNat 0 (0, 0, -1, M 39, M 40)).2))
            refine AW.go pk_X8_load 36 6 rfl rfl ?_
            refine And.intro (show Inr 1 from ⟨by omega, by omega⟩) (And.intro (fun zh14 => ?_) (fun zh14 => ?_))
            · replace zh14 : (1 : Int) ≤ (0 : Int) := zh14
              exfalso; omega
            · replace zh14 : ¬ ((1 : Int) ≤ (0 : Int)) := zh14
              refine And.intro rfl ?_
              exact zQ1 _ (by omega)
        · replace zh10 : ¬ ((0 : Int) = (0 : Int)) := zh10
          exfalso; omega
      · replace zh9 : ¬ (((qrun (M 38) (M 27 14).toNat 0 (0, 0, -1, M 39, M 40)).2).2.2.1 = (-1 : Int)) := zh9
        change AW ev false 3 t_X8_load Q 24 [some (vR 27), some (vI f), none, none, none, none] [vI 1] (qsM M ((qrun (M 38) (M 27 14).toNat 0 (0, 0, -1, M 39, M 40)).2))
        refine AW.go pk_X8_load 12 5 rfl rfl ?_
        refine And.intro (show 2 < mL t_X8_load from (by decide)) ?_
        refine And.intro (show Inr 1 from ⟨by omega, by omega⟩) (And.intro (fun zh15 => ?_) (fun zh15 => ?_))
        · replace zh15 : (1 : Int) = (0 : Int) := zh15
          exfalso; omega
        · replace zh15 : ¬ ((1 : Int) = (0 : Int)) := zh15
          change AW ev false 3 t_X8_load Q 30 [some (vR 27), some (vI f), some (vI 1), none, none, none] [vR 27] (qsM M ((qrun (M 38) (M 27 14).toNat 0 (0, 0, -1, M 39, M 40)).2))
          refine AW.callV (d' := 0) [] [] vm_X8_endItem rfl hX8_106 (okP_d pk_X8_load 16 30 (.invokevirtual 106) 3 rfl) (by decide) rfl (Nat.le_of_ble_eq_true rfl) ?_
          refine c_X8_endItem ((qrun (M 38) (M 27 14).toNat 0 (0, 0, -1, M 39, M 40)).2) zq3 (show 0 ≤ (qrun (M 38) (M 27 14).toNat 0 (0, 0, -1, M 39, M 40)).2.1 ∧ (qrun (M 38) (M 27 14).toNat 0 (0, 0, -1, M 39, M 40)).2.1 < 21 from by omega) (fun zc17 => ?_)
          · replace zc17 : True := zc17
            change AW ev false 3 t_X8_load Q 33 [some (vR 27), some (vI f), some (vI 1), none, none, none] [] (qsM M (qend ((qrun (M 38) (M 27 14).toNat 0 (0, 0, -1, M 39, M 40)).2)))
            refine AW.go pk_X8_load 17 3 rfl rfl ?_
            change AW ev false 3 t_X8_load Q 35 [some (vR 27), some (vI f), some (vI 1), none, none, none] [vI f, vR 27] (qsM M (qend ((qrun (M 38) (M 27 14).toNat 0 (0, 0, -1, M 39, M 40)).2)))
            refine AW.callS (d' := 1) [vI f] [vR 27] sm_X8_isCell hX8_82 (okP_d pk_X8_load 19 35 (.invokestatic 82) 3 rfl) (by decide) rfl (Nat.le_of_ble_eq_true rfl) ?_
            refine c_X8_isCell f (by omega) (fun w1 zw1 => ?_)
            change AW ev false 3 t_X8_load Q 38 [some (vR 27), some (vI f), some (vI 1), none, none, none] [vI w1, vR 27] (qsM M (qend ((qrun (M 38) (M 27 14).toNat 0 (0, 0, -1, M 39, M 40)).2)))
            refine AW.go pk_X8_load 20 3 rfl rfl ?_
            refine And.intro (show Inr w1 from ⟨by omega, by omega⟩) (And.intro (fun zh18 => ?_) (fun zh18 => ?_))
            · replace zh18 : w1 ≠ (0 : Int) := zh18
              change AW ev false 3 t_X8_load Q 45 [some (vR 27), some (vI f), some (vI 1), none, none, none] [vR 27] (qsM M (qend ((qrun (M 38) (M 27 14).toNat 0 (0, 0, -1, M 39, M 40)).2)))
              refine AW.go pk_X8_load 23 4 rfl rfl ?_
              refine And.intro (show Inr 1 from ⟨by omega, by omega⟩) (And.intro (fun zh19 => ?_) (fun zh19 => ?_))
              · replace zh19 : (1 : Int) ≠ (0 : Int) := zh19
                change AW ev false 3 t_X8_load Q 53 [some (vR 27), some (vI f), some (vI 1), none, none, none] [vR 27] (qsM M (qend ((qrun (M 38) (M 27 14).toNat 0 (0, 0, -1, M 39, M 40)).2)))
                refine AW.go pk_X8_load 27 3 rfl rfl ?_
                change AW ev false 3 t_X8_load Q 55 [some (vR 27), some (vI f), some (vI 1), none, none, none] [vR 27, vI f, vR 27] (qsM M (qend ((qrun (M 38) (M 27 14).toNat 0 (0, 0, -1, M 39, M 40)).2)))
                refine AW.callV (d' := 0) [] [vI f, vR 27] vm_X8_cellsRead rfl hX8_116 (okP_d pk_X8_load 29 55 (.invokevirtual 116) 3 rfl) (by decide) rfl (Nat.le_of_ble_eq_true rfl) ?_
                refine c_X8_cellsRead (qend (qrun (M 38) (M 27 14).toNat 0 (0, 0, -1, M 39, M 40)).2) (show 0 ≤ (qrun (M 38) (M 27 14).toNat 0 (0, 0, -1, M 39, M 40)).2.1 ∧ (qrun (M 38) (M 27 14).toNat 0 (0, 0, -1, M 39, M 40)).2.1 < 21 from by omega) (fun w2 zw2 => ?_)
                replace zw2 : w2 = icS (qend (qrun (M 38) (M 27 14).toNat 0 (0, 0, -1, M 39, M 40)).2).2.2.2.2 ((qrun (M 38) (M 27 14).toNat 0 (0, 0, -1, M 39, M 40)).2.1 + 1).toNat 0 := zw2
                have zicb := icS_bd (f := (qend (qrun (M 38) (M 27 14).toNat 0 (0, 0, -1, M 39, M 40)).2).2.2.2.2) ((qrun (M 38) (M 27 14).toNat 0 (0, 0, -1, M 39, M 40)).2.1 + 1).toNat 0 (fun j q0 q1 => (zqj.en (by omega) j q0 (by omega)).2)
                rw [← zw2] at zicb
                change AW ev false 3 t_X8_load Q 58 [some (vR 27), some (vI f), some (vI 1), none, none, none] [vI w2, vI f, vR 27] (qsM M (qend ((qrun (M 38) (M 27 14).toNat 0 (0, 0, -1, M 39, M 40)).2)))
                refine AW.go pk_X8_load 30 5 rfl rfl ?_
                refine And.intro (show Inr (f + w2) ∧ Inr 144 from ⟨⟨by omega, by omega⟩, ⟨by omega, by omega⟩⟩) (And.intro (fun zh20 => ?_) (fun zh20 => ?_))
                · replace zh20 : f + w2 ≤ (144 : Int) := zh20
                  change AW ev false 3 t_X8_load Q 69 [some (vR 27), some (vI f), some (vI 1), none, none, none] [vR 27] (qsM M (qend ((qrun (M 38) (M 27 14).toNat 0 (0, 0, -1, M 39, M 40)).2)))
                  refine AW.go pk_X8_load 35 7 rfl rfl ?_
                  refine And.intro (show Inr 0 from ⟨by omega, by omega⟩) (And.intro (fun zh21 => ?_) (fun zh21 => ?_))
                  · replace zh21 : (0 : Int) ≤ (0 : Int) := zh21
                    change AW ev false 3 t_X8_load Q 82 [some (vR 27), some (vI f), some (vI 1), none, none, none] [] (upM (qsM M (qend ((qrun (M 38) (M 27 14).toNat 0 (0, 0, -1, M 39, M 40)).2))) 27 0 0)
                    refine AW.go pk_X8_load 42 4 rfl rfl ?_
                    refine And.intro (show 3 < mL t_X8_load from (by decide)) ?_
                    refine And.intro (show 4 < mL t_X8_load from (by decide)) ?_
                    change AW ev false 3 t_X8_load Q 87 [some (vR 27), some (vI f), some (vI 1), some (vI f), some (vI 0), none] [] (upM (qsM M (qend ((qrun (M 38) (M 27 14).toNat 0 (0, 0, -1, M 39, M 40)).2))) 27 0 0)
                    refine AW.mem (stR_0 _) (lz_load f zp0 zp1 zp2 (qend (qrun (M 38) (M 27 14).toNat 0 (0, 0, -1, M 39, M 40)).2) (by show 0 ≤ (qrun (M 38) (M 27 14).toNat 0 (0, 0, -1, M 39, M 40)).2.1 ∧ (qrun (M 38) (M 27 14).toNat 0 (0, 0, -1, M 39, M 40)).2.1 < 21; omega) (fun j q0 q1 => zqj.en (by omega) j q0 q1) 1 ((qrun (M 38) (M 27 14).toNat 0 (0, 0, -1, M 39, M 40)).2.1 + 1).toNat f 0 (M 28) (by show (0 : Int) + (((qrun (M 38) (M 27 14).toNat 0 (0, 0, -1, M 39, M 40)).2.1 + 1).toNat : Int) = (qrun (M 38) (M 27 14).toNat 0 (0, 0, -1, M 39, M 40)).2.1 + 1; omega) (by omega) (by omega) (fun c2 zc2 => ?_))
                    exact QcI (Q := Q) (show c2 - f = icS (qend (qrun (M 38) (M 27 14).toNat 0 (0, 0, -1, M 39, M 40)).2).2.2.2.2 ((qrun (M 38) (M 27 14).toNat 0 (0, 0, -1, M 39, M 40)).2.1 + 1).toNat 0 from by omega) rfl (zQ0 ⟨by omega, ⟨by omega, by omega⟩, by omega⟩)
                  · replace zh21 : ¬ ((0 : Int) ≤ (0 : Int)) := zh21
                    exfalso; omega
                · replace zh20 : ¬ (f + w2 ≤ (144 : Int)) := zh20
                  change AW ev false 3 t_X8_load Q 70 [some (vR 27), some (vI f), some (vI 1), none, none, none] [vI 3, vR 27] (qsM M (qend ((qrun (M 38) (M 27 14).toNat 0 (0, 0, -1, M 39, M 40)).2)))
                  refine AW.go pk_X8_load 36 6 rfl rfl ?_
                  refine And.intro (show Inr 3 from ⟨by omega, by omega⟩) (And.intro (fun zh22 => ?_) (fun zh22 => ?_))
                  · replace zh22 : (3 : Int) ≤ (0 : Int) := zh22
                    exfalso; omega
                  · replace zh22 : ¬ ((3 : Int) ≤ (0 : Int)) := zh22
                    refine And.intro rfl ?_
                    exact zQ3 _ ⟨by omega, ⟨by omega, by omega⟩, by omega⟩
              · replace zh19 : ¬ ((1 : Int) ≠ (0 : Int)) := zh19
                exfalso; omega
            · replace zh18 : ¬ (w1 ≠ (0 : Int)) := zh18
              change AW ev false 3 t_X8_load Q 70 [some (vR 27), some (vI f), some (vI 1), none, none, none] [vI 1, vR 27] (qsM M (qend ((qrun (M 38) (M 27 14).toNat 0 (0, 0, -1, M 39, M 40)).2)))
              refine AW.go pk_X8_load 36 6 rfl rfl ?_
              refine And.intro (show Inr 1 from ⟨by omega, by omega⟩) (And.intro (fun zh23 => ?_) (fun zh23 => ?_))
              · replace zh23 : (1 : Int) ≤ (0 : Int) := zh23
                exfalso; omega
              · replace zh23 : ¬ ((1 : Int) ≤ (0 : Int)) := zh23
                refine And.intro rfl ?_
                exact zQ1 _ (by omega)
