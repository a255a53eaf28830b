theorem lz_ll1 {ev : Ev} {Q : Out → Mem → Prop} {M : Mem}   (zp0 : TJ M) (zp1 : SJ M) (zp2 : KJ M) (k : Int) (zk : 0 ≤ k ∧ k < 64) (zX : AW ev false 5 t_X8_layLinks Q 99 [some (vR 27), some (vI k), some (vI (k / 8)), some (vI (k % 8)), some (vI 18), none] [] (glM M ((12 * k) + 18 - 6))) : ∀ (n : Nat) (hr : Int), hr + n = 18 → (6 ≤ hr) → AW ev false 5 t_X8_layLinks Q 22 [some (vR 27), some (vI k), some (vI (k / 8)), some (vI (k % 8)), some (vI hr), none] [] (glM M ((12 * k) + hr - 6)) := by
  intro n
  induction n with
  | zero =>
    intro hr zn zv0
    have zs := zp1.1
    refine AW.go pk_X8_layLinks 15 16 rfl rfl ?_
    refine And.intro (show Inr hr ∧ Inr 17 from ⟨⟨by omega, by omega⟩, ⟨by omega, by omega⟩⟩) (And.intro (fun zh1 => ?_) (fun zh1 => ?_))
    · replace zh1 : (17 : Int) < hr := zh1
      change AW ev false 5 t_X8_layLinks Q 99 [some (vR 27), some (vI k), some (vI (k / 8)), some (vI (k % 8)), some (vI hr), none] [] (glM M ((12 * k) + hr - 6))
      have zhr : hr = 18 := by omega
      rw [zhr]
      exact zX
    · replace zh1 : ¬ ((17 : Int) < hr) := zh1
      exfalso; omega
  | succ n zih =>
    intro hr zn zv0
    have zs := zp1.1
    refine AW.go pk_X8_layLinks 15 16 rfl rfl ?_
    refine And.intro (show Inr hr ∧ Inr 17 from ⟨⟨by omega, by omega⟩, ⟨by omega, by omega⟩⟩) (And.intro (fun zh1 => ?_) (fun zh1 => ?_))
    · replace zh1 : (17 : Int) < hr := zh1
      exfalso; omega
    · replace zh1 : ¬ ((17 : Int) < hr) := zh1
      refine And.intro (show Inr (k / 8) ∧ Inr (M 27 2) from ⟨⟨by omega, by omega⟩, ⟨by omega, by omega⟩⟩) (And.intro (fun zh2 => ?_) (fun zh2 => ?_))
      · replace zh2 : M 27 2 ≤ k / 8 := zh2
        change AW ev false 5 t_X8_layLinks Q 54 [some (vR 27), some (vI k), some (vI (k / 8)), some (vI (k % 8)), some (vI hr), none] [] (glM M ((12 * k) + hr - 6))
        refine AW.go pk_X8_layLinks 31 18 rfl rfl ?_
        refine And.intro (show 5 < mL t_X8_layLinks from (by decide)) ?_
        refine And.intro (show Inr 0 from ⟨by omega, by omega⟩) (And.intro (fun zh3 => ?_) (fun zh3 => ?_))
        · replace zh3 : (0 : Int) = (0 : Int) := zh3
          change AW ev false 5 t_X8_layLinks Q 91 [some (vR 27), some (vI k), some (vI (k / 8)), some (vI (k % 8)), some (vI hr), some (vI 0)] [vI (((12 * k) + hr) - 6), vR 42] (glM M ((12 * k) + hr - 6))
          refine AW.go pk_X8_layLinks 52 4 rfl rfl ?_
          refine And.intro (show ((0 ≤ ((12 * k) + hr) - 6 ∧ ((12 * k) + hr) - 6 < 768) ∧ ((1 : Nat) = 0 ∨ (0 : Int) = 0 ∨ (0 : Int) = 1)) from ⟨by omega, Or.inr (by omega)⟩) ?_
          refine And.intro (show 4 < mL t_X8_layLinks from (by decide)) ?_
          change AW ev false 5 t_X8_layLinks Q 22 [some (vR 27), some (vI k), some (vI (k / 8)), some (vI (k % 8)), some (vI (hr + 1)), some (vI 0)] [] (upM (glM M ((12 * k) + hr - 6)) 42 (((12 * k) + hr) - 6) 0)
          refine AW.sub [some (vR 27), some (vI k), some (vI (k / 8)), some (vI (k % 8)), some (vI (hr + 1)), none] (by simp [lsub]) ?_
          exact AW.mem (show (upM (glM M ((12 * k) + hr - 6)) 42 (((12 * k) + hr) - 6) 0) = (glM M ((12 * k) + (hr + 1) - 6)) from by (rw [show (12 * k) + (hr + 1) - 6 = (12 * k) + hr - 6 + 1 from by omega]; first | exact gl_s (by omega) (gv_y (by omega) (by omega) (by omega) ⟨by omega, by omega, by omega, by omega⟩).symm | exact gl_s (by omega) (gv_n (by omega) (by omega) (by omega) (by omega)).symm)) (zih (hr + 1) (by omega) (by omega))
        · replace zh3 : ¬ ((0 : Int) = (0 : Int)) := zh3
          exfalso; omega
      · replace zh2 : ¬ (M 27 2 ≤ k / 8) := zh2
        refine And.intro (show Inr (k % 8) ∧ Inr (M 27 2) from ⟨⟨by omega, by omega⟩, ⟨by omega, by omega⟩⟩) (And.intro (fun zh4 => ?_) (fun zh4 => ?_))
        · replace zh4 : M 27 2 ≤ k % 8 := zh4
          change AW ev false 5 t_X8_layLinks Q 54 [some (vR 27), some (vI k), some (vI (k / 8)), some (vI (k % 8)), some (vI hr), none] [] (glM M ((12 * k) + hr - 6))
          refine AW.go pk_X8_layLinks 31 18 rfl rfl ?_
          refine And.intro (show 5 < mL t_X8_layLinks from (by decide)) ?_
          refine And.intro (show Inr 0 from ⟨by omega, by omega⟩) (And.intro (fun zh5 => ?_) (fun zh5 => ?_))
          · replace zh5 : (0 : Int) = (0 : Int) := zh5
            change AW ev false 5 t_X8_layLinks Q 91 [some (vR 27), some (vI k), some (vI (k / 8)), some (vI (k % 8)), some (vI hr), some (vI 0)] [vI (((12 * k) + hr) - 6), vR 42] (glM M ((12 * k) + hr - 6))
            refine AW.go pk_X8_layLinks 52 4 rfl rfl ?_
            refine And.intro (show ((0 ≤ ((12 * k) + hr) - 6 ∧ ((12 * k) + hr) - 6 < 768) ∧ ((1 : Nat) = 0 ∨ (0 : Int) = 0 ∨ (0 : Int) = 1)) from ⟨by omega, Or.inr (by omega)⟩) ?_
            refine And.intro (show 4 < mL t_X8_layLinks from (by decide)) ?_
            change AW ev false 5 t_X8_layLinks Q 22 [some (vR 27), some (vI k), some (vI (k / 8)), some (vI (k % 8)), some (vI (hr + 1)), some (vI 0)] [] (upM (glM M ((12 * k) + hr - 6)) 42 (((12 * k) + hr) - 6) 0)
            refine AW.sub [some (vR 27), some (vI k), some (vI (k / 8)), some (vI (k % 8)), some (vI (hr + 1)), none] (by simp [lsub]) ?_
            exact AW.mem (show (upM (glM M ((12 * k) + hr - 6)) 42 (((12 * k) + hr) - 6) 0) = (glM M ((12 * k) + (hr + 1) - 6)) from by (rw [show (12 * k) + (hr + 1) - 6 = (12 * k) + hr - 6 + 1 from by omega]; first | exact gl_s (by omega) (gv_y (by omega) (by omega) (by omega) ⟨by omega, by omega, by omega, by omega⟩).symm | exact gl_s (by omega) (gv_n (by omega) (by omega) (by omega) (by omega)).symm)) (zih (hr + 1) (by omega) (by omega))
          · replace zh5 : ¬ ((0 : Int) = (0 : Int)) := zh5
            exfalso; omega
        · replace zh4 : ¬ (M 27 2 ≤ k % 8) := zh4
          refine And.intro (show Inr (k / 8) ∧ Inr (k % 8) from ⟨⟨by omega, by omega⟩, ⟨by omega, by omega⟩⟩) (And.intro (fun zh6 => ?_) (fun zh6 => ?_))
          · replace zh6 : k / 8 = k % 8 := zh6
            change AW ev false 5 t_X8_layLinks Q 54 [some (vR 27), some (vI k), some (vI (k / 8)), some (vI (k % 8)), some (vI hr), none] [] (glM M ((12 * k) + hr - 6))
            refine AW.go pk_X8_layLinks 31 18 rfl rfl ?_
            refine And.intro (show 5 < mL t_X8_layLinks from (by decide)) ?_
            refine And.intro (show Inr 0 from ⟨by omega, by omega⟩) (And.intro (fun zh7 => ?_) (fun zh7 => ?_))
            · replace zh7 : (0 : Int) = (0 : Int) := zh7
              change AW ev false 5 t_X8_layLinks Q 91 [some (vR 27), some (vI k), some (vI (k / 8)), some (vI (k % 8)), some (vI hr), some (vI 0)] [vI (((12 * k) + hr) - 6), vR 42] (glM M ((12 * k) + hr - 6))
              refine AW.go pk_X8_layLinks 52 4 rfl rfl ?_
              refine And.intro (show ((0 ≤ ((12 * k) + hr) - 6 ∧ ((12 * k) + hr) - 6 < 768) ∧ ((1 : Nat) = 0 ∨ (0 : Int) = 0 ∨ (0 : Int) = 1)) from ⟨by omega, Or.inr (by omega)⟩) ?_
              refine And.intro (show 4 < mL t_X8_layLinks from (by decide)) ?_
              change AW ev false 5 t_X8_layLinks Q 22 [some (vR 27), some (vI k), some (vI (k / 8)), some (vI (k % 8)), some (vI (hr + 1)), some (vI 0)] [] (upM (glM M ((12 * k) + hr - 6)) 42 (((12 * k) + hr) - 6) 0)
              refine AW.sub [some (vR 27), some (vI k), some (vI (k / 8)), some (vI (k % 8)), some (vI (hr + 1)), none] (by simp [lsub]) ?_
              exact AW.mem (show (upM (glM M ((12 * k) + hr - 6)) 42 (((12 * k) + hr) - 6) 0) = (glM M ((12 * k) + (hr + 1) - 6)) from by (rw [show (12 * k) + (hr + 1) - 6 = (12 * k) + hr - 6 + 1 from by omega]; first | exact gl_s (by omega) (gv_y (by omega) (by omega) (by omega) ⟨by omega, by omega, by omega, by omega⟩).symm | exact gl_s (by omega) (gv_n (by omega) (by omega) (by omega) (by omega)).symm)) (zih (hr + 1) (by omega) (by omega))
            · replace zh7 : ¬ ((0 : Int) = (0 : Int)) := zh7
              exfalso; omega
          · replace zh6 : ¬ (k / 8 = k % 8) := zh6
            change AW ev false 5 t_X8_layLinks Q 55 [some (vR 27), some (vI k), some (vI (k / 8)), some (vI (k % 8)), some (vI hr), none] [vI 1] (glM M ((12 * k) + hr - 6))
            refine AW.go pk_X8_layLinks 32 17 rfl rfl ?_
            refine And.intro (show 5 < mL t_X8_layLinks from (by decide)) ?_
            refine And.intro (show Inr 1 from ⟨by omega, by omega⟩) (And.intro (fun zh8 => ?_) (fun zh8 => ?_))
            · replace zh8 : (1 : Int) = (0 : Int) := zh8
              exfalso; omega
            · replace zh8 : ¬ ((1 : Int) = (0 : Int)) := zh8
              change AW ev false 5 t_X8_layLinks Q 81 [some (vR 27), some (vI k), some (vI (k / 8)), some (vI (k % 8)), some (vI hr), some (vI 1)] [vI hr, vI (k % 8), vI (k / 8), vR 27, vI (((12 * k) + hr) - 6), vR 42] (glM M ((12 * k) + hr - 6))
              refine AW.callV (d' := 4) [vI (k / 8), vI (k % 8), vI hr] [vI (((12 * k) + hr) - 6), vR 42] vm_X8_linkOf rfl hX8_164 (okP_d pk_X8_layLinks 48 81 (.invokevirtual 164) 3 rfl) (by decide) rfl (Nat.le_of_ble_eq_true rfl) ?_
              refine c_X8_linkOf (k / 8) (k % 8) hr zp0 zp1 zp2 (show 0 ≤ (k / 8) ∧ (k / 8) < (M 27 2) from by omega) (show 0 ≤ (k % 8) ∧ (k % 8) < (M 27 2) from by omega) (by omega) (by omega) (fun w1 zw1 => ?_)
              replace zw1 : w1 = lnkF (M 28) (M 29) (M 30) (M 31) (cvR M) (k / 8) (k % 8) hr ∧ (0 ≤ w1 ∧ w1 ≤ 5) := zw1
              change AW ev false 5 t_X8_layLinks Q 84 [some (vR 27), some (vI k), some (vI (k / 8)), some (vI (k % 8)), some (vI hr), some (vI 1)] [vI w1, vI (((12 * k) + hr) - 6), vR 42] (glM M ((12 * k) + hr - 6))
              refine AW.go pk_X8_layLinks 49 3 rfl rfl ?_
              refine And.intro (show Inr w1 from ⟨by omega, by omega⟩) (And.intro (fun zh9 => ?_) (fun zh9 => ?_))
              · replace zh9 : w1 ≠ (0 : Int) := zh9
                change AW ev false 5 t_X8_layLinks Q 91 [some (vR 27), some (vI k), some (vI (k / 8)), some (vI (k % 8)), some (vI hr), some (vI 1)] [vI (((12 * k) + hr) - 6), vR 42] (glM M ((12 * k) + hr - 6))
                refine AW.go pk_X8_layLinks 52 4 rfl rfl ?_
                refine And.intro (show ((0 ≤ ((12 * k) + hr) - 6 ∧ ((12 * k) + hr) - 6 < 768) ∧ ((1 : Nat) = 0 ∨ (0 : Int) = 0 ∨ (0 : Int) = 1)) from ⟨by omega, Or.inr (by omega)⟩) ?_
                refine And.intro (show 4 < mL t_X8_layLinks from (by decide)) ?_
                change AW ev false 5 t_X8_layLinks Q 22 [some (vR 27), some (vI k), some (vI (k / 8)), some (vI (k % 8)), some (vI (hr + 1)), some (vI 1)] [] (upM (glM M ((12 * k) + hr - 6)) 42 (((12 * k) + hr) - 6) 0)
                refine AW.sub [some (vR 27), some (vI k), some (vI (k / 8)), some (vI (k % 8)), some (vI (hr + 1)), none] (by simp [lsub]) ?_
                exact AW.mem (show (upM (glM M ((12 * k) + hr - 6)) 42 (((12 * k) + hr) - 6) 0) = (glM M ((12 * k) + (hr + 1) - 6)) from by (rw [show (12 * k) + (hr + 1) - 6 = (12 * k) + hr - 6 + 1 from by omega]; first | exact gl_s (by omega) (gv_y (by omega) (by omega) (by omega) ⟨by omega, by omega, by omega, by omega⟩).symm | exact gl_s (by omega) (gv_n (by omega) (by omega) (by omega) (by omega)).symm)) (zih (hr + 1) (by omega) (by omega))
              · replace zh9 : ¬ (w1 ≠ (0 : Int)) := zh9
                change AW ev false 5 t_X8_layLinks Q 92 [some (vR 27), some (vI k), some (vI (k / 8)), some (vI (k % 8)), some (vI hr), some (vI 1)] [vI 1, vI (((12 * k) + hr) - 6), vR 42] (glM M ((12 * k) + hr - 6))
                refine AW.go pk_X8_layLinks 53 3 rfl rfl ?_
                refine And.intro (show ((0 ≤ ((12 * k) + hr) - 6 ∧ ((12 * k) + hr) - 6 < 768) ∧ ((1 : Nat) = 0 ∨ (1 : Int) = 0 ∨ (1 : Int) = 1)) from ⟨by omega, Or.inr (by omega)⟩) ?_
                refine And.intro (show 4 < mL t_X8_layLinks from (by decide)) ?_
                change AW ev false 5 t_X8_layLinks Q 22 [some (vR 27), some (vI k), some (vI (k / 8)), some (vI (k % 8)), some (vI (hr + 1)), some (vI 1)] [] (upM (glM M ((12 * k) + hr - 6)) 42 (((12 * k) + hr) - 6) 1)
                refine AW.sub [some (vR 27), some (vI k), some (vI (k / 8)), some (vI (k % 8)), some (vI (hr + 1)), none] (by simp [lsub]) ?_
                exact AW.mem (show (upM (glM M ((12 * k) + hr - 6)) 42 (((12 * k) + hr) - 6) 1) = (glM M ((12 * k) + (hr + 1) - 6)) from by (rw [show (12 * k) + (hr + 1) - 6 = (12 * k) + hr - 6 + 1 from by omega]; first | exact gl_s (by omega) (gv_y (by omega) (by omega) (by omega) ⟨by omega, by omega, by omega, by omega⟩).symm | exact gl_s (by omega) (gv_n (by omega) (by omega) (by omega) (by omega)).symm)) (zih (hr + 1) (by omega) (by omega))
theorem lz_ll2 {ev : Ev} {Q : Out → Mem → Prop} {M : Mem}   (zp0 : TJ M) (zp1 : SJ M) (zp2 : KJ M) (zQ : Q (.inl none) (glM M 768)) : ∀ (n : Nat) (k : Int), k + n = 64 → (0 ≤ k) → AW ev false 5 t_X8_layLinks Q 2 [some (vR 27), some (vI k), none, none, none, none] [] (glM M (12 * k)) := by
  intro n
  induction n with
  | zero =>
    intro k zn zv0
    have zs := zp1.1
    refine AW.go pk_X8_layLinks 2 13 rfl rfl ?_
    refine And.intro (show Inr k ∧ Inr 64 from ⟨⟨by omega, by omega⟩, ⟨by omega, by omega⟩⟩) (And.intro (fun zh1 => ?_) (fun zh1 => ?_))
    · replace zh1 : (64 : Int) ≤ k := zh1
      change AW ev false 5 t_X8_layLinks Q 105 [some (vR 27), some (vI k), none, none, none, none] [] (glM M (12 * k))
      refine AW.go pk_X8_layLinks 58 1 rfl rfl ?_
      refine And.intro rfl ?_
      exact QcV (Q := Q) (show (glM M (12 * k)) = glM M 768 from by rw [show 12 * k = 768 from by omega]) zQ
    · replace zh1 : ¬ ((64 : Int) ≤ k) := zh1
      exfalso; omega
  | succ n zih =>
    intro k zn zv0
    have zs := zp1.1
    refine AW.go pk_X8_layLinks 2 13 rfl rfl ?_
    refine And.intro (show Inr k ∧ Inr 64 from ⟨⟨by omega, by omega⟩, ⟨by omega, by omega⟩⟩) (And.intro (fun zh1 => ?_) (fun zh1 => ?_))
    · replace zh1 : (64 : Int) ≤ k := zh1
      exfalso; omega
    · replace zh1 : ¬ ((64 : Int) ≤ k) := zh1
      refine And.intro (show ((0 ≤ k ∧ k < 2147483648) ∧ 0 < (8 : Int) ∧ (8 : Int) < 2147483648) from (by omega)) ?_
      refine And.intro (show 2 < mL t_X8_layLinks from (by decide)) ?_
      refine And.intro (show ((0 ≤ k ∧ k < 2147483648) ∧ 0 < (8 : Int) ∧ (8 : Int) < 2147483648) from (by omega)) ?_
      refine And.intro (show 3 < mL t_X8_layLinks from (by decide)) ?_
      refine And.intro (show 4 < mL t_X8_layLinks from (by decide)) ?_
      change AW ev false 5 t_X8_layLinks Q 22 [some (vR 27), some (vI k), some (vI (k / 8)), some (vI (k % 8)), some (vI 6), none] [] (glM M (12 * k))
      refine AW.mem (show (glM M (12 * k)) = (glM M ((12 * k) + 6 - 6)) from by rw [show (12 * k) + 6 - 6 = 12 * k from by omega]) (lz_ll1 zp0 zp1 zp2 k (by omega) ?_ 12 6 (by omega) (by omega))
      refine AW.go pk_X8_layLinks 56 2 rfl rfl ?_
      refine And.intro (show 1 < mL t_X8_layLinks from (by decide)) ?_
      change AW ev false 5 t_X8_layLinks Q 2 [some (vR 27), some (vI (k + 1)), some (vI (k / 8)), some (vI (k % 8)), some (vI 18), none] [] (glM M ((12 * k) + 18 - 6))
      refine AW.sub [some (vR 27), some (vI (k + 1)), none, none, none, none] (by simp [lsub]) ?_
      exact AW.mem (show (glM M ((12 * k) + 18 - 6)) = (glM M (12 * (k + 1))) from by rw [show (12 * k) + 18 - 6 = 12 * (k + 1) from by omega]) (zih (k + 1) (by omega) (by omega))
theorem c_X8_layLinks {ev : Ev} {Q : Out → Mem → Prop} {M : Mem}   (zp0 : TJ M) (zp1 : SJ M) (zp2 : KJ M) (zQ : Q (.inl none) (glM M 768)) : AM ev false 5 t_X8_layLinks [vR 27] M Q := by
  have zs := zp1.1
  refine AM.of mt_X8_layLinks (Nat.le_of_ble_eq_true rfl) ?_
  change AW ev false 5 t_X8_layLinks Q 0 [some (vR 27), none, none, none, none, none] [] M
  refine AW.go pk_X8_layLinks 0 2 rfl rfl ?_
  refine And.intro (show 1 < mL t_X8_layLinks from (by decide)) ?_
  change AW ev false 5 t_X8_layLinks Q 2 [some (vR 27), some (vI 0), none, none, none, none] [] M
  exact AW.mem (show M = glM M (12 * 0) from gl_0 M) (lz_ll2 zp0 zp1 zp2 zQ 64 0 (by omega) (by omega))
theorem c_X8_isFree {ev : Ev} {Q : Out → Mem → Prop} {M : Mem}  (u : Int) (v : Int) (t : Int) (zp0 : 0 ≤ u ∧ u < 8) (zp1 : 0 ≤ v ∧ v < 8) (zp2 : 0 ≤ t ∧ t < 72) (zp3 : ∀ i, 0 ≤ i → i < 768 → M 42 i = 0 ∨ M 42 i = 1) (zp4 : ∀ i, 0 ≤ i → i < 576 → -1 ≤ M 41 i ∧ M 41 i < 20) (zQ : ∀ (r : Int), (r = 0 ∨ r = 1) ∧ (r = 1 ↔ okR (M 42) (M 41) u v t) → Q (.inl (some (vI r))) M) : AM ev false 0 t_X8_isFree [vR 27, vI u, vI v, vI t] M Q := by
  have zg := zp3 (12 * (8 * u + v) + t / 6) (by omega) (by omega)
  have zb1 := zp4 (72 * u + t) (by omega) (by omega)
  have zb2 := zp4 (72 * v + t) (by omega) (by omega)
  refine AM.of mt_X8_isFree (Nat.le_of_ble_eq_true rfl) ?_
  change AW ev false 0 t_X8_isFree Q 0 [some (vR 27), some (vI u), some (vI v), some (vI t)] [] M
  refine AW.go pk_X8_isFree 0 37 rfl rfl ?_
  refine And.intro (show ((0 ≤ t ∧ t < 2147483648) ∧ 0 < (6 : Int) ∧ (6 : Int) < 2147483648) from (by omega)) ?_
  refine And.intro (show (0 ≤ (12 * ((8 * u) + v)) + (t / 6) ∧ (12 * ((8 * u) + v)) + (t / 6) < 768) from (by omega)) ?_
  refine And.intro (show Inr (M 42 ((12 * ((8 * u) + v)) + (t / 6))) from ⟨by omega, by omega⟩) (And.intro (fun zh1 => ?_) (fun zh1 => ?_))
  · replace zh1 : M 42 ((12 * ((8 * u) + v)) + (t / 6)) = (0 : Int) := zh1
    change AW ev false 0 t_X8_isFree Q 56 [some (vR 27), some (vI u), some (vI v), some (vI t)] [] M
    refine AW.go pk_X8_isFree 37 2 rfl rfl ?_
    refine And.intro rfl ?_
    refine And.intro (show ((0 : Int) = 0 ∨ (0 : Int) = 1) from (by omega)) ?_
    exact zQ 0 ⟨by omega, iff_of_false (by omega) (fun q => by have q1 := q.1; have q2 := q.2.1; have q3 := q.2.2; omega)⟩
  · replace zh1 : ¬ (M 42 ((12 * ((8 * u) + v)) + (t / 6)) = (0 : Int)) := zh1
    refine And.intro (show (0 ≤ (72 * u) + t ∧ (72 * u) + t < 576) from (by omega)) ?_
    refine And.intro (show Inr (M 41 ((72 * u) + t)) ∧ Inr (-1) from ⟨⟨by omega, by omega⟩, ⟨by omega, by omega⟩⟩) (And.intro (fun zh2 => ?_) (fun zh2 => ?_))
    · replace zh2 : M 41 ((72 * u) + t) ≠ (-1 : Int) := zh2
      change AW ev false 0 t_X8_isFree Q 56 [some (vR 27), some (vI u), some (vI v), some (vI t)] [] M
      refine AW.go pk_X8_isFree 37 2 rfl rfl ?_
      refine And.intro rfl ?_
      refine And.intro (show ((0 : Int) = 0 ∨ (0 : Int) = 1) from (by omega)) ?_
      exact zQ 0 ⟨by omega, iff_of_false (by omega) (fun q => by have q1 := q.1; have q2 := q.2.1; have q3 := q.2.2; omega)⟩
    · replace zh2 : ¬ (M 41 ((72 * u) + t) ≠ (-1 : Int)) := zh2
      refine And.intro (show (0 ≤ (72 * v) + t ∧ (72 * v) + t < 576) from (by omega)) ?_
      refine And.intro (show Inr (M 41 ((72 * v) + t)) ∧ Inr (-1) from ⟨⟨by omega, by omega⟩, ⟨by omega, by omega⟩⟩) (And.intro (fun zh3 => ?_) (fun zh3 => ?_))
      · replace zh3 : M 41 ((72 * v) + t) ≠ (-1 : Int) := zh3
        change AW ev false 0 t_X8_isFree Q 56 [some (vR 27), some (vI u), some (vI v), some (vI t)] [] M
        refine AW.go pk_X8_isFree 37 2 rfl rfl ?_
        refine And.intro rfl ?_
        refine And.intro (show ((0 : Int) = 0 ∨ (0 : Int) = 1) from (by omega)) ?_
        exact zQ 0 ⟨by omega, iff_of_false (by omega) (fun q => by have q1 := q.1; have q2 := q.2.1; have q3 := q.2.2; omega)⟩
      · replace zh3 : ¬ (M 41 ((72 * v) + t) ≠ (-1 : Int)) := zh3
        change AW ev false 0 t_X8_isFree Q 57 [some (vR 27), some (vI u), some (vI v), some (vI t)] [vI 1] M
        refine AW.go pk_X8_isFree 38 1 rfl rfl ?_
        refine And.intro rfl ?_
        refine And.intro (show ((1 : Int) = 0 ∨ (1 : Int) = 1) from (by omega)) ?_
        exact zQ 1 ⟨by omega, iff_of_true rfl ⟨by omega, by omega, by omega⟩⟩
theorem lz_bg {ev : Ev} {Q : Out → Mem → Prop} {M : Mem}  (u : Int) (v : Int) (l : Int) (t : Int) (zp0 : 0 ≤ u ∧ u < 8) (zp1 : 0 ≤ v ∧ v < 8) (zp2 : 1 ≤ l ∧ l ≤ 6) (zp3 : 0 ≤ t ∧ t ≤ 72) (zp4 : ∀ i, 0 ≤ i → i < 768 → M 42 i = 0 ∨ M 42 i = 1) (zp5 : ∀ i, 0 ≤ i → i < 576 → -1 ≤ M 41 i ∧ M 41 i < 20)  : ∀ (n : Nat) (i : Int) (run : Int), i + n = 72 → (0 ≤ i) → (0 ≤ run ∧ run ≤ l) → (∀ r : Int, r = bgE (if run = l then i else eeT (okR (M 42) (M 41) u v) l n i run) l → Q (.inl (some (vI r))) M) → AW ev false 1 t_X8_beginOf Q 7 [some (vR 27), some (vI u), some (vI v), some (vI l), some (vI t), some (vI run), some (vI i)] [] M := by
  intro n
  induction n with
  | zero =>
    intro i run zn zv0 zv1 zv2
    refine AW.go pk_X8_beginOf 4 11 rfl rfl ?_
    refine And.intro (show Inr i ∧ Inr 72 from ⟨⟨by omega, by omega⟩, ⟨by omega, by omega⟩⟩) (And.intro (fun zh1 => ?_) (fun zh1 => ?_))
    · replace zh1 : (72 : Int) ≤ i := zh1
      change AW ev false 1 t_X8_beginOf Q 47 [some (vR 27), some (vI u), some (vI v), some (vI l), some (vI t), some (vI run), some (vI i)] [] M
      refine AW.go pk_X8_beginOf 24 7 rfl rfl ?_
      refine And.intro (show Inr run ∧ Inr l from ⟨⟨by omega, by omega⟩, ⟨by omega, by omega⟩⟩) (And.intro (fun zh2 => ?_) (fun zh2 => ?_))
      · replace zh2 : run ≠ l := zh2
        change AW ev false 1 t_X8_beginOf Q 60 [some (vR 27), some (vI u), some (vI v), some (vI l), some (vI t), some (vI run), some (vI i)] [] M
        refine AW.go pk_X8_beginOf 31 2 rfl rfl ?_
        refine And.intro rfl ?_
        exact zv2 _ (by first | (rw [if_neg (by omega)]; rfl) | (exfalso; omega))
      · replace zh2 : ¬ (run ≠ l) := zh2
        change AW ev false 1 t_X8_beginOf Q 61 [some (vR 27), some (vI u), some (vI v), some (vI l), some (vI t), some (vI run), some (vI i)] [vI (i - l)] M
        refine AW.go pk_X8_beginOf 32 1 rfl rfl ?_
        refine And.intro rfl ?_
        exact zv2 _ (by rw [if_pos (by omega)]; unfold bgE; rw [if_neg (by omega)])
    · replace zh1 : ¬ ((72 : Int) ≤ i) := zh1
      exfalso; omega
  | succ n zih =>
    intro i run zn zv0 zv1 zv2
    refine AW.go pk_X8_beginOf 4 11 rfl rfl ?_
    refine And.intro (show Inr i ∧ Inr 72 from ⟨⟨by omega, by omega⟩, ⟨by omega, by omega⟩⟩) (And.intro (fun zh1 => ?_) (fun zh1 => ?_))
    · replace zh1 : (72 : Int) ≤ i := zh1
      exfalso; omega
    · replace zh1 : ¬ ((72 : Int) ≤ i) := zh1
      refine And.intro (show Inr run ∧ Inr l from ⟨⟨by omega, by omega⟩, ⟨by omega, by omega⟩⟩) (And.intro (fun zh2 => ?_) (fun zh2 => ?_))
      · replace zh2 : l ≤ run := zh2
        change AW ev false 1 t_X8_beginOf Q 47 [some (vR 27), some (vI u), some (vI v), some (vI l), some (vI t), some (vI run), some (vI i)] [] M
        refine AW.go pk_X8_beginOf 24 7 rfl rfl ?_
        refine And.intro (show Inr run ∧ Inr l from ⟨⟨by omega, by omega⟩, ⟨by omega, by omega⟩⟩) (And.intro (fun zh3 => ?_) (fun zh3 => ?_))
        · replace zh3 : run ≠ l := zh3
          change AW ev false 1 t_X8_beginOf Q 60 [some (vR 27), some (vI u), some (vI v), some (vI l), some (vI t), some (vI run), some (vI i)] [] M
          refine AW.go pk_X8_beginOf 31 2 rfl rfl ?_
          refine And.intro rfl ?_
          exact zv2 _ (by first | (rw [if_neg (by omega)]; rfl) | (exfalso; omega))
        · replace zh3 : ¬ (run ≠ l) := zh3
          change AW ev false 1 t_X8_beginOf Q 61 [some (vR 27), some (vI u), some (vI v), some (vI l), some (vI t), some (vI run), some (vI i)] [vI (i - l)] M
          refine AW.go pk_X8_beginOf 32 1 rfl rfl ?_
          refine And.intro rfl ?_
          exact zv2 _ (by rw [if_pos (by omega)]; unfold bgE; rw [if_neg (by omega)])
      · replace zh2 : ¬ (l ≤ run) := zh2
        change AW ev false 1 t_X8_beginOf Q 25 [some (vR 27), some (vI u), some (vI v), some (vI l), some (vI t), some (vI run), some (vI i)] [vI i, vI v, vI u, vR 27] M
        refine AW.callV (d' := 0) [vI u, vI v, vI i] [] vm_X8_isFree rfl hX8_168 (okP_d pk_X8_beginOf 14 25 (.invokevirtual 168) 3 rfl) (by decide) rfl (Nat.le_of_ble_eq_true rfl) ?_
        refine c_X8_isFree u v i (by omega) (by omega) (by omega) zp4 zp5 (fun w1 zw1 => ?_)
        change AW ev false 1 t_X8_beginOf Q 28 [some (vR 27), some (vI u), some (vI v), some (vI l), some (vI t), some (vI run), some (vI i)] [vI w1] M
        refine AW.go pk_X8_beginOf 15 5 rfl rfl ?_
        refine And.intro (show Inr w1 from ⟨by omega, by omega⟩) (And.intro (fun zh4 => ?_) (fun zh4 => ?_))
        · replace zh4 : w1 = (0 : Int) := zh4
          change AW ev false 1 t_X8_beginOf Q 38 [some (vR 27), some (vI u), some (vI v), some (vI l), some (vI t), some (vI run), some (vI i)] [] M
          refine AW.go pk_X8_beginOf 20 4 rfl rfl ?_
          refine And.intro (show 5 < mL t_X8_beginOf from (by decide)) ?_
          refine And.intro (show 6 < mL t_X8_beginOf from (by decide)) ?_
          change AW ev false 1 t_X8_beginOf Q 7 [some (vR 27), some (vI u), some (vI v), some (vI l), some (vI t), some (vI 0), some (vI (i + 1))] [] M
          exact zih (i + 1) 0 (by omega) (by omega) (by omega) (fun r zr => zv2 r (by rw [zr, if_neg (by omega), if_neg (by omega), eeT_no (ok := (okR (M 42) (M 41) u v)) (fun q => by have := zw1.2.mpr q; omega) (by omega)]))
        · replace zh4 : ¬ (w1 = (0 : Int)) := zh4
          change AW ev false 1 t_X8_beginOf Q 39 [some (vR 27), some (vI u), some (vI v), some (vI l), some (vI t), some (vI run), some (vI i)] [vI (run + 1)] M
          refine AW.go pk_X8_beginOf 21 3 rfl rfl ?_
          refine And.intro (show 5 < mL t_X8_beginOf from (by decide)) ?_
          refine And.intro (show 6 < mL t_X8_beginOf from (by decide)) ?_
          change AW ev false 1 t_X8_beginOf Q 7 [some (vR 27), some (vI u), some (vI v), some (vI l), some (vI t), some (vI (run + 1)), some (vI (i + 1))] [] M
          exact zih (i + 1) (run + 1) (by omega) (by omega) (by omega) (fun r zr => zv2 r (by rw [zr, if_neg (show ¬ run = l from by omega), eeT_yes (ok := (okR (M 42) (M 41) u v)) (zw1.2.mp (by omega))]))
theorem c_X8_beginOf {ev : Ev} {Q : Out → Mem → Prop} {M : Mem}  (u : Int) (v : Int) (l : Int) (t : Int) (zp0 : 0 ≤ u ∧ u < 8) (zp1 : 0 ≤ v ∧ v < 8) (zp2 : 1 ≤ l ∧ l ≤ 6) (zp3 : 0 ≤ t ∧ t ≤ 72) (zp4 : ∀ i, 0 ≤ i → i < 768 → M 42 i = 0 ∨ M 42 i = 1) (zp5 : ∀ i, 0 ≤ i → i < 576 → -1 ≤ M 41 i ∧ M 41 i < 20) (zQ : ∀ (r : Int), r = bgE (ER (M 42) (M 41) l u v t) l ∧ (r = -1 ∨ (t ≤ r ∧ r + l ≤ 72)) → Q (.inl (some (vI r))) M) : AM ev false 1 t_X8_beginOf [vR 27, vI u, vI v, vI l, vI t] M Q := by
  refine AM.of mt_X8_beginOf (Nat.le_of_ble_eq_true rfl) ?_
  change AW ev false 1 t_X8_beginOf Q 0 [some (vR 27), some (vI u), some (vI v), some (vI l), some (vI t), none, none] [] M
  refine AW.go pk_X8_beginOf 0 4 rfl rfl ?_
  refine And.intro (show 5 < mL t_X8_beginOf from (by decide)) ?_
  refine And.intro (show 6 < mL t_X8_beginOf from (by decide)) ?_
  change AW ev false 1 t_X8_beginOf Q 7 [some (vR 27), some (vI u), some (vI v), some (vI l), some (vI t), some (vI 0), some (vI t)] [] M
  exact lz_bg u v l t zp0 zp1 zp2 zp3 zp4 zp5 (72 - t).toNat t 0 (by omega) (by omega) (by omega) (fun r zr => zQ r (by rw [if_neg (by omega)] at zr; refine ⟨zr, ?_⟩; have zl := eeT_len (okR (M 42) (M 41) u v) (l := l) (by omega) zp3.1 zp3.2; rw [zr]; unfold bgE; split <;> omega))
theorem lz_la0 {ev : Ev} {Q : Out → Mem → Prop} {M : Mem}  (a : Int) (l : Int) (t : Int) (zp0 : TJ M) (zp1 : SJ M) (zp2 : KJ M) (zp3 : GJ M) (zp4 : 0 ≤ a ∧ a < M 27 2) (zp5 : 1 ≤ l ∧ l ≤ 6) (zp6 : 0 ≤ t ∧ t ≤ 71) (zX : AW ev false 6 t_X8_layArrivals Q 42 [some (vR 27), some (vI a), some (vI l), some (vI t), some (vI 8), none, none, none, none] [] (avM (layM M) (ar8 (M 43) a t 8))) : ∀ (n : Nat) (i : Int), i + n = 8 → (0 ≤ i) → AW ev false 6 t_X8_layArrivals Q 11 [some (vR 27), some (vI a), some (vI l), some (vI t), some (vI i), none, none, none, none] [] (avM (layM M) (ar8 (M 43) a t i)) := by
  intro n
  induction n with
  | zero =>
    intro i zn zv0
    have zs := zp1.1
    refine AW.go pk_X8_layArrivals 6 11 rfl rfl ?_
    refine And.intro (show Inr i ∧ Inr 8 from ⟨⟨by omega, by omega⟩, ⟨by omega, by omega⟩⟩) (And.intro (fun zh1 => ?_) (fun zh1 => ?_))
    · replace zh1 : (8 : Int) ≤ i := zh1
      change AW ev false 6 t_X8_layArrivals Q 42 [some (vR 27), some (vI a), some (vI l), some (vI t), some (vI i), none, none, none, none] [] (avM (layM M) (ar8 (M 43) a t i))
      have zi : i = 8 := by omega
      rw [zi]
      exact zX
    · replace zh1 : ¬ ((8 : Int) ≤ i) := zh1
      exfalso; omega
  | succ n zih =>
    intro i zn zv0
    have zs := zp1.1
    refine AW.go pk_X8_layArrivals 6 11 rfl rfl ?_
    refine And.intro (show Inr i ∧ Inr 8 from ⟨⟨by omega, by omega⟩, ⟨by omega, by omega⟩⟩) (And.intro (fun zh1 => ?_) (fun zh1 => ?_))
    · replace zh1 : (8 : Int) ≤ i := zh1
      exfalso; omega
    · replace zh1 : ¬ ((8 : Int) ≤ i) := zh1
      refine And.intro (show Inr i ∧ Inr a from ⟨⟨by omega, by omega⟩, ⟨by omega, by omega⟩⟩) (And.intro (fun zh2 => ?_) (fun zh2 => ?_))
      · replace zh2 : i ≠ a := zh2
        change AW ev false 6 t_X8_layArrivals Q 34 [some (vR 27), some (vI a), some (vI l), some (vI t), some (vI i), none, none, none, none] [vI i, vR 43] (avM (layM M) (ar8 (M 43) a t i))
        refine AW.go pk_X8_layArrivals 17 4 rfl rfl ?_
        refine And.intro (show ((0 ≤ i ∧ i < 8) ∧ ((0 : Nat) = 0 ∨ (-1 : Int) = 0 ∨ (-1 : Int) = 1)) from ⟨by omega, Or.inl rfl⟩) ?_
        refine And.intro (show 4 < mL t_X8_layArrivals from (by decide)) ?_
        change AW ev false 6 t_X8_layArrivals Q 11 [some (vR 27), some (vI a), some (vI l), some (vI t), some (vI (i + 1)), none, none, none, none] [] (upM (avM (layM M) (ar8 (M 43) a t i)) 43 i (-1))
        exact AW.mem (show (upM (avM (layM M) (ar8 (M 43) a t i)) 43 i (-1)) = (avM (layM M) (ar8 (M 43) a t (i + 1))) from by (rw [av_put]; first | exact congrArg (avM (layM M)) (ar8_s (by omega) (by rw [if_pos (by omega)])) | exact congrArg (avM (layM M)) (ar8_s (by omega) (by rw [if_neg (by omega)])))) (zih (i + 1) (by omega) (by omega))
      · replace zh2 : ¬ (i ≠ a) := zh2
        change AW ev false 6 t_X8_layArrivals Q 35 [some (vR 27), some (vI a), some (vI l), some (vI t), some (vI i), none, none, none, none] [vI t, vI i, vR 43] (avM (layM M) (ar8 (M 43) a t i))
        refine AW.go pk_X8_layArrivals 18 3 rfl rfl ?_
        refine And.intro (show ((0 ≤ i ∧ i < 8) ∧ ((0 : Nat) = 0 ∨ t = 0 ∨ t = 1)) from ⟨by omega, Or.inl rfl⟩) ?_
        refine And.intro (show 4 < mL t_X8_layArrivals from (by decide)) ?_
        change AW ev false 6 t_X8_layArrivals Q 11 [some (vR 27), some (vI a), some (vI l), some (vI t), some (vI (i + 1)), none, none, none, none] [] (upM (avM (layM M) (ar8 (M 43) a t i)) 43 i t)
        exact AW.mem (show (upM (avM (layM M) (ar8 (M 43) a t i)) 43 i t) = (avM (layM M) (ar8 (M 43) a t (i + 1))) from by (rw [av_put]; first | exact congrArg (avM (layM M)) (ar8_s (by omega) (by rw [if_pos (by omega)])) | exact congrArg (avM (layM M)) (ar8_s (by omega) (by rw [if_neg (by omega)])))) (zih (i + 1) (by omega) (by omega))
theorem lz_la1 {ev : Ev} {Q : Out → Mem → Prop} {M : Mem}  (a : Int) (l : Int) (t : Int) (zp0 : TJ M) (zp1 : SJ M) (zp2 : KJ M) (zp3 : GJ M) (zp4 : 0 ≤ a ∧ a < M 27 2) (zp5 : 1 ≤ l ∧ l ≤ 6) (zp6 : 0 ≤ t ∧ t ≤ 71) (f0 : Int → Int) : ∀ (n : Nat) (k : Int) (more : Int) (f : Int → Int), k + n = M 27 2 * M 27 2 → (0 ≤ k) → (WA8 (ERm M l) (M 27 2) a t f) → (more = 0 ∨ more = 1) → (more = 0 → f = f0 ∧ ∀ j, 0 ≤ j → j < k → clP (ERm M l) f (j / M 27 2) (j % M 27 2)) → (more = 1 → ms8 f < ms8 f0) → (∀ (f2 : Int → Int) (m2 k2 : Int), WA8 (ERm M l) (M 27 2) a t f2 → (m2 = 0 ∨ m2 = 1) → (m2 = 0 → f2 = f0 ∧ ∀ j, 0 ≤ j → j < M 27 2 * M 27 2 → clP (ERm M l) f2 (j / M 27 2) (j % M 27 2)) → (m2 = 1 → ms8 f2 < ms8 f0) → AW ev false 6 t_X8_layArrivals Q 179 [some (vR 27), some (vI a), some (vI l), some (vI t), some (vI m2), some (vI k2), none, none, none] [] (avM (layM M) f2)) → AW ev false 6 t_X8_layArrivals Q 56 [some (vR 27), some (vI a), some (vI l), some (vI t), some (vI more), some (vI k), none, none, none] [] (avM (layM M) f) := by
  intro n
  induction n with
  | zero =>
    intro k more f zn zv0 zv1 zv2 zv3 zv4 zv5
    have zs := zp1.1
    have zsi : 0 ≤ M 27 2 * M 27 2 ∧ M 27 2 * M 27 2 ≤ 64 := sq_b zs
    refine AW.go pk_X8_layArrivals 29 28 rfl rfl ?_
    refine And.intro (show Inr k ∧ Inr ((M 27 2) * (M 27 2)) from ⟨(by have zsi : 0 ≤ M 27 2 * M 27 2 ∧ M 27 2 * M 27 2 ≤ 64 := sq_b zs; exact ⟨by omega, by omega⟩), (by have zsi : 0 ≤ M 27 2 * M 27 2 ∧ M 27 2 * M 27 2 ≤ 64 := sq_b zs; exact ⟨by omega, by omega⟩)⟩) (And.intro (fun zh1 => ?_) (fun zh1 => ?_))
    · replace zh1 : (M 27 2) * (M 27 2) ≤ k := zh1
      change AW ev false 6 t_X8_layArrivals Q 179 [some (vR 27), some (vI a), some (vI l), some (vI t), some (vI more), some (vI k), none, none, none] [] (avM (layM M) f)
      exact zv5 f more k zv1 zv2 (fun q => ⟨(zv3 q).1, fun j q0 q1 => (zv3 q).2 j q0 (by omega)⟩) zv4
    · replace zh1 : ¬ ((M 27 2) * (M 27 2) ≤ k) := zh1
      exfalso; omega
  | succ n zih =>
    intro k more f zn zv0 zv1 zv2 zv3 zv4 zv5
    have zs := zp1.1
    refine AW.go pk_X8_layArrivals 29 28 rfl rfl ?_
    refine And.intro (show Inr k ∧ Inr ((M 27 2) * (M 27 2)) from ⟨(by have zsi : 0 ≤ M 27 2 * M 27 2 ∧ M 27 2 * M 27 2 ≤ 64 := sq_b zs; exact ⟨by omega, by omega⟩), (by have zsi : 0 ≤ M 27 2 * M 27 2 ∧ M 27 2 * M 27 2 ≤ 64 := sq_b zs; exact ⟨by omega, by omega⟩)⟩) (And.intro (fun zh1 => ?_) (fun zh1 => ?_))
    · replace zh1 : (M 27 2) * (M 27 2) ≤ k := zh1
      exfalso; omega
    · replace zh1 : ¬ ((M 27 2) * (M 27 2) ≤ k) := zh1
      have zsi : 0 ≤ M 27 2 * M 27 2 ∧ M 27 2 * M 27 2 ≤ 64 := sq_b zs
      obtain ⟨zq1, zq2, zq3⟩ := sq_f (k := k) (ns := M 27 2) (by omega) (by omega) (by omega)
      have zwu := zv1.1.2.1 (k / M 27 2) (by omega) (by omega)
      have zwv := zv1.1.2.1 (k % M 27 2) (by omega) (by omega)
      refine And.intro (show ((0 ≤ k ∧ k < 2147483648) ∧ 0 < M 27 2 ∧ M 27 2 < 2147483648) from (by omega)) ?_
      refine And.intro (show 6 < mL t_X8_layArrivals from (by decide)) ?_
      refine And.intro (show ((0 ≤ k ∧ k < 2147483648) ∧ 0 < M 27 2 ∧ M 27 2 < 2147483648) from (by omega)) ?_
      refine And.intro (show 7 < mL t_X8_layArrivals from (by decide)) ?_
      refine And.intro (show (0 ≤ k / (M 27 2) ∧ k / (M 27 2) < 8) from (by omega)) ?_
      refine And.intro (show Inr (f (k / (M 27 2))) ∧ Inr (-1) from ⟨⟨by omega, by omega⟩, ⟨by omega, by omega⟩⟩) (And.intro (fun zh2 => ?_) (fun zh2 => ?_))
      · replace zh2 : f (k / (M 27 2)) = (-1 : Int) := zh2
        change AW ev false 6 t_X8_layArrivals Q 106 [some (vR 27), some (vI a), some (vI l), some (vI t), some (vI more), some (vI k), some (vI (k / (M 27 2))), some (vI (k % (M 27 2))), none] [] (avM (layM M) f)
        refine AW.go pk_X8_layArrivals 55 2 rfl rfl ?_
        change AW ev false 6 t_X8_layArrivals Q 126 [some (vR 27), some (vI a), some (vI l), some (vI t), some (vI more), some (vI k), some (vI (k / (M 27 2))), some (vI (k % (M 27 2))), none] [vI (-1)] (avM (layM M) f)
        refine AW.go pk_X8_layArrivals 66 29 rfl rfl ?_
        refine And.intro (show 8 < mL t_X8_layArrivals from (by decide)) ?_
        refine And.intro (show Inr (-1) ∧ Inr (-1) from ⟨⟨by omega, by omega⟩, ⟨by omega, by omega⟩⟩) (And.intro (fun zh3 => ?_) (fun zh3 => ?_))
        · replace zh3 : (-1 : Int) = (-1 : Int) := zh3
          change AW ev false 6 t_X8_layArrivals Q 173 [some (vR 27), some (vI a), some (vI l), some (vI t), some (vI more), some (vI k), some (vI (k / (M 27 2))), some (vI (k % (M 27 2))), some (vI (-1))] [] (avM (layM M) f)
          refine AW.go pk_X8_layArrivals 93 2 rfl rfl ?_
          refine And.intro (show 5 < mL t_X8_layArrivals from (by decide)) ?_
          change AW ev false 6 t_X8_layArrivals Q 56 [some (vR 27), some (vI a), some (vI l), some (vI t), some (vI more), some (vI (k + 1)), some (vI (k / (M 27 2))), some (vI (k % (M 27 2))), some (vI (-1))] [] (avM (layM M) f)
          refine AW.sub [some (vR 27), some (vI a), some (vI l), some (vI t), some (vI more), some (vI (k + 1)), none, none, none] (by simp [lsub]) ?_
          exact zih (k + 1) more f (by omega) (by omega) zv1 zv2 (fun q => ⟨(zv3 q).1, fun j q0 q1 => if zj : j = k then (by subst zj; intro c1 c2; first | (exfalso; omega) | (exfalso; have ze : j / M 27 2 = j % M 27 2 := (by omega); rw [ze] at c1 c2; exact c2 (lay_dg (by omega) (by omega) (by omega) (by omega))) | exact ⟨by omega, by omega⟩) else (zv3 q).2 j q0 (by omega)⟩) zv4 zv5
        · replace zh3 : ¬ ((-1 : Int) = (-1 : Int)) := zh3
          exfalso; omega
      · replace zh2 : ¬ (f (k / (M 27 2)) = (-1 : Int)) := zh2
        refine And.intro (show Inr (k / (M 27 2)) ∧ Inr (k % (M 27 2)) from ⟨⟨by omega, by omega⟩, ⟨by omega, by omega⟩⟩) (And.intro (fun zh4 => ?_) (fun zh4 => ?_))
        · replace zh4 : k / (M 27 2) ≠ k % (M 27 2) := zh4
          change AW ev false 6 t_X8_layArrivals Q 110 [some (vR 27), some (vI a), some (vI l), some (vI t), some (vI more), some (vI k), some (vI (k / (M 27 2))), some (vI (k % (M 27 2))), none] [] (avM (layM M) f)
          refine AW.go pk_X8_layArrivals 57 9 rfl rfl ?_
          refine And.intro (show (0 ≤ k / (M 27 2) ∧ k / (M 27 2) < 8) from (by omega)) ?_
          change AW ev false 6 t_X8_layArrivals Q 123 [some (vR 27), some (vI a), some (vI l), some (vI t), some (vI more), some (vI k), some (vI (k / (M 27 2))), some (vI (k % (M 27 2))), none] [vI (f (k / (M 27 2))), vI l, vI (k % (M 27 2)), vI (k / (M 27 2)), vR 27] (avM (layM M) f)
          refine AW.callV (d' := 1) [vI (k / (M 27 2)), vI (k % (M 27 2)), vI l, vI (f (k / (M 27 2)))] [] vm_X8_beginOf rfl hX8_177 (okP_d pk_X8_layArrivals 65 123 (.invokevirtual 177) 3 rfl) (by decide) rfl (Nat.le_of_ble_eq_true rfl) ?_
          refine c_X8_beginOf (k / (M 27 2)) (k % (M 27 2)) l (f (k / (M 27 2))) (by omega) (by omega) (by omega) (by omega) (fun i q0 q1 => by show layM M 42 i = 0 ∨ layM M 42 i = 1; rw [lay42 M q0 q1]; exact gvR_01 M i) (fun i q0 q1 => ltA_bd zp3.1 q0 q1) (fun w1 zw1 => ?_)
          replace zw1 : w1 = bgE (ERm M l (k / M 27 2) (k % M 27 2) (f (k / M 27 2))) l ∧ (w1 = -1 ∨ (f (k / M 27 2) ≤ w1 ∧ w1 + l ≤ 72)) := zw1
          have zbe : ERm M l (k / M 27 2) (k % M 27 2) (f (k / M 27 2)) = -1 ∨ (f (k / M 27 2) + l ≤ ERm M l (k / M 27 2) (k % M 27 2) (f (k / M 27 2)) ∧ ERm M l (k / M 27 2) (k % M 27 2) (f (k / M 27 2)) ≤ 72) := eeT_len (okR (layM M 42) (layM M 41) (k / M 27 2) (k % M 27 2)) (l := l) (by omega) (s := f (k / M 27 2)) (by omega) (by omega)
          have zev : (w1 = -1 ↔ ERm M l (k / M 27 2) (k % M 27 2) (f (k / M 27 2)) = -1) ∧ (w1 ≠ -1 → w1 + l = ERm M l (k / M 27 2) (k % M 27 2) (f (k / M 27 2))) := by
            rw [zw1.1]; unfold bgE; split <;> constructor <;> (try constructor) <;> intros <;> omega
          change AW ev false 6 t_X8_layArrivals Q 126 [some (vR 27), some (vI a), some (vI l), some (vI t), some (vI more), some (vI k), some (vI (k / (M 27 2))), some (vI (k % (M 27 2))), none] [vI w1] (avM (layM M) f)
          refine AW.go pk_X8_layArrivals 66 29 rfl rfl ?_
          refine And.intro (show 8 < mL t_X8_layArrivals from (by decide)) ?_
          refine And.intro (show Inr w1 ∧ Inr (-1) from ⟨⟨by omega, by omega⟩, ⟨by omega, by omega⟩⟩) (And.intro (fun zh5 => ?_) (fun zh5 => ?_))
          · replace zh5 : w1 = (-1 : Int) := zh5
            change AW ev false 6 t_X8_layArrivals Q 173 [some (vR 27), some (vI a), some (vI l), some (vI t), some (vI more), some (vI k), some (vI (k / (M 27 2))), some (vI (k % (M 27 2))), some (vI w1)] [] (avM (layM M) f)
            refine AW.go pk_X8_layArrivals 93 2 rfl rfl ?_
            refine And.intro (show 5 < mL t_X8_layArrivals from (by decide)) ?_
            change AW ev false 6 t_X8_layArrivals Q 56 [some (vR 27), some (vI a), some (vI l), some (vI t), some (vI more), some (vI (k + 1)), some (vI (k / (M 27 2))), some (vI (k % (M 27 2))), some (vI w1)] [] (avM (layM M) f)
            refine AW.sub [some (vR 27), some (vI a), some (vI l), some (vI t), some (vI more), some (vI (k + 1)), none, none, none] (by simp [lsub]) ?_
            exact zih (k + 1) more f (by omega) (by omega) zv1 zv2 (fun q => ⟨(zv3 q).1, fun j q0 q1 => if zj : j = k then (by subst zj; intro c1 c2; first | (exfalso; omega) | (exfalso; have ze : j / M 27 2 = j % M 27 2 := (by omega); rw [ze] at c1 c2; exact c2 (lay_dg (by omega) (by omega) (by omega) (by omega))) | exact ⟨by omega, by omega⟩) else (zv3 q).2 j q0 (by omega)⟩) zv4 zv5
          · replace zh5 : ¬ (w1 = (-1 : Int)) := zh5
            refine And.intro (show (0 ≤ k % (M 27 2) ∧ k % (M 27 2) < 8) from (by omega)) ?_
            refine And.intro (show Inr (f (k % (M 27 2))) ∧ Inr (-1) from ⟨⟨by omega, by omega⟩, ⟨by omega, by omega⟩⟩) (And.intro (fun zh6 => ?_) (fun zh6 => ?_))
            · replace zh6 : f (k % (M 27 2)) = (-1 : Int) := zh6
              change AW ev false 6 t_X8_layArrivals Q 159 [some (vR 27), some (vI a), some (vI l), some (vI t), some (vI more), some (vI k), some (vI (k / (M 27 2))), some (vI (k % (M 27 2))), some (vI w1)] [] (avM (layM M) f)
              refine AW.go pk_X8_layArrivals 84 11 rfl rfl ?_
              refine And.intro (show ((0 ≤ k % (M 27 2) ∧ k % (M 27 2) < 8) ∧ ((0 : Nat) = 0 ∨ w1 + l = 0 ∨ w1 + l = 1)) from ⟨by omega, Or.inl rfl⟩) ?_
              refine And.intro (show 4 < mL t_X8_layArrivals from (by decide)) ?_
              refine And.intro (show 5 < mL t_X8_layArrivals from (by decide)) ?_
              change AW ev false 6 t_X8_layArrivals Q 56 [some (vR 27), some (vI a), some (vI l), some (vI t), some (vI 1), some (vI (k + 1)), some (vI (k / (M 27 2))), some (vI (k % (M 27 2))), some (vI w1)] [] (upM (avM (layM M) f) 43 (k % (M 27 2)) (w1 + l))
              refine AW.sub [some (vR 27), some (vI a), some (vI l), some (vI t), some (vI 1), some (vI (k + 1)), none, none, none] (by simp [lsub]) ?_
              exact AW.mem (show (upM (avM (layM M) f) 43 (k % (M 27 2)) (w1 + l)) = (avM (layM M) (upF f (k % M 27 2) (ERm M l (k / M 27 2) (k % M 27 2) (f (k / M 27 2))))) from by (rw [av_put]; exact congrArg (avM (layM M)) (congrArg (upF f (k % M 27 2)) (zev.2 (by omega))))) (zih (k + 1) 1 (upF f (k % M 27 2) (ERm M l (k / M 27 2) (k % M 27 2) (f (k / M 27 2)))) (by omega) (by omega) (WA8.step (E := ERm M l) (ER_ok _ _ (by omega) _) zv1 (by omega) (by omega) (by omega) (by omega) (by omega) (by omega) (by omega)) (Or.inr rfl) (fun q => by omega) (fun _ => by have zd := ms8_lt (f := f) (v := (k % M 27 2)) (x := ERm M l (k / M 27 2) (k % M 27 2) (f (k / M 27 2))) (by omega) (by omega) (by omega) (by omega); rcases zv2 with q | q; rw [← (zv3 q).1]; exact zd; have := zv4 q; omega) zv5)
            · replace zh6 : ¬ (f (k % (M 27 2)) = (-1 : Int)) := zh6
              refine And.intro (show (0 ≤ k % (M 27 2) ∧ k % (M 27 2) < 8) from (by omega)) ?_
              refine And.intro (show Inr (w1 + l) ∧ Inr (f (k % (M 27 2))) from ⟨⟨by omega, by omega⟩, ⟨by omega, by omega⟩⟩) (And.intro (fun zh7 => ?_) (fun zh7 => ?_))
              · replace zh7 : f (k % (M 27 2)) ≤ w1 + l := zh7
                change AW ev false 6 t_X8_layArrivals Q 173 [some (vR 27), some (vI a), some (vI l), some (vI t), some (vI more), some (vI k), some (vI (k / (M 27 2))), some (vI (k % (M 27 2))), some (vI w1)] [] (avM (layM M) f)
                refine AW.go pk_X8_layArrivals 93 2 rfl rfl ?_
                refine And.intro (show 5 < mL t_X8_layArrivals from (by decide)) ?_
                change AW ev false 6 t_X8_layArrivals Q 56 [some (vR 27), some (vI a), some (vI l), some (vI t), some (vI more), some (vI (k + 1)), some (vI (k / (M 27 2))), some (vI (k % (M 27 2))), some (vI w1)] [] (avM (layM M) f)
                refine AW.sub [some (vR 27), some (vI a), some (vI l), some (vI t), some (vI more), some (vI (k + 1)), none, none, none] (by simp [lsub]) ?_
                exact zih (k + 1) more f (by omega) (by omega) zv1 zv2 (fun q => ⟨(zv3 q).1, fun j q0 q1 => if zj : j = k then (by subst zj; intro c1 c2; first | (exfalso; omega) | (exfalso; have ze : j / M 27 2 = j % M 27 2 := (by omega); rw [ze] at c1 c2; exact c2 (lay_dg (by omega) (by omega) (by omega) (by omega))) | exact ⟨by omega, by omega⟩) else (zv3 q).2 j q0 (by omega)⟩) zv4 zv5
              · replace zh7 : ¬ (f (k % (M 27 2)) ≤ w1 + l) := zh7
                refine And.intro (show ((0 ≤ k % (M 27 2) ∧ k % (M 27 2) < 8) ∧ ((0 : Nat) = 0 ∨ w1 + l = 0 ∨ w1 + l = 1)) from ⟨by omega, Or.inl rfl⟩) ?_
                refine And.intro (show 4 < mL t_X8_layArrivals from (by decide)) ?_
                refine And.intro (show 5 < mL t_X8_layArrivals from (by decide)) ?_
                change AW ev false 6 t_X8_layArrivals Q 56 [some (vR 27), some (vI a), some (vI l), some (vI t), some (vI 1), some (vI (k + 1)), some (vI (k / (M 27 2))), some (vI (k % (M 27 2))), some (vI w1)] [] (upM (avM (layM M) f) 43 (k % (M 27 2)) (w1 + l))
                refine AW.sub [some (vR 27), some (vI a), some (vI l), some (vI t), some (vI 1), some (vI (k + 1)), none, none, none] (by simp [lsub]) ?_
                exact AW.mem (show (upM (avM (layM M) f) 43 (k % (M 27 2)) (w1 + l)) = (avM (layM M) (upF f (k % M 27 2) (ERm M l (k / M 27 2) (k % M 27 2) (f (k / M 27 2))))) from by (rw [av_put]; exact congrArg (avM (layM M)) (congrArg (upF f (k % M 27 2)) (zev.2 (by omega))))) (zih (k + 1) 1 (upF f (k % M 27 2) (ERm M l (k / M 27 2) (k % M 27 2) (f (k / M 27 2)))) (by omega) (by omega) (WA8.step (E := ERm M l) (ER_ok _ _ (by omega) _) zv1 (by omega) (by omega) (by omega) (by omega) (by omega) (by omega) (by omega)) (Or.inr rfl) (fun q => by omega) (fun _ => by have zd := ms8_lt (f := f) (v := (k % M 27 2)) (x := ERm M l (k / M 27 2) (k % M 27 2) (f (k / M 27 2))) (by omega) (by omega) (by omega) (by omega); rcases zv2 with q | q; rw [← (zv3 q).1]; exact zd; have := zv4 q; omega) zv5)
        · replace zh4 : ¬ (k / (M 27 2) ≠ k % (M 27 2)) := zh4
          change AW ev false 6 t_X8_layArrivals Q 126 [some (vR 27), some (vI a), some (vI l), some (vI t), some (vI more), some (vI k), some (vI (k / (M 27 2))), some (vI (k % (M 27 2))), none] [vI (-1)] (avM (layM M) f)
          refine AW.go pk_X8_layArrivals 66 29 rfl rfl ?_
          refine And.intro (show 8 < mL t_X8_layArrivals from (by decide)) ?_
          refine And.intro (show Inr (-1) ∧ Inr (-1) from ⟨⟨by omega, by omega⟩, ⟨by omega, by omega⟩⟩) (And.intro (fun zh8 => ?_) (fun zh8 => ?_))
          · replace zh8 : (-1 : Int) = (-1 : Int) := zh8
            change AW ev false 6 t_X8_layArrivals Q 173 [some (vR 27), some (vI a), some (vI l), some (vI t), some (vI more), some (vI k), some (vI (k / (M 27 2))), some (vI (k % (M 27 2))), some (vI (-1))] [] (avM (layM M) f)
            refine AW.go pk_X8_layArrivals 93 2 rfl rfl ?_
            refine And.intro (show 5 < mL t_X8_layArrivals from (by decide)) ?_
            change AW ev false 6 t_X8_layArrivals Q 56 [some (vR 27), some (vI a), some (vI l), some (vI t), some (vI more), some (vI (k + 1)), some (vI (k / (M 27 2))), some (vI (k % (M 27 2))), some (vI (-1))] [] (avM (layM M) f)
            refine AW.sub [some (vR 27), some (vI a), some (vI l), some (vI t), some (vI more), some (vI (k + 1)), none, none, none] (by simp [lsub]) ?_
            exact zih (k + 1) more f (by omega) (by omega) zv1 zv2 (fun q => ⟨(zv3 q).1, fun j q0 q1 => if zj : j = k then (by subst zj; intro c1 c2; first | (exfalso; omega) | (exfalso; have ze : j / M 27 2 = j % M 27 2 := (by omega); rw [ze] at c1 c2; exact c2 (lay_dg (by omega) (by omega) (by omega) (by omega))) | exact ⟨by omega, by omega⟩) else (zv3 q).2 j q0 (by omega)⟩) zv4 zv5
          · replace zh8 : ¬ ((-1 : Int) = (-1 : Int)) := zh8
            exfalso; omega
theorem lz_lae {ev : Ev} {Q : Out → Mem → Prop} {M : Mem}  (a : Int) (l : Int) (t : Int) (zp0 : TJ M) (zp1 : SJ M) (zp2 : KJ M) (zp3 : GJ M) (zp4 : 0 ≤ a ∧ a < M 27 2) (zp5 : 1 ≤ l ∧ l ≤ 6) (zp6 : 0 ≤ t ∧ t ≤ 71) (f : Int → Int) (zE : Q (.inl none) (avM (layM M) f)) : AW ev false 6 t_X8_layArrivals Q 45 [some (vR 27), some (vI a), some (vI l), some (vI t), some (vI 0), none, none, none, none] [] (avM (layM M) f) := by
  refine AW.go pk_X8_layArrivals 23 2 rfl rfl ?_
  refine And.intro (show Inr 0 from ⟨by omega, by omega⟩) (And.intro (fun zh1 => ?_) (fun zh1 => ?_))
  · change AW ev false 6 t_X8_layArrivals Q 182 [some (vR 27), some (vI a), some (vI l), some (vI t), some (vI 0), none, none, none, none] [] (avM (layM M) f)
    refine AW.go pk_X8_layArrivals 96 1 rfl rfl ?_
    exact And.intro rfl zE
  · exfalso; replace zh1 : ¬ ((0 : Int) = 0) := zh1; omega
theorem lz_la2 {ev : Ev} {Q : Out → Mem → Prop} {M : Mem}  (a : Int) (l : Int) (t : Int) (zp0 : TJ M) (zp1 : SJ M) (zp2 : KJ M) (zp3 : GJ M) (zp4 : 0 ≤ a ∧ a < M 27 2) (zp5 : 1 ≤ l ∧ l ≤ 6) (zp6 : 0 ≤ t ∧ t ≤ 71) (zQ0 : ∀ (f : Int → Int), ArrOK (ERm M l) (M 27 2) a t f → Q (.inl none) (avM (layM M) f)) : ∀ (n : Nat) (f : Int → Int), ms8 f ≤ n → WA8 (ERm M l) (M 27 2) a t f → AW ev false 6 t_X8_layArrivals Q 45 [some (vR 27), some (vI a), some (vI l), some (vI t), some (vI 1), none, none, none, none] [] (avM (layM M) f) := by
  have zs := zp1.1
  have zsi : 0 ≤ M 27 2 * M 27 2 ∧ M 27 2 * M 27 2 ≤ 64 := sq_b zs
  intro n
  induction n with
  | zero =>
    intro f zn zv1
    refine AW.go pk_X8_layArrivals 23 6 rfl rfl ?_
    refine And.intro (show Inr 1 from ⟨by omega, by omega⟩) (And.intro (fun zh1 => ?_) (fun zh1 => ?_))
    · replace zh1 : (1 : Int) = (0 : Int) := zh1
      exfalso; omega
    · replace zh1 : ¬ ((1 : Int) = (0 : Int)) := zh1
      refine And.intro (show 4 < mL t_X8_layArrivals from (by decide)) ?_
      refine And.intro (show 5 < mL t_X8_layArrivals from (by decide)) ?_
      change AW ev false 6 t_X8_layArrivals Q 56 [some (vR 27), some (vI a), some (vI l), some (vI t), some (vI 0), some (vI 0), none, none, none] [] (avM (layM M) f)
      refine lz_la1 a l t zp0 zp1 zp2 zp3 zp4 zp5 zp6 f (M 27 2 * M 27 2).toNat 0 0 f (by omega) (by omega) zv1 (Or.inl rfl) (fun _ => ⟨rfl, fun j q0 q1 => by omega⟩) (fun q => by omega) (fun f2 m2 k2 y1 y2 y3 y4 => ?_)
      refine AW.go pk_X8_layArrivals 95 1 rfl rfl ?_
      change AW ev false 6 t_X8_layArrivals Q 45 [some (vR 27), some (vI a), some (vI l), some (vI t), some (vI m2), some (vI k2), none, none, none] [] (avM (layM M) f2)
      refine AW.sub [some (vR 27), some (vI a), some (vI l), some (vI t), some (vI m2), none, none, none, none] (by simp [lsub]) ?_
      rcases y2 with rfl | rfl
      · refine lz_lae a l t zp0 zp1 zp2 zp3 zp4 zp5 zp6 f2 (zQ0 f2 (y1.1.fin (ER_ok _ _ (by omega) _) (by omega) (cl_all (by omega) (y3 rfl).2)))
      · exfalso; have q1 := y4 rfl; have q2 := y1.nn (by omega) (by omega); omega
  | succ n zih =>
    intro f zn zv1
    refine AW.go pk_X8_layArrivals 23 6 rfl rfl ?_
    refine And.intro (show Inr 1 from ⟨by omega, by omega⟩) (And.intro (fun zh1 => ?_) (fun zh1 => ?_))
    · replace zh1 : (1 : Int) = (0 : Int) := zh1
      exfalso; omega
    · replace zh1 : ¬ ((1 : Int) = (0 : Int)) := zh1
      refine And.intro (show 4 < mL t_X8_layArrivals from (by decide)) ?_
      refine And.intro (show 5 < mL t_X8_layArrivals from (by decide)) ?_
      change AW ev false 6 t_X8_layArrivals Q 56 [some (vR 27), some (vI a), some (vI l), some (vI t), some (vI 0), some (vI 0), none, none, none] [] (avM (layM M) f)
      refine lz_la1 a l t zp0 zp1 zp2 zp3 zp4 zp5 zp6 f (M 27 2 * M 27 2).toNat 0 0 f (by omega) (by omega) zv1 (Or.inl rfl) (fun _ => ⟨rfl, fun j q0 q1 => by omega⟩) (fun q => by omega) (fun f2 m2 k2 y1 y2 y3 y4 => ?_)
      refine AW.go pk_X8_layArrivals 95 1 rfl rfl ?_
      change AW ev false 6 t_X8_layArrivals Q 45 [some (vR 27), some (vI a), some (vI l), some (vI t), some (vI m2), some (vI k2), none, none, none] [] (avM (layM M) f2)
      refine AW.sub [some (vR 27), some (vI a), some (vI l), some (vI t), some (vI m2), none, none, none, none] (by simp [lsub]) ?_
      rcases y2 with rfl | rfl
      · refine lz_lae a l t zp0 zp1 zp2 zp3 zp4 zp5 zp6 f2 (zQ0 f2 (y1.1.fin (ER_ok _ _ (by omega) _) (by omega) (cl_all (by omega) (y3 rfl).2)))
      · exact zih f2 (by have q1 := y4 rfl; omega) y1
theorem c_X8_layArrivals {ev : Ev} {Q : Out → Mem → Prop} {M : Mem}  (a : Int) (l : Int) (t : Int) (zp0 : TJ M) (zp1 : SJ M) (zp2 : KJ M) (zp3 : GJ M) (zp4 : 0 ≤ a ∧ a < M 27 2) (zp5 : 1 ≤ l ∧ l ≤ 6) (zp6 : 0 ≤ t ∧ t ≤ 71) (zQ0 : ∀ (f : Int → Int), ArrOK (ERm M l) (M 27 2) a t f → Q (.inl none) (avM (layM M) f)) : AM ev false 6 t_X8_layArrivals [vR 27, vI a, vI l, vI t] M Q := by
  have zs := zp1.1
  refine AM.of mt_X8_layArrivals (Nat.le_of_ble_eq_true rfl) ?_
  change AW ev false 6 t_X8_layArrivals Q 0 [some (vR 27), some (vI a), some (vI l), some (vI t), none, none, none, none, none] [] M
  refine AW.go pk_X8_layArrivals 0 2 rfl rfl ?_
  change AW ev false 6 t_X8_layArrivals Q 1 [some (vR 27), some (vI a), some (vI l), some (vI t), none, none, none, none, none] [vR 27] M
  refine AW.callV (d' := 0) [] [] vm_X8_layTurns rfl hX8_171 (okP_d pk_X8_layArrivals 1 1 (.invokevirtual 171) 3 rfl) (by decide) rfl (Nat.le_of_ble_eq_true rfl) ?_
  refine c_X8_layTurns  zp3 ?_
  change AW ev false 6 t_X8_layArrivals Q 4 [some (vR 27), some (vI a), some (vI l), some (vI t), none, none, none, none, none] [] (tkM M (ltA M))
  refine AW.go pk_X8_layArrivals 2 2 rfl rfl ?_
  change AW ev false 6 t_X8_layArrivals Q 5 [some (vR 27), some (vI a), some (vI l), some (vI t), none, none, none, none, none] [vR 27] (tkM M (ltA M))
  refine AW.callV (d' := 5) [] [] vm_X8_layLinks rfl hX8_174 (okP_d pk_X8_layArrivals 3 5 (.invokevirtual 174) 3 rfl) (by decide) rfl (Nat.le_of_ble_eq_true rfl) ?_
  refine c_X8_layLinks  zp0 zp1 zp2 ?_
  change AW ev false 6 t_X8_layArrivals Q 8 [some (vR 27), some (vI a), some (vI l), some (vI t), none, none, none, none, none] [] (glM (tkM M (ltA M)) 768)
  refine AW.go pk_X8_layArrivals 4 2 rfl rfl ?_
  refine And.intro (show 4 < mL t_X8_layArrivals from (by decide)) ?_
  change AW ev false 6 t_X8_layArrivals Q 11 [some (vR 27), some (vI a), some (vI l), some (vI t), some (vI 0), none, none, none, none] [] (glM (tkM M (ltA M)) 768)
  refine AW.mem (show (glM (tkM M (ltA M)) 768) = (avM (layM M) (ar8 (M 43) a t 0)) from by rw [← ar8_0]; exact av_self (layM M)) (lz_la0 a l t zp0 zp1 zp2 zp3 zp4 zp5 zp6 ?_ 8 0 (by omega) (by omega))
  change AW ev false 6 t_X8_layArrivals Q 42 [some (vR 27), some (vI a), some (vI l), some (vI t), some (vI 8), none, none, none, none] [] (avM (layM M) (ar8 (M 43) a t 8))
  refine AW.go pk_X8_layArrivals 21 2 rfl rfl ?_
  refine And.intro (show 4 < mL t_X8_layArrivals from (by decide)) ?_
  change AW ev false 6 t_X8_layArrivals Q 45 [some (vR 27), some (vI a), some (vI l), some (vI t), some (vI 1), none, none, none, none] [] (avM (layM M) (ar8 (M 43) a t 8))
  have zwa : WA8 (ERm M l) (M 27 2) a t (ar8 (M 43) a t 8) := wa8_0 (by omega) (by omega) (by omega)
  have znn := zwa.nn (by omega) (by omega)
  exact lz_la2 a l t zp0 zp1 zp2 zp3 zp4 zp5 zp6 zQ0 (ms8 (ar8 (M 43) a t 8)).toNat _ (by omega) zwa
