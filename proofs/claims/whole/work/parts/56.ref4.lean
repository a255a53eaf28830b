theorem sq_b {n : Int} (h : 0 ≤ n ∧ n ≤ 8) : 0 ≤ n * n ∧ n * n ≤ 64 := by
  have h1 := mul_bd (a := n) (b := n) (A := 8) (B := 8) (by omega) (by omega)
  have h2 := Int.mul_nonneg h.1 h.1
  omega
theorem lz_sights {ev : Ev} {Q : Out → Mem → Prop} {M : Mem}   (zp0 : TJ M) (zp1 : SJ M)  : ∀ (n : Nat) (k : Int) (s : Int), k + n = M 27 2 * M 27 2 → (0 ≤ k) → (∀ r : Int, r = itT (fun k s => if k % M 27 2 ≠ k / M 27 2 ∧ betF (M 28) (M 29) (M 30) (k / M 27 2) (k % M 27 2) = -1 then s + 1 else s) n k s → Q (.inl (some (vI r))) M) → AW ev false 4 t_X8_sights Q 4 [some (vR 27), some (vI s), some (vI k), none, none] [] M := by
  intro n
  induction n with
  | zero =>
    intro k s zn zv0 zv1
    have zs := zp1.1
    refine AW.go pk_X8_sights 4 25 rfl rfl ?_
    refine And.intro (show Inr k ∧ Inr ((M 27 2) * (M 27 2)) from ⟨(by have zsi : 0 ≤ M 27 2 * M 27 2 ∧ M 27 2 * M 27 2 ≤ 64 := sq_b zs; exact ⟨by omega, by omega⟩), (by have zsi : 0 ≤ M 27 2 * M 27 2 ∧ M 27 2 * M 27 2 ≤ 64 := sq_b zs; exact ⟨by omega, by omega⟩)⟩) (And.intro (fun zh1 => ?_) (fun zh1 => ?_))
    · replace zh1 : (M 27 2) * (M 27 2) ≤ k := zh1
      change AW ev false 4 t_X8_sights Q 63 [some (vR 27), some (vI s), some (vI k), none, none] [] M
      refine AW.go pk_X8_sights 38 2 rfl rfl ?_
      refine And.intro rfl ?_
      exact zv1 _ rfl
    · replace zh1 : ¬ ((M 27 2) * (M 27 2) ≤ k) := zh1
      exfalso; omega
  | succ n zih =>
    intro k s zn zv0 zv1
    have zs := zp1.1
    refine AW.go pk_X8_sights 4 25 rfl rfl ?_
    refine And.intro (show Inr k ∧ Inr ((M 27 2) * (M 27 2)) from ⟨(by have zsi : 0 ≤ M 27 2 * M 27 2 ∧ M 27 2 * M 27 2 ≤ 64 := sq_b zs; exact ⟨by omega, by omega⟩), (by have zsi : 0 ≤ M 27 2 * M 27 2 ∧ M 27 2 * M 27 2 ≤ 64 := sq_b zs; exact ⟨by omega, by omega⟩)⟩) (And.intro (fun zh1 => ?_) (fun zh1 => ?_))
    · replace zh1 : (M 27 2) * (M 27 2) ≤ k := zh1
      exfalso; omega
    · replace zh1 : ¬ ((M 27 2) * (M 27 2) ≤ k) := zh1
      obtain ⟨zq1, zq2, zq3⟩ := sq_f (k := k) (ns := M 27 2) (by omega) (by omega) (by omega)
      have zsi : 0 ≤ M 27 2 * M 27 2 ∧ M 27 2 * M 27 2 ≤ 64 := sq_b zs
      refine And.intro (show ((0 ≤ k ∧ k < 2147483648) ∧ 0 < M 27 2 ∧ M 27 2 < 2147483648) from (by omega)) ?_
      refine And.intro (show 3 < mL t_X8_sights from (by decide)) ?_
      refine And.intro (show ((0 ≤ k ∧ k < 2147483648) ∧ 0 < M 27 2 ∧ M 27 2 < 2147483648) from (by omega)) ?_
      refine And.intro (show 4 < mL t_X8_sights from (by decide)) ?_
      refine And.intro (show Inr (k / (M 27 2)) ∧ Inr (k % (M 27 2)) from ⟨⟨by omega, by omega⟩, ⟨by omega, by omega⟩⟩) (And.intro (fun zh2 => ?_) (fun zh2 => ?_))
      · replace zh2 : k / (M 27 2) = k % (M 27 2) := zh2
        change AW ev false 4 t_X8_sights Q 54 [some (vR 27), some (vI s), some (vI k), some (vI (k / (M 27 2))), some (vI (k % (M 27 2)))] [vI s] M
        refine AW.go pk_X8_sights 33 5 rfl rfl ?_
        refine And.intro (show 1 < mL t_X8_sights from (by decide)) ?_
        refine And.intro (show 2 < mL t_X8_sights from (by decide)) ?_
        change AW ev false 4 t_X8_sights Q 4 [some (vR 27), some (vI (s + 0)), some (vI (k + 1)), some (vI (k / (M 27 2))), some (vI (k % (M 27 2)))] [] M
        refine AW.sub [some (vR 27), some (vI (s + 0)), some (vI (k + 1)), none, none] (by simp [lsub]) ?_
        exact zih (k + 1) (s + 0) (by omega) (by omega) (fun r zr => zv1 r (itT_step (show (if k % M 27 2 ≠ k / M 27 2 ∧ betF (M 28) (M 29) (M 30) (k / M 27 2) (k % M 27 2) = -1 then s + 1 else s) = s + 0 from by rw [if_neg (by omega), Int.add_zero]) zr))
      · replace zh2 : ¬ (k / (M 27 2) = k % (M 27 2)) := zh2
        change AW ev false 4 t_X8_sights Q 43 [some (vR 27), some (vI s), some (vI k), some (vI (k / (M 27 2))), some (vI (k % (M 27 2)))] [vI (k % (M 27 2)), vI (k / (M 27 2)), vR 27, vI s] M
        refine AW.callV (d' := 3) [vI (k / (M 27 2)), vI (k % (M 27 2))] [vI s] vm_X8_between rfl hX8_149 (okP_d pk_X8_sights 28 43 (.invokevirtual 149) 3 rfl) (by decide) rfl (Nat.le_of_ble_eq_true rfl) ?_
        refine c_X8_between (k / (M 27 2)) (k % (M 27 2)) zp0 zp1 (by omega) (by omega) (by omega) (fun w1 zw1 => ?_)
        change AW ev false 4 t_X8_sights Q 46 [some (vR 27), some (vI s), some (vI k), some (vI (k / (M 27 2))), some (vI (k % (M 27 2)))] [vI w1, vI s] M
        refine AW.go pk_X8_sights 29 4 rfl rfl ?_
        refine And.intro (show Inr w1 ∧ Inr (-1) from ⟨⟨by omega, by omega⟩, ⟨by omega, by omega⟩⟩) (And.intro (fun zh3 => ?_) (fun zh3 => ?_))
        · replace zh3 : w1 ≠ (-1 : Int) := zh3
          change AW ev false 4 t_X8_sights Q 54 [some (vR 27), some (vI s), some (vI k), some (vI (k / (M 27 2))), some (vI (k % (M 27 2)))] [vI s] M
          refine AW.go pk_X8_sights 33 5 rfl rfl ?_
          refine And.intro (show 1 < mL t_X8_sights from (by decide)) ?_
          refine And.intro (show 2 < mL t_X8_sights from (by decide)) ?_
          change AW ev false 4 t_X8_sights Q 4 [some (vR 27), some (vI (s + 0)), some (vI (k + 1)), some (vI (k / (M 27 2))), some (vI (k % (M 27 2)))] [] M
          refine AW.sub [some (vR 27), some (vI (s + 0)), some (vI (k + 1)), none, none] (by simp [lsub]) ?_
          exact zih (k + 1) (s + 0) (by omega) (by omega) (fun r zr => zv1 r (itT_step (show (if k % M 27 2 ≠ k / M 27 2 ∧ betF (M 28) (M 29) (M 30) (k / M 27 2) (k % M 27 2) = -1 then s + 1 else s) = s + 0 from by rw [if_neg (by omega), Int.add_zero]) zr))
        · replace zh3 : ¬ (w1 ≠ (-1 : Int)) := zh3
          change AW ev false 4 t_X8_sights Q 55 [some (vR 27), some (vI s), some (vI k), some (vI (k / (M 27 2))), some (vI (k % (M 27 2)))] [vI 1, vI s] M
          refine AW.go pk_X8_sights 34 4 rfl rfl ?_
          refine And.intro (show 1 < mL t_X8_sights from (by decide)) ?_
          refine And.intro (show 2 < mL t_X8_sights from (by decide)) ?_
          change AW ev false 4 t_X8_sights Q 4 [some (vR 27), some (vI (s + 1)), some (vI (k + 1)), some (vI (k / (M 27 2))), some (vI (k % (M 27 2)))] [] M
          refine AW.sub [some (vR 27), some (vI (s + 1)), some (vI (k + 1)), none, none] (by simp [lsub]) ?_
          exact zih (k + 1) (s + 1) (by omega) (by omega) (fun r zr => zv1 r (itT_step (show (if k % M 27 2 ≠ k / M 27 2 ∧ betF (M 28) (M 29) (M 30) (k / M 27 2) (k % M 27 2) = -1 then s + 1 else s) = s + 1 from by rw [if_pos ⟨by omega, by omega⟩]) zr))
theorem c_X8_sights {ev : Ev} {Q : Out → Mem → Prop} {M : Mem}   (zp0 : TJ M) (zp1 : SJ M) (zQ : ∀ (r : Int), r = siA (betF (M 28) (M 29) (M 30)) (M 27 2).toNat (M 27 2).toNat 0 0 → Q (.inl (some (vI r))) M) : AM ev false 4 t_X8_sights [vR 27] M Q := by
  have zs := zp1.1
  refine AM.of mt_X8_sights (Nat.le_of_ble_eq_true rfl) ?_
  change AW ev false 4 t_X8_sights Q 0 [some (vR 27), none, none, none, none] [] M
  refine AW.go pk_X8_sights 0 4 rfl rfl ?_
  refine And.intro (show 1 < mL t_X8_sights from (by decide)) ?_
  refine And.intro (show 2 < mL t_X8_sights from (by decide)) ?_
  change AW ev false 4 t_X8_sights Q 4 [some (vR 27), some (vI 0), some (vI 0), none, none] [] M
  have zsi : 0 ≤ M 27 2 * M 27 2 ∧ M 27 2 * M 27 2 ≤ 64 := sq_b zs
  exact lz_sights zp0 zp1 (M 27 2 * M 27 2).toNat 0 0 (by omega) (by omega) (fun r zr => zQ r (by rw [zr, si_rows _ zs.1]))
theorem lz_least8 {ev : Ev} {Q : Out → Mem → Prop} {M : Mem}  (a : Int) (b : Int) (zp0 : TJ M) (zp1 : SJ M) (zp2 : 0 ≤ a ∧ a < M 27 2) (zp3 : 0 ≤ b ∧ b < M 27 2) (zp4 : a ≠ b)  : ∀ (n : Nat) (k : Int), k + n = 51 → (0 ≤ k) → (∀ r : Int, r = lmT (fun k => blkF (M 28) (M 29 a) (M 28 (M 29 a) + k) (M 29 b) (eyeF (M 28) (M 29) (M 30) b)) n k → Q (.inl (some (vI r))) M) → AW ev false 3 t_X8_leastMast Q 2 [some (vR 27), some (vI a), some (vI b), some (vI k)] [] M := by
  intro n
  induction n with
  | zero =>
    intro k zn zv0 zv1
    have zs := zp1.1
    have zfa := zp1.2.1 a (by omega) (by omega)
    have zfb := zp1.2.1 b (by omega) (by omega)
    have zga := zp0 (M 29 a) (by omega) (by omega)
    refine AW.go pk_X8_leastMast 2 24 rfl rfl ?_
    refine And.intro (show Inr k ∧ Inr 50 from ⟨⟨by omega, by omega⟩, ⟨by omega, by omega⟩⟩) (And.intro (fun zh1 => ?_) (fun zh1 => ?_))
    · replace zh1 : (50 : Int) < k := zh1
      change AW ev false 3 t_X8_leastMast Q 52 [some (vR 27), some (vI a), some (vI b), some (vI k)] [] M
      refine AW.go pk_X8_leastMast 31 5 rfl rfl ?_
      refine And.intro (show Inr k ∧ Inr 50 from ⟨⟨by omega, by omega⟩, ⟨by omega, by omega⟩⟩) (And.intro (fun zh2 => ?_) (fun zh2 => ?_))
      · replace zh2 : (50 : Int) < k := zh2
        change AW ev false 3 t_X8_leastMast Q 62 [some (vR 27), some (vI a), some (vI b), some (vI k)] [] M
        refine AW.go pk_X8_leastMast 36 2 rfl rfl ?_
        refine And.intro rfl ?_
        exact zv1 _ rfl
      · replace zh2 : ¬ ((50 : Int) < k) := zh2
        exfalso; omega
    · replace zh1 : ¬ ((50 : Int) < k) := zh1
      exfalso; omega
  | succ n zih =>
    intro k zn zv0 zv1
    have zs := zp1.1
    have zfa := zp1.2.1 a (by omega) (by omega)
    have zfb := zp1.2.1 b (by omega) (by omega)
    have zga := zp0 (M 29 a) (by omega) (by omega)
    refine AW.go pk_X8_leastMast 2 24 rfl rfl ?_
    refine And.intro (show Inr k ∧ Inr 50 from ⟨⟨by omega, by omega⟩, ⟨by omega, by omega⟩⟩) (And.intro (fun zh1 => ?_) (fun zh1 => ?_))
    · replace zh1 : (50 : Int) < k := zh1
      exfalso; omega
    · replace zh1 : ¬ ((50 : Int) < k) := zh1
      refine And.intro (show (0 ≤ a ∧ a < 8) from (by omega)) ?_
      refine And.intro (show (0 ≤ a ∧ a < 8) from (by omega)) ?_
      refine And.intro (show (0 ≤ M 29 a ∧ M 29 a < 144) from (by omega)) ?_
      refine And.intro (show (0 ≤ b ∧ b < 8) from (by omega)) ?_
      change AW ev false 3 t_X8_leastMast Q 36 [some (vR 27), some (vI a), some (vI b), some (vI k)] [vI b, vR 27, vI (M 29 b), vI ((M 28 (M 29 a)) + k), vI (M 29 a), vR 27] M
      refine AW.callV (d' := 0) [vI b] [vI (M 29 b), vI ((M 28 (M 29 a)) + k), vI (M 29 a), vR 27] vm_X8_eyeOf rfl hX8_127 (okP_d pk_X8_leastMast 25 36 (.invokevirtual 127) 3 rfl) (by decide) rfl (Nat.le_of_ble_eq_true rfl) ?_
      refine c_X8_eyeOf b zp0 zp1 (by omega) (fun w1 zw1 => ?_)
      change AW ev false 3 t_X8_leastMast Q 39 [some (vR 27), some (vI a), some (vI b), some (vI k)] [vI w1, vI (M 29 b), vI ((M 28 (M 29 a)) + k), vI (M 29 a), vR 27] M
      refine AW.callV (d' := 2) [vI (M 29 a), vI ((M 28 (M 29 a)) + k), vI (M 29 b), vI w1] [] vm_X8_blockerOf rfl hX8_130 (okP_d pk_X8_leastMast 26 39 (.invokevirtual 130) 3 rfl) (by decide) rfl (Nat.le_of_ble_eq_true rfl) ?_
      refine c_X8_blockerOf (M 29 a) ((M 28 (M 29 a)) + k) (M 29 b) w1 zp0 (by omega) (by omega) (by omega) (by omega) (fun q => zp4 (zp1.2.2 a b (by omega) (by omega) (by omega) (by omega) q)) (fun w2 zw2 => ?_)
      rw [zw1.1] at zw2
      change AW ev false 3 t_X8_leastMast Q 42 [some (vR 27), some (vI a), some (vI b), some (vI k)] [vI w2] M
      refine AW.go pk_X8_leastMast 27 4 rfl rfl ?_
      refine And.intro (show Inr w2 ∧ Inr (-1) from ⟨⟨by omega, by omega⟩, ⟨by omega, by omega⟩⟩) (And.intro (fun zh2 => ?_) (fun zh2 => ?_))
      · replace zh2 : w2 = (-1 : Int) := zh2
        change AW ev false 3 t_X8_leastMast Q 52 [some (vR 27), some (vI a), some (vI b), some (vI k)] [] M
        refine AW.go pk_X8_leastMast 31 5 rfl rfl ?_
        refine And.intro (show Inr k ∧ Inr 50 from ⟨⟨by omega, by omega⟩, ⟨by omega, by omega⟩⟩) (And.intro (fun zh3 => ?_) (fun zh3 => ?_))
        · replace zh3 : (50 : Int) < k := zh3
          exfalso; omega
        · replace zh3 : ¬ ((50 : Int) < k) := zh3
          change AW ev false 3 t_X8_leastMast Q 63 [some (vR 27), some (vI a), some (vI b), some (vI k)] [vI k] M
          refine AW.go pk_X8_leastMast 37 1 rfl rfl ?_
          refine And.intro rfl ?_
          exact zv1 _ (by unfold lmT; rw [if_pos (by omega)])
      · replace zh2 : ¬ (w2 = (-1 : Int)) := zh2
        refine And.intro (show 3 < mL t_X8_leastMast from (by decide)) ?_
        change AW ev false 3 t_X8_leastMast Q 2 [some (vR 27), some (vI a), some (vI b), some (vI (k + 1))] [] M
        exact zih (k + 1) (by omega) (by omega) (fun r zr => zv1 r (by rw [zr]; (conv => rhs; unfold lmT); rw [if_neg (by omega)]))
theorem c_X8_leastMast {ev : Ev} {Q : Out → Mem → Prop} {M : Mem}  (a : Int) (b : Int) (zp0 : TJ M) (zp1 : SJ M) (zp2 : 0 ≤ a ∧ a < M 27 2) (zp3 : 0 ≤ b ∧ b < M 27 2) (zp4 : a ≠ b) (zQ : ∀ (r : Int), r = lmT (fun k => blkF (M 28) (M 29 a) (M 28 (M 29 a) + k) (M 29 b) (eyeF (M 28) (M 29) (M 30) b)) 51 0 → Q (.inl (some (vI r))) M) : AM ev false 3 t_X8_leastMast [vR 27, vI a, vI b] M Q := by
  have zs := zp1.1
  have zfa := zp1.2.1 a (by omega) (by omega)
  have zfb := zp1.2.1 b (by omega) (by omega)
  have zga := zp0 (M 29 a) (by omega) (by omega)
  refine AM.of mt_X8_leastMast (Nat.le_of_ble_eq_true rfl) ?_
  change AW ev false 3 t_X8_leastMast Q 0 [some (vR 27), some (vI a), some (vI b), none] [] M
  refine AW.go pk_X8_leastMast 0 2 rfl rfl ?_
  refine And.intro (show 3 < mL t_X8_leastMast from (by decide)) ?_
  change AW ev false 3 t_X8_leastMast Q 2 [some (vR 27), some (vI a), some (vI b), some (vI 0)] [] M
  exact lz_least8 a b zp0 zp1 zp2 zp3 zp4 51 0 (by omega) (by omega) zQ
theorem c_X8_blocker {ev : Ev} {Q : Out → Mem → Prop} {M : Mem}  (a : Int) (b : Int) (zp0 : TJ M) (zp1 : SJ M) (zp2 : -2147483648 ≤ a ∧ a < 2147483648) (zp3 : -2147483648 ≤ b ∧ b < 2147483648) (zQ0 : ((0 ≤ a ∧ a < M 27 2) ∧ 0 ≤ b ∧ b < M 27 2) ∧ a ≠ b → Q (.inl (some (vI (betF (M 28) (M 29) (M 30) a b)))) (upM M 27 0 0)) (zQ1 : ¬ ((0 ≤ a ∧ a < M 27 2) ∧ 0 ≤ b ∧ b < M 27 2) → Q (.inl (some (vI 0))) (upM M 27 0 1)) (zQ2 : ((0 ≤ a ∧ a < M 27 2) ∧ 0 ≤ b ∧ b < M 27 2) ∧ a = b → Q (.inl (some (vI 0))) (upM M 27 0 2)) : AM ev false 4 t_X8_blocker [vR 27, vI a, vI b] M Q := by
  have zs := zp1.1
  refine AM.of mt_X8_blocker (Nat.le_of_ble_eq_true rfl) ?_
  change AW ev false 4 t_X8_blocker Q 0 [some (vR 27), some (vI a), some (vI b)] [] M
  refine AW.go pk_X8_blocker 0 5 rfl rfl ?_
  change AW ev false 4 t_X8_blocker Q 4 [some (vR 27), some (vI a), some (vI b)] [vI b, vI a, vR 27, vR 27] M
  refine AW.callV (d' := 2) [vI a, vI b] [vR 27] vm_X8_pairWrong rfl hX8_228 (okP_d pk_X8_blocker 4 4 (.invokevirtual 228) 3 rfl) (by decide) rfl (Nat.le_of_ble_eq_true rfl) ?_
  refine c_X8_pairWrong a b (by omega) (by omega) (by omega) (fun w0 zw0 => ?_)
  change AW ev false 4 t_X8_blocker Q 7 [some (vR 27), some (vI a), some (vI b)] [vI w0, vR 27] M
  refine AW.go pk_X8_blocker 5 6 rfl rfl ?_
  refine And.intro (show Inr w0 from ⟨by omega, by omega⟩) (And.intro (fun zh1 => ?_) (fun zh1 => ?_))
  · replace zh1 : w0 ≤ (0 : Int) := zh1
    change AW ev false 4 t_X8_blocker Q 21 [some (vR 27), some (vI a), some (vI b)] [] (upM M 27 0 w0)
    refine AW.go pk_X8_blocker 11 4 rfl rfl ?_
    change AW ev false 4 t_X8_blocker Q 24 [some (vR 27), some (vI a), some (vI b)] [vI b, vI a, vR 27] (upM M 27 0 w0)
    refine AW.callV (d' := 3) [vI a, vI b] [] vm_X8_between rfl hX8_149 (okP_d pk_X8_blocker 14 24 (.invokevirtual 149) 3 rfl) (by decide) rfl (Nat.le_of_ble_eq_true rfl) ?_
    refine c_X8_between a b zp0 zp1 (show 0 ≤ a ∧ a < (M 27 2) from by omega) (show 0 ≤ b ∧ b < (M 27 2) from by omega) (by omega) (fun w1 zw1 => ?_)
    change AW ev false 4 t_X8_blocker Q 27 [some (vR 27), some (vI a), some (vI b)] [vI w1] (upM M 27 0 w0)
    refine AW.go pk_X8_blocker 15 1 rfl rfl ?_
    refine And.intro rfl ?_
    exact QcI (Q := Q) (show w1 = betF (M 28) (M 29) (M 30) a b from zw1.1) (show (upM M 27 0 w0) = (upM M 27 0 0) from by simp only [show w0 = 0 from by omega, up_up]) (zQ0 (by omega))
  · replace zh1 : ¬ (w0 ≤ (0 : Int)) := zh1
    change AW ev false 4 t_X8_blocker Q 27 [some (vR 27), some (vI a), some (vI b)] [vI 0] (upM M 27 0 w0)
    refine AW.go pk_X8_blocker 15 1 rfl rfl ?_
    refine And.intro rfl ?_
    rcases zw0 with ⟨zx, zy⟩ | ⟨zx, zy⟩ | ⟨zx, zy⟩
    · first | (exfalso; omega) | exact QcI (Q := Q) rfl (show (upM M 27 0 w0) = (upM M 27 0 1) from by simp only [zx, up_up]) (zQ1 (by omega)) | exact QcI (Q := Q) rfl (show (upM M 27 0 w0) = (upM M 27 0 2) from by simp only [zx, up_up]) (zQ2 (by omega))
    · first | (exfalso; omega) | exact QcI (Q := Q) rfl (show (upM M 27 0 w0) = (upM M 27 0 1) from by simp only [zx, up_up]) (zQ1 (by omega)) | exact QcI (Q := Q) rfl (show (upM M 27 0 w0) = (upM M 27 0 2) from by simp only [zx, up_up]) (zQ2 (by omega))
    · first | (exfalso; omega) | exact QcI (Q := Q) rfl (show (upM M 27 0 w0) = (upM M 27 0 1) from by simp only [zx, up_up]) (zQ1 (by omega)) | exact QcI (Q := Q) rfl (show (upM M 27 0 w0) = (upM M 27 0 2) from by simp only [zx, up_up]) (zQ2 (by omega))
theorem c_X8_mastFor {ev : Ev} {Q : Out → Mem → Prop} {M : Mem}  (a : Int) (b : Int) (zp0 : TJ M) (zp1 : SJ M) (zp2 : -2147483648 ≤ a ∧ a < 2147483648) (zp3 : -2147483648 ≤ b ∧ b < 2147483648) (zQ0 : ((0 ≤ a ∧ a < M 27 2) ∧ 0 ≤ b ∧ b < M 27 2) ∧ a ≠ b → Q (.inl (some (vI (lmT (fun k => blkF (M 28) (M 29 a) (M 28 (M 29 a) + k) (M 29 b) (eyeF (M 28) (M 29) (M 30) b)) 51 0)))) (upM M 27 0 0)) (zQ1 : ¬ ((0 ≤ a ∧ a < M 27 2) ∧ 0 ≤ b ∧ b < M 27 2) → Q (.inl (some (vI 0))) (upM M 27 0 1)) (zQ2 : ((0 ≤ a ∧ a < M 27 2) ∧ 0 ≤ b ∧ b < M 27 2) ∧ a = b → Q (.inl (some (vI 0))) (upM M 27 0 2)) : AM ev false 4 t_X8_mastFor [vR 27, vI a, vI b] M Q := by
  have zs := zp1.1
  refine AM.of mt_X8_mastFor (Nat.le_of_ble_eq_true rfl) ?_
  change AW ev false 4 t_X8_mastFor Q 0 [some (vR 27), some (vI a), some (vI b)] [] M
  refine AW.go pk_X8_mastFor 0 5 rfl rfl ?_
  change AW ev false 4 t_X8_mastFor Q 4 [some (vR 27), some (vI a), some (vI b)] [vI b, vI a, vR 27, vR 27] M
  refine AW.callV (d' := 2) [vI a, vI b] [vR 27] vm_X8_pairWrong rfl hX8_228 (okP_d pk_X8_mastFor 4 4 (.invokevirtual 228) 3 rfl) (by decide) rfl (Nat.le_of_ble_eq_true rfl) ?_
  refine c_X8_pairWrong a b (by omega) (by omega) (by omega) (fun w0 zw0 => ?_)
  change AW ev false 4 t_X8_mastFor Q 7 [some (vR 27), some (vI a), some (vI b)] [vI w0, vR 27] M
  refine AW.go pk_X8_mastFor 5 6 rfl rfl ?_
  refine And.intro (show Inr w0 from ⟨by omega, by omega⟩) (And.intro (fun zh1 => ?_) (fun zh1 => ?_))
  · replace zh1 : w0 ≤ (0 : Int) := zh1
    change AW ev false 4 t_X8_mastFor Q 21 [some (vR 27), some (vI a), some (vI b)] [] (upM M 27 0 w0)
    refine AW.go pk_X8_mastFor 11 4 rfl rfl ?_
    change AW ev false 4 t_X8_mastFor Q 24 [some (vR 27), some (vI a), some (vI b)] [vI b, vI a, vR 27] (upM M 27 0 w0)
    refine AW.callV (d' := 3) [vI a, vI b] [] vm_X8_leastMast rfl hX8_231 (okP_d pk_X8_mastFor 14 24 (.invokevirtual 231) 3 rfl) (by decide) rfl (Nat.le_of_ble_eq_true rfl) ?_
    refine c_X8_leastMast a b zp0 zp1 (show 0 ≤ a ∧ a < (M 27 2) from by omega) (show 0 ≤ b ∧ b < (M 27 2) from by omega) (by omega) (fun w1 zw1 => ?_)
    change AW ev false 4 t_X8_mastFor Q 27 [some (vR 27), some (vI a), some (vI b)] [vI w1] (upM M 27 0 w0)
    refine AW.go pk_X8_mastFor 15 1 rfl rfl ?_
    refine And.intro rfl ?_
    exact QcI (Q := Q) (show w1 = lmT (fun k => blkF (M 28) (M 29 a) (M 28 (M 29 a) + k) (M 29 b) (eyeF (M 28) (M 29) (M 30) b)) 51 0 from zw1) (show (upM M 27 0 w0) = (upM M 27 0 0) from by simp only [show w0 = 0 from by omega, up_up]) (zQ0 (by omega))
  · replace zh1 : ¬ (w0 ≤ (0 : Int)) := zh1
    change AW ev false 4 t_X8_mastFor Q 27 [some (vR 27), some (vI a), some (vI b)] [vI 0] (upM M 27 0 w0)
    refine AW.go pk_X8_mastFor 15 1 rfl rfl ?_
    refine And.intro rfl ?_
    rcases zw0 with ⟨zx, zy⟩ | ⟨zx, zy⟩ | ⟨zx, zy⟩
    · first | (exfalso; omega) | exact QcI (Q := Q) rfl (show (upM M 27 0 w0) = (upM M 27 0 1) from by simp only [zx, up_up]) (zQ1 (by omega)) | exact QcI (Q := Q) rfl (show (upM M 27 0 w0) = (upM M 27 0 2) from by simp only [zx, up_up]) (zQ2 (by omega))
    · first | (exfalso; omega) | exact QcI (Q := Q) rfl (show (upM M 27 0 w0) = (upM M 27 0 1) from by simp only [zx, up_up]) (zQ1 (by omega)) | exact QcI (Q := Q) rfl (show (upM M 27 0 w0) = (upM M 27 0 2) from by simp only [zx, up_up]) (zQ2 (by omega))
    · first | (exfalso; omega) | exact QcI (Q := Q) rfl (show (upM M 27 0 w0) = (upM M 27 0 1) from by simp only [zx, up_up]) (zQ1 (by omega)) | exact QcI (Q := Q) rfl (show (upM M 27 0 w0) = (upM M 27 0 2) from by simp only [zx, up_up]) (zQ2 (by omega))
theorem c_X8_link {ev : Ev} {Q : Out → Mem → Prop} {M : Mem}  (a : Int) (b : Int) (hr : Int) (zp0 : TJ M) (zp1 : SJ M) (zp2 : -2147483648 ≤ a ∧ a < 2147483648) (zp3 : -2147483648 ≤ b ∧ b < 2147483648) (zp4 : KJ M) (zp5 : -2147483648 ≤ hr ∧ hr < 2147483648) (zQ0 : (((0 ≤ a ∧ a < M 27 2) ∧ 0 ≤ b ∧ b < M 27 2) ∧ a ≠ b) ∧ 6 ≤ hr ∧ hr ≤ 17 → Q (.inl (some (vI (lnkF (M 28) (M 29) (M 30) (M 31) (cvR M) a b hr)))) (upM M 27 0 0)) (zQ1 : ¬ ((0 ≤ a ∧ a < M 27 2) ∧ 0 ≤ b ∧ b < M 27 2) → Q (.inl (some (vI 0))) (upM M 27 0 1)) (zQ2 : ((0 ≤ a ∧ a < M 27 2) ∧ 0 ≤ b ∧ b < M 27 2) ∧ (a = b ∨ ¬ (6 ≤ hr ∧ hr ≤ 17)) → Q (.inl (some (vI 0))) (upM M 27 0 2)) : AM ev false 5 t_X8_link [vR 27, vI a, vI b, vI hr] M Q := by
  have zs := zp1.1
  refine AM.of mt_X8_link (Nat.le_of_ble_eq_true rfl) ?_
  change AW ev false 5 t_X8_link Q 0 [some (vR 27), some (vI a), some (vI b), some (vI hr)] [] M
  refine AW.go pk_X8_link 0 5 rfl rfl ?_
  change AW ev false 5 t_X8_link Q 4 [some (vR 27), some (vI a), some (vI b), some (vI hr)] [vI b, vI a, vR 27, vR 27] M
  refine AW.callV (d' := 2) [vI a, vI b] [vR 27] vm_X8_pairWrong rfl hX8_228 (okP_d pk_X8_link 4 4 (.invokevirtual 228) 3 rfl) (by decide) rfl (Nat.le_of_ble_eq_true rfl) ?_
  refine c_X8_pairWrong a b (by omega) (by omega) (by omega) (fun w0 zw0 => ?_)
  change AW ev false 5 t_X8_link Q 7 [some (vR 27), some (vI a), some (vI b), some (vI hr)] [vI w0, vR 27] M
  refine AW.go pk_X8_link 5 9 rfl rfl ?_
  refine And.intro (show Inr w0 from ⟨by omega, by omega⟩) (And.intro (fun zh1 => ?_) (fun zh1 => ?_))
  · replace zh1 : w0 ≠ (0 : Int) := zh1
    change AW ev false 5 t_X8_link Q 33 [some (vR 27), some (vI a), some (vI b), some (vI hr)] [vR 27] (upM M 27 0 w0)
    refine AW.go pk_X8_link 17 8 rfl rfl ?_
    refine And.intro (show Inr w0 from ⟨by omega, by omega⟩) (And.intro (fun zh2 => ?_) (fun zh2 => ?_))
    · replace zh2 : w0 ≤ (0 : Int) := zh2
      change AW ev false 5 t_X8_link Q 51 [some (vR 27), some (vI a), some (vI b), some (vI hr)] [] (upM (upM M 27 0 w0) 27 0 w0)
      refine AW.go pk_X8_link 25 5 rfl rfl ?_
      change AW ev false 5 t_X8_link Q 55 [some (vR 27), some (vI a), some (vI b), some (vI hr)] [vI hr, vI b, vI a, vR 27] (upM (upM M 27 0 w0) 27 0 w0)
      refine AW.callV (d' := 4) [vI a, vI b, vI hr] [] vm_X8_linkOf rfl hX8_164 (okP_d pk_X8_link 29 55 (.invokevirtual 164) 3 rfl) (by decide) rfl (Nat.le_of_ble_eq_true rfl) ?_
      refine c_X8_linkOf a b hr zp0 zp1 zp4 (show 0 ≤ a ∧ a < (M 27 2) from by omega) (show 0 ≤ b ∧ b < (M 27 2) from by omega) (by omega) (by omega) (fun w1 zw1 => ?_)
      change AW ev false 5 t_X8_link Q 58 [some (vR 27), some (vI a), some (vI b), some (vI hr)] [vI w1] (upM (upM M 27 0 w0) 27 0 w0)
      refine AW.go pk_X8_link 30 1 rfl rfl ?_
      refine And.intro rfl ?_
      exact QcI (Q := Q) (show w1 = lnkF (M 28) (M 29) (M 30) (M 31) (cvR M) a b hr from zw1.1) (show (upM (upM M 27 0 w0) 27 0 w0) = (upM M 27 0 0) from by simp only [show w0 = 0 from by omega, up_up]) (zQ0 (by omega))
    · replace zh2 : ¬ (w0 ≤ (0 : Int)) := zh2
      change AW ev false 5 t_X8_link Q 58 [some (vR 27), some (vI a), some (vI b), some (vI hr)] [vI 0] (upM (upM M 27 0 w0) 27 0 w0)
      refine AW.go pk_X8_link 30 1 rfl rfl ?_
      refine And.intro rfl ?_
      rcases zw0 with ⟨zx, zy⟩ | ⟨zx, zy⟩ | ⟨zx, zy⟩
      · first | (exfalso; omega) | exact QcI (Q := Q) rfl (show (upM (upM M 27 0 w0) 27 0 w0) = (upM M 27 0 1) from by simp only [zx, up_up]) (zQ1 (by omega)) | exact QcI (Q := Q) rfl (show (upM (upM M 27 0 w0) 27 0 w0) = (upM M 27 0 2) from by simp only [zx, up_up]) (zQ2 (by omega))
      · first | (exfalso; omega) | exact QcI (Q := Q) rfl (show (upM (upM M 27 0 w0) 27 0 w0) = (upM M 27 0 1) from by simp only [zx, up_up]) (zQ1 (by omega)) | exact QcI (Q := Q) rfl (show (upM (upM M 27 0 w0) 27 0 w0) = (upM M 27 0 2) from by simp only [zx, up_up]) (zQ2 (by omega))
      · first | (exfalso; omega) | exact QcI (Q := Q) rfl (show (upM (upM M 27 0 w0) 27 0 w0) = (upM M 27 0 1) from by simp only [zx, up_up]) (zQ1 (by omega)) | exact QcI (Q := Q) rfl (show (upM (upM M 27 0 w0) 27 0 w0) = (upM M 27 0 2) from by simp only [zx, up_up]) (zQ2 (by omega))
  · replace zh1 : ¬ (w0 ≠ (0 : Int)) := zh1
    change AW ev false 5 t_X8_link Q 23 [some (vR 27), some (vI a), some (vI b), some (vI hr)] [vI 17, vI 6, vI hr, vR 27] (upM M 27 0 w0)
    refine AW.callS (d' := 0) [vI hr, vI 6, vI 17] [vR 27] sm_X8_within hX8_69 (okP_d pk_X8_link 13 23 (.invokestatic 69) 3 rfl) (by decide) rfl (Nat.le_of_ble_eq_true rfl) ?_
    refine c_X8_within hr 6 17 (by omega) (by omega) (by omega) (fun zr3 zzr3 => ?_)
    change AW ev false 5 t_X8_link Q 26 [some (vR 27), some (vI a), some (vI b), some (vI hr)] [vI zr3, vR 27] (upM M 27 0 w0)
    refine AW.go pk_X8_link 14 3 rfl rfl ?_
    refine And.intro (show Inr zr3 from ⟨by omega, by omega⟩) (And.intro (fun zh4 => ?_) (fun zh4 => ?_))
    · replace zh4 : zr3 ≠ (0 : Int) := zh4
      change AW ev false 5 t_X8_link Q 33 [some (vR 27), some (vI a), some (vI b), some (vI hr)] [vR 27] (upM M 27 0 w0)
      refine AW.go pk_X8_link 17 8 rfl rfl ?_
      refine And.intro (show Inr w0 from ⟨by omega, by omega⟩) (And.intro (fun zh5 => ?_) (fun zh5 => ?_))
      · replace zh5 : w0 ≤ (0 : Int) := zh5
        change AW ev false 5 t_X8_link Q 51 [some (vR 27), some (vI a), some (vI b), some (vI hr)] [] (upM (upM M 27 0 w0) 27 0 w0)
        refine AW.go pk_X8_link 25 5 rfl rfl ?_
        change AW ev false 5 t_X8_link Q 55 [some (vR 27), some (vI a), some (vI b), some (vI hr)] [vI hr, vI b, vI a, vR 27] (upM (upM M 27 0 w0) 27 0 w0)
        refine AW.callV (d' := 4) [vI a, vI b, vI hr] [] vm_X8_linkOf rfl hX8_164 (okP_d pk_X8_link 29 55 (.invokevirtual 164) 3 rfl) (by decide) rfl (Nat.le_of_ble_eq_true rfl) ?_
        refine c_X8_linkOf a b hr zp0 zp1 zp4 (show 0 ≤ a ∧ a < (M 27 2) from by omega) (show 0 ≤ b ∧ b < (M 27 2) from by omega) (by omega) (by omega) (fun w1 zw1 => ?_)
        change AW ev false 5 t_X8_link Q 58 [some (vR 27), some (vI a), some (vI b), some (vI hr)] [vI w1] (upM (upM M 27 0 w0) 27 0 w0)
        refine AW.go pk_X8_link 30 1 rfl rfl ?_
        refine And.intro rfl ?_
        exact QcI (Q := Q) (show w1 = lnkF (M 28) (M 29) (M 30) (M 31) (cvR M) a b hr from zw1.1) (show (upM (upM M 27 0 w0) 27 0 w0) = (upM M 27 0 0) from by simp only [show w0 = 0 from by omega, up_up]) (zQ0 (by omega))
      · replace zh5 : ¬ (w0 ≤ (0 : Int)) := zh5
        change AW ev false 5 t_X8_link Q 58 [some (vR 27), some (vI a), some (vI b), some (vI hr)] [vI 0] (upM (upM M 27 0 w0) 27 0 w0)
        refine AW.go pk_X8_link 30 1 rfl rfl ?_
        refine And.intro rfl ?_
        rcases zw0 with ⟨zx, zy⟩ | ⟨zx, zy⟩ | ⟨zx, zy⟩
        · first | (exfalso; omega) | exact QcI (Q := Q) rfl (show (upM (upM M 27 0 w0) 27 0 w0) = (upM M 27 0 1) from by simp only [zx, up_up]) (zQ1 (by omega)) | exact QcI (Q := Q) rfl (show (upM (upM M 27 0 w0) 27 0 w0) = (upM M 27 0 2) from by simp only [zx, up_up]) (zQ2 (by omega))
        · first | (exfalso; omega) | exact QcI (Q := Q) rfl (show (upM (upM M 27 0 w0) 27 0 w0) = (upM M 27 0 1) from by simp only [zx, up_up]) (zQ1 (by omega)) | exact QcI (Q := Q) rfl (show (upM (upM M 27 0 w0) 27 0 w0) = (upM M 27 0 2) from by simp only [zx, up_up]) (zQ2 (by omega))
        · first | (exfalso; omega) | exact QcI (Q := Q) rfl (show (upM (upM M 27 0 w0) 27 0 w0) = (upM M 27 0 1) from by simp only [zx, up_up]) (zQ1 (by omega)) | exact QcI (Q := Q) rfl (show (upM (upM M 27 0 w0) 27 0 w0) = (upM M 27 0 2) from by simp only [zx, up_up]) (zQ2 (by omega))
    · replace zh4 : ¬ (zr3 ≠ (0 : Int)) := zh4
      change AW ev false 5 t_X8_link Q 37 [some (vR 27), some (vI a), some (vI b), some (vI hr)] [vI 2, vR 27] (upM M 27 0 w0)
      refine AW.go pk_X8_link 19 6 rfl rfl ?_
      refine And.intro (show Inr 2 from ⟨by omega, by omega⟩) (And.intro (fun zh6 => ?_) (fun zh6 => ?_))
      · replace zh6 : (2 : Int) ≤ (0 : Int) := zh6
        exfalso; omega
      · replace zh6 : ¬ ((2 : Int) ≤ (0 : Int)) := zh6
        change AW ev false 5 t_X8_link Q 58 [some (vR 27), some (vI a), some (vI b), some (vI hr)] [vI 0] (upM (upM M 27 0 w0) 27 0 2)
        refine AW.go pk_X8_link 30 1 rfl rfl ?_
        refine And.intro rfl ?_
        rcases zw0 with ⟨zx, zy⟩ | ⟨zx, zy⟩ | ⟨zx, zy⟩
        · first | (exfalso; omega) | exact QcI (Q := Q) rfl (show (upM (upM M 27 0 w0) 27 0 2) = (upM M 27 0 1) from by simp only [zx, up_up]) (zQ1 (by omega)) | exact QcI (Q := Q) rfl (show (upM (upM M 27 0 w0) 27 0 2) = (upM M 27 0 2) from by simp only [zx, up_up]) (zQ2 (by omega))
        · first | (exfalso; omega) | exact QcI (Q := Q) rfl (show (upM (upM M 27 0 w0) 27 0 2) = (upM M 27 0 1) from by simp only [zx, up_up]) (zQ1 (by omega)) | exact QcI (Q := Q) rfl (show (upM (upM M 27 0 w0) 27 0 2) = (upM M 27 0 2) from by simp only [zx, up_up]) (zQ2 (by omega))
        · first | (exfalso; omega) | exact QcI (Q := Q) rfl (show (upM (upM M 27 0 w0) 27 0 2) = (upM M 27 0 1) from by simp only [zx, up_up]) (zQ1 (by omega)) | exact QcI (Q := Q) rfl (show (upM (upM M 27 0 w0) 27 0 2) = (upM M 27 0 2) from by simp only [zx, up_up]) (zQ2 (by omega))
theorem lz_seen8 {ev : Ev} {Q : Out → Mem → Prop} {M : Mem}  (c : Int) (m : Int) (zp0 : TJ M) (zp1 : SJ M) (zp2 : 0 ≤ c ∧ c < 144) (zp3 : 0 ≤ m ∧ m ≤ 50) (zp4 : ¬ ∃ i, 0 ≤ i ∧ i < M 27 2 ∧ M 29 i = c)  : ∀ (n : Nat) (b : Int) (s : Int), b + n = M 27 2 → (0 ≤ b) → (∀ r : Int, r = ssT (fun b => blkF (M 28) c (M 28 c + m) (M 29 b) (eyeF (M 28) (M 29) (M 30) b)) n b s → Q (.inl (some (vI r))) M) → AW ev false 3 t_X8_seenFrom Q 5 [some (vR 27), some (vI c), some (vI m), some (vI s), some (vI b)] [] M := by
  intro n
  induction n with
  | zero =>
    intro b s zn zv0 zv1
    have zs := zp1.1
    have zg := zp0 c (by omega) (by omega)
    refine AW.go pk_X8_seenFrom 4 20 rfl rfl ?_
    refine And.intro (show Inr b ∧ Inr (M 27 2) from ⟨⟨by omega, by omega⟩, ⟨by omega, by omega⟩⟩) (And.intro (fun zh1 => ?_) (fun zh1 => ?_))
    · replace zh1 : M 27 2 ≤ b := zh1
      change AW ev false 3 t_X8_seenFrom Q 58 [some (vR 27), some (vI c), some (vI m), some (vI s), some (vI b)] [] M
      refine AW.go pk_X8_seenFrom 34 2 rfl rfl ?_
      refine And.intro rfl ?_
      exact zv1 s rfl
    · replace zh1 : ¬ (M 27 2 ≤ b) := zh1
      exfalso; omega
  | succ n zih =>
    intro b s zn zv0 zv1
    have zs := zp1.1
    have zg := zp0 c (by omega) (by omega)
    refine AW.go pk_X8_seenFrom 4 20 rfl rfl ?_
    refine And.intro (show Inr b ∧ Inr (M 27 2) from ⟨⟨by omega, by omega⟩, ⟨by omega, by omega⟩⟩) (And.intro (fun zh1 => ?_) (fun zh1 => ?_))
    · replace zh1 : M 27 2 ≤ b := zh1
      exfalso; omega
    · replace zh1 : ¬ (M 27 2 ≤ b) := zh1
      refine And.intro (show (0 ≤ c ∧ c < 144) from (by omega)) ?_
      refine And.intro (show (0 ≤ b ∧ b < 8) from (by omega)) ?_
      have zf2 := zp1.2.1 b (by omega) (by omega)
      change AW ev false 3 t_X8_seenFrom Q 35 [some (vR 27), some (vI c), some (vI m), some (vI s), some (vI b)] [vI b, vR 27, vI (M 29 b), vI ((M 28 c) + m), vI c, vR 27, vI s] M
      refine AW.callV (d' := 0) [vI b] [vI (M 29 b), vI ((M 28 c) + m), vI c, vR 27, vI s] vm_X8_eyeOf rfl hX8_127 (okP_d pk_X8_seenFrom 23 35 (.invokevirtual 127) 3 rfl) (by decide) rfl (Nat.le_of_ble_eq_true rfl) ?_
      refine c_X8_eyeOf b zp0 zp1 (by omega) (fun w1 zw1 => ?_)
      have zfb := zp1.2.1 b (by omega) (by omega)
      change AW ev false 3 t_X8_seenFrom Q 38 [some (vR 27), some (vI c), some (vI m), some (vI s), some (vI b)] [vI w1, vI (M 29 b), vI ((M 28 c) + m), vI c, vR 27, vI s] M
      refine AW.callV (d' := 2) [vI c, vI ((M 28 c) + m), vI (M 29 b), vI w1] [vI s] vm_X8_blockerOf rfl hX8_130 (okP_d pk_X8_seenFrom 24 38 (.invokevirtual 130) 3 rfl) (by decide) rfl (Nat.le_of_ble_eq_true rfl) ?_
      refine c_X8_blockerOf c ((M 28 c) + m) (M 29 b) w1 zp0 (by omega) (by omega) (by omega) (by omega) (fun q => zp4 ⟨b, by omega, by omega, q.symm⟩) (fun w2 zw2 => ?_)
      rw [zw1.1] at zw2
      change AW ev false 3 t_X8_seenFrom Q 41 [some (vR 27), some (vI c), some (vI m), some (vI s), some (vI b)] [vI w2, vI s] M
      refine AW.go pk_X8_seenFrom 25 4 rfl rfl ?_
      refine And.intro (show Inr w2 ∧ Inr (-1) from ⟨⟨by omega, by omega⟩, ⟨by omega, by omega⟩⟩) (And.intro (fun zh3 => ?_) (fun zh3 => ?_))
      · replace zh3 : w2 ≠ (-1 : Int) := zh3
        change AW ev false 3 t_X8_seenFrom Q 49 [some (vR 27), some (vI c), some (vI m), some (vI s), some (vI b)] [vI s] M
        refine AW.go pk_X8_seenFrom 29 5 rfl rfl ?_
        refine And.intro (show 3 < mL t_X8_seenFrom from (by decide)) ?_
        refine And.intro (show 4 < mL t_X8_seenFrom from (by decide)) ?_
        change AW ev false 3 t_X8_seenFrom Q 5 [some (vR 27), some (vI c), some (vI m), some (vI (s + 0)), some (vI (b + 1))] [] M
        exact zih (b + 1) (s + 0) (by omega) (by omega) (fun r zr => zv1 r (by rw [zr, Int.add_zero]; (conv => rhs; unfold ssT); rw [if_neg (by omega)]))
      · replace zh3 : ¬ (w2 ≠ (-1 : Int)) := zh3
        change AW ev false 3 t_X8_seenFrom Q 50 [some (vR 27), some (vI c), some (vI m), some (vI s), some (vI b)] [vI 1, vI s] M
        refine AW.go pk_X8_seenFrom 30 4 rfl rfl ?_
        refine And.intro (show 3 < mL t_X8_seenFrom from (by decide)) ?_
        refine And.intro (show 4 < mL t_X8_seenFrom from (by decide)) ?_
        change AW ev false 3 t_X8_seenFrom Q 5 [some (vR 27), some (vI c), some (vI m), some (vI (s + 1)), some (vI (b + 1))] [] M
        exact zih (b + 1) (s + 1) (by omega) (by omega) (fun r zr => zv1 r (by rw [zr]; (conv => rhs; unfold ssT); rw [if_pos (by omega)]))
theorem c_X8_seenFrom {ev : Ev} {Q : Out → Mem → Prop} {M : Mem}  (c : Int) (m : Int) (zp0 : TJ M) (zp1 : SJ M) (zp2 : 0 ≤ c ∧ c < 144) (zp3 : 0 ≤ m ∧ m ≤ 50) (zp4 : ¬ ∃ i, 0 ≤ i ∧ i < M 27 2 ∧ M 29 i = c) (zQ : ∀ (r : Int), r = ssT (fun b => blkF (M 28) c (M 28 c + m) (M 29 b) (eyeF (M 28) (M 29) (M 30) b)) (M 27 2).toNat 0 0 ∧ (0 ≤ r ∧ r ≤ 8) → Q (.inl (some (vI r))) M) : AM ev false 3 t_X8_seenFrom [vR 27, vI c, vI m] M Q := by
  have zs := zp1.1
  refine AM.of mt_X8_seenFrom (Nat.le_of_ble_eq_true rfl) ?_
  change AW ev false 3 t_X8_seenFrom Q 0 [some (vR 27), some (vI c), some (vI m), none, none] [] M
  refine AW.go pk_X8_seenFrom 0 4 rfl rfl ?_
  refine And.intro (show 3 < mL t_X8_seenFrom from (by decide)) ?_
  refine And.intro (show 4 < mL t_X8_seenFrom from (by decide)) ?_
  change AW ev false 3 t_X8_seenFrom Q 5 [some (vR 27), some (vI c), some (vI m), some (vI 0), some (vI 0)] [] M
  exact lz_seen8 c m zp0 zp1 zp2 zp3 zp4 (M 27 2).toNat 0 0 (by omega) (by omega) (fun r zr => zQ r ⟨zr, by have := ssT_bd (fun b => blkF (M 28) c (M 28 c + m) (M 29 b) (eyeF (M 28) (M 29) (M 30) b)) (M 27 2).toNat 0 0; rw [← zr] at this; omega⟩)
theorem lz_best8 {ev : Ev} {Q : Out → Mem → Prop} {M : Mem}  (m : Int) (zp0 : TJ M) (zp1 : SJ M) (zp2 : -2147483648 ≤ m ∧ m < 2147483648) (zmm : 0 ≤ m ∧ m ≤ 50) : ∀ (n : Nat) (c : Int) (b : Int) (v : Int), c + n = 144 → (0 ≤ c) → ((b = -1 ∧ v = -1) ∨ (0 ≤ b ∧ b < c ∧ 0 ≤ v ∧ v ≤ 8)) → (b < 144) → (∀ r : Int, r = bcT (fun c => ∃ i, 0 ≤ i ∧ i < M 27 2 ∧ M 29 i = c) (M 28) (fun c => ssT (fun b => blkF (M 28) c (M 28 c + m) (M 29 b) (eyeF (M 28) (M 29) (M 30) b)) (M 27 2).toNat 0 0) n c b v → Q (.inl (some (vI r))) (upM M 27 0 0)) → AW ev false 4 t_X8_bestCell Q 35 [some (vR 27), some (vI m), some (vI b), some (vI v), some (vI c), none, none] [] (upM M 27 0 0) := by
  intro n
  induction n with
  | zero =>
    intro c b v zn zv0 zv1 zv2 zv3
    have zs := zp1.1
    have zg := fun (q : c < 144) => zp0 c (by omega) q
    have zg2 : b ≠ -1 → 0 ≤ M 28 b ∧ M 28 b ≤ 500 := fun q => zp0 b (by omega) (by omega)
    refine AW.go pk_X8_bestCell 21 6 rfl rfl ?_
    refine And.intro (show Inr c ∧ Inr 144 from ⟨⟨by omega, by omega⟩, ⟨by omega, by omega⟩⟩) (And.intro (fun zh1 => ?_) (fun zh1 => ?_))
    · replace zh1 : (144 : Int) ≤ c := zh1
      change AW ev false 4 t_X8_bestCell Q 153 [some (vR 27), some (vI m), some (vI b), some (vI v), some (vI c), none, none] [] (upM M 27 0 0)
      refine AW.go pk_X8_bestCell 80 2 rfl rfl ?_
      refine And.intro rfl ?_
      exact zv3 _ rfl
    · replace zh1 : ¬ ((144 : Int) ≤ c) := zh1
      exfalso; omega
  | succ n zih =>
    intro c b v zn zv0 zv1 zv2 zv3
    have zs := zp1.1
    have zg := fun (q : c < 144) => zp0 c (by omega) q
    have zg2 : b ≠ -1 → 0 ≤ M 28 b ∧ M 28 b ≤ 500 := fun q => zp0 b (by omega) (by omega)
    refine AW.go pk_X8_bestCell 21 6 rfl rfl ?_
    refine And.intro (show Inr c ∧ Inr 144 from ⟨⟨by omega, by omega⟩, ⟨by omega, by omega⟩⟩) (And.intro (fun zh1 => ?_) (fun zh1 => ?_))
    · replace zh1 : (144 : Int) ≤ c := zh1
      exfalso; omega
    · replace zh1 : ¬ ((144 : Int) ≤ c) := zh1
      change AW ev false 4 t_X8_bestCell Q 46 [some (vR 27), some (vI m), some (vI b), some (vI v), some (vI c), none, none] [vI c, vR 27] (upM M 27 0 0)
      refine AW.callV (d' := 0) [vI c] [] vm_X8_isTaken rfl hX8_155 (okP_d pk_X8_bestCell 26 46 (.invokevirtual 155) 3 rfl) (by decide) rfl (Nat.le_of_ble_eq_true rfl) ?_
      refine c_X8_isTaken c zp1 (by omega) (fun w1 zw1 => ?_)
      have zk1 : w1 = 1 → (∃ i, 0 ≤ i ∧ i < M 27 2 ∧ M 29 i = c) := zw1.2.mp
      have zk2 : (∃ i, 0 ≤ i ∧ i < M 27 2 ∧ M 29 i = c) → w1 = 1 := zw1.2.mpr
      replace zw1 : w1 = 0 ∨ w1 = 1 := zw1.1
      change AW ev false 4 t_X8_bestCell Q 49 [some (vR 27), some (vI m), some (vI b), some (vI v), some (vI c), none, none] [vI w1] (upM M 27 0 0)
      refine AW.go pk_X8_bestCell 27 3 rfl rfl ?_
      refine And.intro (show Inr w1 from ⟨by omega, by omega⟩) (And.intro (fun zh2 => ?_) (fun zh2 => ?_))
      · replace zh2 : w1 = (0 : Int) := zh2
        change AW ev false 4 t_X8_bestCell Q 56 [some (vR 27), some (vI m), some (vI b), some (vI v), some (vI c), none, none] [] (upM M 27 0 0)
        refine AW.go pk_X8_bestCell 30 4 rfl rfl ?_
        change AW ev false 4 t_X8_bestCell Q 60 [some (vR 27), some (vI m), some (vI b), some (vI v), some (vI c), none, none] [vI m, vI c, vR 27] (upM M 27 0 0)
        refine AW.callV (d' := 3) [vI c, vI m] [] vm_X8_seenFrom rfl hX8_234 (okP_d pk_X8_bestCell 33 60 (.invokevirtual 234) 3 rfl) (by decide) rfl (Nat.le_of_ble_eq_true rfl) ?_
        refine c_X8_seenFrom c m zp0 zp1 (by omega) (by omega) (fun q => by have := zk2 q; clear zk1 zk2 q; omega) (fun w2 zw2 => ?_)
        have zz : ssT (fun b => blkF (M 28) c (M 28 c + m) (M 29 b) (eyeF (M 28) (M 29) (M 30) b)) (M 27 2).toNat 0 0 = w2 := zw2.1.symm
        replace zw2 := zw2.2
        change AW ev false 4 t_X8_bestCell Q 63 [some (vR 27), some (vI m), some (vI b), some (vI v), some (vI c), none, none] [vI w2] (upM M 27 0 0)
        refine AW.go pk_X8_bestCell 34 21 rfl rfl ?_
        refine And.intro (show 5 < mL t_X8_bestCell from (by decide)) ?_
        refine And.intro (show Inr w2 ∧ Inr v from ⟨⟨by omega, by omega⟩, ⟨by omega, by omega⟩⟩) (And.intro (fun zh3 => ?_) (fun zh3 => ?_))
        · replace zh3 : v < w2 := zh3
          change AW ev false 4 t_X8_bestCell Q 98 [some (vR 27), some (vI m), some (vI b), some (vI v), some (vI c), some (vI w2), none] [] (upM M 27 0 0)
          refine AW.go pk_X8_bestCell 53 2 rfl rfl ?_
          change AW ev false 4 t_X8_bestCell Q 103 [some (vR 27), some (vI m), some (vI b), some (vI v), some (vI c), some (vI w2), none] [vI 1] (upM M 27 0 0)
          refine AW.go pk_X8_bestCell 56 8 rfl rfl ?_
          refine And.intro (show 6 < mL t_X8_bestCell from (by decide)) ?_
          refine And.intro (show Inr 1 from ⟨by omega, by omega⟩) (And.intro (fun zh4 => ?_) (fun zh4 => ?_))
          · replace zh4 : (1 : Int) = (0 : Int) := zh4
            exfalso; omega
          · replace zh4 : ¬ ((1 : Int) = (0 : Int)) := zh4
            refine And.intro (show Inr w2 ∧ Inr (-1) from ⟨⟨by omega, by omega⟩, ⟨by omega, by omega⟩⟩) (And.intro (fun zh5 => ?_) (fun zh5 => ?_))
            · replace zh5 : w2 = (-1 : Int) := zh5
              change AW ev false 4 t_X8_bestCell Q 120 [some (vR 27), some (vI m), some (vI b), some (vI v), some (vI c), some (vI w2), some (vI 1)] [] (upM M 27 0 0)
              refine AW.go pk_X8_bestCell 64 6 rfl rfl ?_
              refine And.intro (show 6 < mL t_X8_bestCell from (by decide)) ?_
              refine And.intro (show Inr 0 from ⟨by omega, by omega⟩) (And.intro (fun zh6 => ?_) (fun zh6 => ?_))
              · replace zh6 : (0 : Int) = (0 : Int) := zh6
                change AW ev false 4 t_X8_bestCell Q 133 [some (vR 27), some (vI m), some (vI b), some (vI v), some (vI c), some (vI w2), some (vI 0)] [] (upM M 27 0 0)
                refine AW.go pk_X8_bestCell 70 6 rfl rfl ?_
                refine And.intro (show 2 < mL t_X8_bestCell from (by decide)) ?_
                refine And.intro (show Inr 0 from ⟨by omega, by omega⟩) (And.intro (fun zh7 => ?_) (fun zh7 => ?_))
                · replace zh7 : (0 : Int) = (0 : Int) := zh7
                  change AW ev false 4 t_X8_bestCell Q 145 [some (vR 27), some (vI m), some (vI b), some (vI v), some (vI c), some (vI w2), some (vI 0)] [] (upM M 27 0 0)
                  refine AW.go pk_X8_bestCell 76 4 rfl rfl ?_
                  refine And.intro (show 3 < mL t_X8_bestCell from (by decide)) ?_
                  refine And.intro (show 4 < mL t_X8_bestCell from (by decide)) ?_
                  change AW ev false 4 t_X8_bestCell Q 35 [some (vR 27), some (vI m), some (vI b), some (vI v), some (vI (c + 1)), some (vI w2), some (vI 0)] [] (upM M 27 0 0)
                  refine AW.sub [some (vR 27), some (vI m), some (vI b), some (vI v), some (vI (c + 1)), none, none] (by simp [lsub]) ?_
                  exact zih (c + 1) b v (by omega) (by clear zk1 zk2; omega) (by clear zk1 zk2; omega) (by clear zk1 zk2; omega) (fun r zr => by first | (exfalso; clear zk1 zk2; omega) | exact zv3 r (by rw [zr, bcT_n (fun q => by have := zk2 q; clear zk1 zk2 q; omega) (by rw [zz]; clear zk1 zk2; omega)]))
                · replace zh7 : ¬ ((0 : Int) = (0 : Int)) := zh7
                  exfalso; omega
              · replace zh6 : ¬ ((0 : Int) = (0 : Int)) := zh6
                exfalso; omega
            · replace zh5 : ¬ (w2 = (-1 : Int)) := zh5
              change AW ev false 4 t_X8_bestCell Q 121 [some (vR 27), some (vI m), some (vI b), some (vI v), some (vI c), some (vI w2), some (vI 1)] [vI 1] (upM M 27 0 0)
              refine AW.go pk_X8_bestCell 65 5 rfl rfl ?_
              refine And.intro (show 6 < mL t_X8_bestCell from (by decide)) ?_
              refine And.intro (show Inr 1 from ⟨by omega, by omega⟩) (And.intro (fun zh8 => ?_) (fun zh8 => ?_))
              · replace zh8 : (1 : Int) = (0 : Int) := zh8
                exfalso; omega
              · replace zh8 : ¬ ((1 : Int) = (0 : Int)) := zh8
                change AW ev false 4 t_X8_bestCell Q 134 [some (vR 27), some (vI m), some (vI b), some (vI v), some (vI c), some (vI w2), some (vI 1)] [vI c] (upM M 27 0 0)
                refine AW.go pk_X8_bestCell 71 5 rfl rfl ?_
                refine And.intro (show 2 < mL t_X8_bestCell from (by decide)) ?_
                refine And.intro (show Inr 1 from ⟨by omega, by omega⟩) (And.intro (fun zh9 => ?_) (fun zh9 => ?_))
                · replace zh9 : (1 : Int) = (0 : Int) := zh9
                  exfalso; omega
                · replace zh9 : ¬ ((1 : Int) = (0 : Int)) := zh9
                  change AW ev false 4 t_X8_bestCell Q 146 [some (vR 27), some (vI m), some (vI c), some (vI v), some (vI c), some (vI w2), some (vI 1)] [vI w2] (upM M 27 0 0)
                  refine AW.go pk_X8_bestCell 77 3 rfl rfl ?_
                  refine And.intro (show 3 < mL t_X8_bestCell from (by decide)) ?_
                  refine And.intro (show 4 < mL t_X8_bestCell from (by decide)) ?_
                  change AW ev false 4 t_X8_bestCell Q 35 [some (vR 27), some (vI m), some (vI c), some (vI w2), some (vI (c + 1)), some (vI w2), some (vI 1)] [] (upM M 27 0 0)
                  refine AW.sub [some (vR 27), some (vI m), some (vI c), some (vI w2), some (vI (c + 1)), none, none] (by simp [lsub]) ?_
                  exact zih (c + 1) c w2 (by omega) (by clear zk1 zk2; omega) (by clear zk1 zk2; omega) (by clear zk1 zk2; omega) (fun r zr => by first | (exfalso; clear zk1 zk2; omega) | exact zv3 r (by rw [zr, bcT_y (fun q => by have := zk2 q; clear zk1 zk2 q; omega) (by rw [zz]; clear zk1 zk2; omega), zz]))
        · replace zh3 : ¬ (v < w2) := zh3
          refine And.intro (show Inr w2 ∧ Inr v from ⟨⟨by omega, by omega⟩, ⟨by omega, by omega⟩⟩) (And.intro (fun zh10 => ?_) (fun zh10 => ?_))
          · replace zh10 : w2 ≠ v := zh10
            change AW ev false 4 t_X8_bestCell Q 102 [some (vR 27), some (vI m), some (vI b), some (vI v), some (vI c), some (vI w2), none] [] (upM M 27 0 0)
            refine AW.go pk_X8_bestCell 55 9 rfl rfl ?_
            refine And.intro (show 6 < mL t_X8_bestCell from (by decide)) ?_
            refine And.intro (show Inr 0 from ⟨by omega, by omega⟩) (And.intro (fun zh11 => ?_) (fun zh11 => ?_))
            · replace zh11 : (0 : Int) = (0 : Int) := zh11
              change AW ev false 4 t_X8_bestCell Q 120 [some (vR 27), some (vI m), some (vI b), some (vI v), some (vI c), some (vI w2), some (vI 0)] [] (upM M 27 0 0)
              refine AW.go pk_X8_bestCell 64 6 rfl rfl ?_
              refine And.intro (show 6 < mL t_X8_bestCell from (by decide)) ?_
              refine And.intro (show Inr 0 from ⟨by omega, by omega⟩) (And.intro (fun zh12 => ?_) (fun zh12 => ?_))
              · replace zh12 : (0 : Int) = (0 : Int) := zh12
                change AW ev false 4 t_X8_bestCell Q 133 [some (vR 27), some (vI m), some (vI b), some (vI v), some (vI c), some (vI w2), some (vI 0)] [] (upM M 27 0 0)
                refine AW.go pk_X8_bestCell 70 6 rfl rfl ?_
                refine And.intro (show 2 < mL t_X8_bestCell from (by decide)) ?_
                refine And.intro (show Inr 0 from ⟨by omega, by omega⟩) (And.intro (fun zh13 => ?_) (fun zh13 => ?_))
                · replace zh13 : (0 : Int) = (0 : Int) := zh13
                  change AW ev false 4 t_X8_bestCell Q 145 [some (vR 27), some (vI m), some (vI b), some (vI v), some (vI c), some (vI w2), some (vI 0)] [] (upM M 27 0 0)
                  refine AW.go pk_X8_bestCell 76 4 rfl rfl ?_
                  refine And.intro (show 3 < mL t_X8_bestCell from (by decide)) ?_
                  refine And.intro (show 4 < mL t_X8_bestCell from (by decide)) ?_
                  change AW ev false 4 t_X8_bestCell Q 35 [some (vR 27), some (vI m), some (vI b), some (vI v), some (vI (c + 1)), some (vI w2), some (vI 0)] [] (upM M 27 0 0)
                  refine AW.sub [some (vR 27), some (vI m), some (vI b), some (vI v), some (vI (c + 1)), none, none] (by simp [lsub]) ?_
                  exact zih (c + 1) b v (by omega) (by clear zk1 zk2; omega) (by clear zk1 zk2; omega) (by clear zk1 zk2; omega) (fun r zr => by first | (exfalso; clear zk1 zk2; omega) | exact zv3 r (by rw [zr, bcT_n (fun q => by have := zk2 q; clear zk1 zk2 q; omega) (by rw [zz]; clear zk1 zk2; omega)]))
                · replace zh13 : ¬ ((0 : Int) = (0 : Int)) := zh13
                  exfalso; omega
              · replace zh12 : ¬ ((0 : Int) = (0 : Int)) := zh12
                exfalso; omega
            · replace zh11 : ¬ ((0 : Int) = (0 : Int)) := zh11
              exfalso; omega
          · replace zh10 : ¬ (w2 ≠ v) := zh10
            refine And.intro (show Inr b ∧ Inr (-1) from ⟨⟨by omega, by omega⟩, ⟨by omega, by omega⟩⟩) (And.intro (fun zh14 => ?_) (fun zh14 => ?_))
            · replace zh14 : b = (-1 : Int) := zh14
              change AW ev false 4 t_X8_bestCell Q 102 [some (vR 27), some (vI m), some (vI b), some (vI v), some (vI c), some (vI w2), none] [] (upM M 27 0 0)
              refine AW.go pk_X8_bestCell 55 9 rfl rfl ?_
              refine And.intro (show 6 < mL t_X8_bestCell from (by decide)) ?_
              refine And.intro (show Inr 0 from ⟨by omega, by omega⟩) (And.intro (fun zh15 => ?_) (fun zh15 => ?_))
              · replace zh15 : (0 : Int) = (0 : Int) := zh15
                change AW ev false 4 t_X8_bestCell Q 120 [some (vR 27), some (vI m), some (vI b), some (vI v), some (vI c), some (vI w2), some (vI 0)] [] (upM M 27 0 0)
                refine AW.go pk_X8_bestCell 64 6 rfl rfl ?_
                refine And.intro (show 6 < mL t_X8_bestCell from (by decide)) ?_
                refine And.intro (show Inr 0 from ⟨by omega, by omega⟩) (And.intro (fun zh16 => ?_) (fun zh16 => ?_))
                · replace zh16 : (0 : Int) = (0 : Int) := zh16
                  change AW ev false 4 t_X8_bestCell Q 133 [some (vR 27), some (vI m), some (vI b), some (vI v), some (vI c), some (vI w2), some (vI 0)] [] (upM M 27 0 0)
                  refine AW.go pk_X8_bestCell 70 6 rfl rfl ?_
                  refine And.intro (show 2 < mL t_X8_bestCell from (by decide)) ?_
                  refine And.intro (show Inr 0 from ⟨by omega, by omega⟩) (And.intro (fun zh17 => ?_) (fun zh17 => ?_))
                  · replace zh17 : (0 : Int) = (0 : Int) := zh17
                    change AW ev false 4 t_X8_bestCell Q 145 [some (vR 27), some (vI m), some (vI b), some (vI v), some (vI c), some (vI w2), some (vI 0)] [] (upM M 27 0 0)
                    refine AW.go pk_X8_bestCell 76 4 rfl rfl ?_
                    refine And.intro (show 3 < mL t_X8_bestCell from (by decide)) ?_
                    refine And.intro (show 4 < mL t_X8_bestCell from (by decide)) ?_
                    change AW ev false 4 t_X8_bestCell Q 35 [some (vR 27), some (vI m), some (vI b), some (vI v), some (vI (c + 1)), some (vI w2), some (vI 0)] [] (upM M 27 0 0)
                    refine AW.sub [some (vR 27), some (vI m), some (vI b), some (vI v), some (vI (c + 1)), none, none] (by simp [lsub]) ?_
                    exact zih (c + 1) b v (by omega) (by clear zk1 zk2; omega) (by clear zk1 zk2; omega) (by clear zk1 zk2; omega) (fun r zr => by first | (exfalso; clear zk1 zk2; omega) | exact zv3 r (by rw [zr, bcT_n (fun q => by have := zk2 q; clear zk1 zk2 q; omega) (by rw [zz]; clear zk1 zk2; omega)]))
                  · replace zh17 : ¬ ((0 : Int) = (0 : Int)) := zh17
                    exfalso; omega
                · replace zh16 : ¬ ((0 : Int) = (0 : Int)) := zh16
                  exfalso; omega
              · replace zh15 : ¬ ((0 : Int) = (0 : Int)) := zh15
                exfalso; omega
            · replace zh14 : ¬ (b = (-1 : Int)) := zh14
              refine And.intro (show (0 ≤ c ∧ c < 144) from (by omega)) ?_
              have zf18 := zp0 c (by omega) (by omega)
              refine And.intro (show (0 ≤ b ∧ b < 144) from (by omega)) ?_
              have zf19 := zp0 b (by omega) (by omega)
              refine And.intro (show Inr (M 28 c) ∧ Inr (M 28 b) from ⟨(by have := zg2 (by clear zk1 zk2; omega); have := zg (by clear zk1 zk2; omega); clear zk1 zk2; exact ⟨by omega, by omega⟩), (by have := zg2 (by clear zk1 zk2; omega); have := zg (by clear zk1 zk2; omega); clear zk1 zk2; exact ⟨by omega, by omega⟩)⟩) (And.intro (fun zh20 => ?_) (fun zh20 => ?_))
              · replace zh20 : M 28 c ≤ M 28 b := zh20
                change AW ev false 4 t_X8_bestCell Q 102 [some (vR 27), some (vI m), some (vI b), some (vI v), some (vI c), some (vI w2), none] [] (upM M 27 0 0)
                refine AW.go pk_X8_bestCell 55 9 rfl rfl ?_
                refine And.intro (show 6 < mL t_X8_bestCell from (by decide)) ?_
                refine And.intro (show Inr 0 from ⟨by omega, by omega⟩) (And.intro (fun zh21 => ?_) (fun zh21 => ?_))
                · replace zh21 : (0 : Int) = (0 : Int) := zh21
                  change AW ev false 4 t_X8_bestCell Q 120 [some (vR 27), some (vI m), some (vI b), some (vI v), some (vI c), some (vI w2), some (vI 0)] [] (upM M 27 0 0)
                  refine AW.go pk_X8_bestCell 64 6 rfl rfl ?_
                  refine And.intro (show 6 < mL t_X8_bestCell from (by decide)) ?_
                  refine And.intro (show Inr 0 from ⟨by omega, by omega⟩) (And.intro (fun zh22 => ?_) (fun zh22 => ?_))
                  · replace zh22 : (0 : Int) = (0 : Int) := zh22
                    change AW ev false 4 t_X8_bestCell Q 133 [some (vR 27), some (vI m), some (vI b), some (vI v), some (vI c), some (vI w2), some (vI 0)] [] (upM M 27 0 0)
                    refine AW.go pk_X8_bestCell 70 6 rfl rfl ?_
                    refine And.intro (show 2 < mL t_X8_bestCell from (by decide)) ?_
                    refine And.intro (show Inr 0 from ⟨by omega, by omega⟩) (And.intro (fun zh23 => ?_) (fun zh23 => ?_))
                    · replace zh23 : (0 : Int) = (0 : Int) := zh23
                      change AW ev false 4 t_X8_bestCell Q 145 [some (vR 27), some (vI m), some (vI b), some (vI v), some (vI c), some (vI w2), some (vI 0)] [] (upM M 27 0 0)
                      refine AW.go pk_X8_bestCell 76 4 rfl rfl ?_
                      refine And.intro (show 3 < mL t_X8_bestCell from (by decide)) ?_
                      refine And.intro (show 4 < mL t_X8_bestCell from (by decide)) ?_
                      change AW ev false 4 t_X8_bestCell Q 35 [some (vR 27), some (vI m), some (vI b), some (vI v), some (vI (c + 1)), some (vI w2), some (vI 0)] [] (upM M 27 0 0)
                      refine AW.sub [some (vR 27), some (vI m), some (vI b), some (vI v), some (vI (c + 1)), none, none] (by simp [lsub]) ?_
                      exact zih (c + 1) b v (by omega) (by clear zk1 zk2; omega) (by clear zk1 zk2; omega) (by clear zk1 zk2; omega) (fun r zr => by first | (exfalso; clear zk1 zk2; omega) | exact zv3 r (by rw [zr, bcT_n (fun q => by have := zk2 q; clear zk1 zk2 q; omega) (by rw [zz]; clear zk1 zk2; omega)]))
                    · replace zh23 : ¬ ((0 : Int) = (0 : Int)) := zh23
                      exfalso; omega
                  · replace zh22 : ¬ ((0 : Int) = (0 : Int)) := zh22
                    exfalso; omega
                · replace zh21 : ¬ ((0 : Int) = (0 : Int)) := zh21
                  exfalso; omega
              · replace zh20 : ¬ (M 28 c ≤ M 28 b) := zh20
                change AW ev false 4 t_X8_bestCell Q 103 [some (vR 27), some (vI m), some (vI b), some (vI v), some (vI c), some (vI w2), none] [vI 1] (upM M 27 0 0)
                refine AW.go pk_X8_bestCell 56 8 rfl rfl ?_
                refine And.intro (show 6 < mL t_X8_bestCell from (by decide)) ?_
                refine And.intro (show Inr 1 from ⟨by omega, by omega⟩) (And.intro (fun zh24 => ?_) (fun zh24 => ?_))
                · replace zh24 : (1 : Int) = (0 : Int) := zh24
                  exfalso; omega
                · replace zh24 : ¬ ((1 : Int) = (0 : Int)) := zh24
                  refine And.intro (show Inr w2 ∧ Inr (-1) from ⟨⟨by omega, by omega⟩, ⟨by omega, by omega⟩⟩) (And.intro (fun zh25 => ?_) (fun zh25 => ?_))
                  · replace zh25 : w2 = (-1 : Int) := zh25
                    change AW ev false 4 t_X8_bestCell Q 120 [some (vR 27), some (vI m), some (vI b), some (vI v), some (vI c), some (vI w2), some (vI 1)] [] (upM M 27 0 0)
                    refine AW.go pk_X8_bestCell 64 6 rfl rfl ?_
                    refine And.intro (show 6 < mL t_X8_bestCell from (by decide)) ?_
                    refine And.intro (show Inr 0 from ⟨by omega, by omega⟩) (And.intro (fun zh26 => ?_) (fun zh26 => ?_))
                    · replace zh26 : (0 : Int) = (0 : Int) := zh26
                      change AW ev false 4 t_X8_bestCell Q 133 [some (vR 27), some (vI m), some (vI b), some (vI v), some (vI c), some (vI w2), some (vI 0)] [] (upM M 27 0 0)
                      refine AW.go pk_X8_bestCell 70 6 rfl rfl ?_
                      refine And.intro (show 2 < mL t_X8_bestCell from (by decide)) ?_
                      refine And.intro (show Inr 0 from ⟨by omega, by omega⟩) (And.intro (fun zh27 => ?_) (fun zh27 => ?_))
                      · replace zh27 : (0 : Int) = (0 : Int) := zh27
                        change AW ev false 4 t_X8_bestCell Q 145 [some (vR 27), some (vI m), some (vI b), some (vI v), some (vI c), some (vI w2), some (vI 0)] [] (upM M 27 0 0)
                        refine AW.go pk_X8_bestCell 76 4 rfl rfl ?_
                        refine And.intro (show 3 < mL t_X8_bestCell from (by decide)) ?_
                        refine And.intro (show 4 < mL t_X8_bestCell from (by decide)) ?_
                        change AW ev false 4 t_X8_bestCell Q 35 [some (vR 27), some (vI m), some (vI b), some (vI v), some (vI (c + 1)), some (vI w2), some (vI 0)] [] (upM M 27 0 0)
                        refine AW.sub [some (vR 27), some (vI m), some (vI b), some (vI v), some (vI (c + 1)), none, none] (by simp [lsub]) ?_
                        exact zih (c + 1) b v (by omega) (by clear zk1 zk2; omega) (by clear zk1 zk2; omega) (by clear zk1 zk2; omega) (fun r zr => by first | (exfalso; clear zk1 zk2; omega) | exact zv3 r (by rw [zr, bcT_n (fun q => by have := zk2 q; clear zk1 zk2 q; omega) (by rw [zz]; clear zk1 zk2; omega)]))
                      · replace zh27 : ¬ ((0 : Int) = (0 : Int)) := zh27
                        exfalso; omega
                    · replace zh26 : ¬ ((0 : Int) = (0 : Int)) := zh26
                      exfalso; omega
                  · replace zh25 : ¬ (w2 = (-1 : Int)) := zh25
                    change AW ev false 4 t_X8_bestCell Q 121 [some (vR 27), some (vI m), some (vI b), some (vI v), some (vI c), some (vI w2), some (vI 1)] [vI 1] (upM M 27 0 0)
                    refine AW.go pk_X8_bestCell 65 5 rfl rfl ?_
                    refine And.intro (show 6 < mL t_X8_bestCell from (by decide)) ?_
                    refine And.intro (show Inr 1 from ⟨by omega, by omega⟩) (And.intro (fun zh28 => ?_) (fun zh28 => ?_))
                    · replace zh28 : (1 : Int) = (0 : Int) := zh28
                      exfalso; omega
                    · replace zh28 : ¬ ((1 : Int) = (0 : Int)) := zh28
                      change AW ev false 4 t_X8_bestCell Q 134 [some (vR 27), some (vI m), some (vI b), some (vI v), some (vI c), some (vI w2), some (vI 1)] [vI c] (upM M 27 0 0)
                      refine AW.go pk_X8_bestCell 71 5 rfl rfl ?_
                      refine And.intro (show 2 < mL t_X8_bestCell from (by decide)) ?_
                      refine And.intro (show Inr 1 from ⟨by omega, by omega⟩) (And.intro (fun zh29 => ?_) (fun zh29 => ?_))
                      · replace zh29 : (1 : Int) = (0 : Int) := zh29
                        exfalso; omega
                      · replace zh29 : ¬ ((1 : Int) = (0 : Int)) := zh29
                        change AW ev false 4 t_X8_bestCell Q 146 [some (vR 27), some (vI m), some (vI c), some (vI v), some (vI c), some (vI w2), some (vI 1)] [vI w2] (upM M 27 0 0)
                        refine AW.go pk_X8_bestCell 77 3 rfl rfl ?_
                        refine And.intro (show 3 < mL t_X8_bestCell from (by decide)) ?_
                        refine And.intro (show 4 < mL t_X8_bestCell from (by decide)) ?_
                        change AW ev false 4 t_X8_bestCell Q 35 [some (vR 27), some (vI m), some (vI c), some (vI w2), some (vI (c + 1)), some (vI w2), some (vI 1)] [] (upM M 27 0 0)
                        refine AW.sub [some (vR 27), some (vI m), some (vI c), some (vI w2), some (vI (c + 1)), none, none] (by simp [lsub]) ?_
                        exact zih (c + 1) c w2 (by omega) (by clear zk1 zk2; omega) (by clear zk1 zk2; omega) (by clear zk1 zk2; omega) (fun r zr => by first | (exfalso; clear zk1 zk2; omega) | exact zv3 r (by rw [zr, bcT_y (fun q => by have := zk2 q; clear zk1 zk2 q; omega) (by rw [zz]; clear zk1 zk2; omega), zz]))
      · replace zh2 : ¬ (w1 = (0 : Int)) := zh2
        change AW ev false 4 t_X8_bestCell Q 63 [some (vR 27), some (vI m), some (vI b), some (vI v), some (vI c), none, none] [vI (-1)] (upM M 27 0 0)
        refine AW.go pk_X8_bestCell 34 21 rfl rfl ?_
        refine And.intro (show 5 < mL t_X8_bestCell from (by decide)) ?_
        refine And.intro (show Inr (-1) ∧ Inr v from ⟨⟨by omega, by omega⟩, ⟨by omega, by omega⟩⟩) (And.intro (fun zh30 => ?_) (fun zh30 => ?_))
        · replace zh30 : v < (-1 : Int) := zh30
          change AW ev false 4 t_X8_bestCell Q 98 [some (vR 27), some (vI m), some (vI b), some (vI v), some (vI c), some (vI (-1)), none] [] (upM M 27 0 0)
          refine AW.go pk_X8_bestCell 53 2 rfl rfl ?_
          change AW ev false 4 t_X8_bestCell Q 103 [some (vR 27), some (vI m), some (vI b), some (vI v), some (vI c), some (vI (-1)), none] [vI 1] (upM M 27 0 0)
          refine AW.go pk_X8_bestCell 56 8 rfl rfl ?_
          refine And.intro (show 6 < mL t_X8_bestCell from (by decide)) ?_
          refine And.intro (show Inr 1 from ⟨by omega, by omega⟩) (And.intro (fun zh31 => ?_) (fun zh31 => ?_))
          · replace zh31 : (1 : Int) = (0 : Int) := zh31
            exfalso; omega
          · replace zh31 : ¬ ((1 : Int) = (0 : Int)) := zh31
            refine And.intro (show Inr (-1) ∧ Inr (-1) from ⟨⟨by omega, by omega⟩, ⟨by omega, by omega⟩⟩) (And.intro (fun zh32 => ?_) (fun zh32 => ?_))
            · replace zh32 : (-1 : Int) = (-1 : Int) := zh32
              change AW ev false 4 t_X8_bestCell Q 120 [some (vR 27), some (vI m), some (vI b), some (vI v), some (vI c), some (vI (-1)), some (vI 1)] [] (upM M 27 0 0)
              refine AW.go pk_X8_bestCell 64 6 rfl rfl ?_
              refine And.intro (show 6 < mL t_X8_bestCell from (by decide)) ?_
              refine And.intro (show Inr 0 from ⟨by omega, by omega⟩) (And.intro (fun zh33 => ?_) (fun zh33 => ?_))
              · replace zh33 : (0 : Int) = (0 : Int) := zh33
                change AW ev false 4 t_X8_bestCell Q 133 [some (vR 27), some (vI m), some (vI b), some (vI v), some (vI c), some (vI (-1)), some (vI 0)] [] (upM M 27 0 0)
                refine AW.go pk_X8_bestCell 70 6 rfl rfl ?_
                refine And.intro (show 2 < mL t_X8_bestCell from (by decide)) ?_
                refine And.intro (show Inr 0 from ⟨by omega, by omega⟩) (And.intro (fun zh34 => ?_) (fun zh34 => ?_))
                · replace zh34 : (0 : Int) = (0 : Int) := zh34
                  change AW ev false 4 t_X8_bestCell Q 145 [some (vR 27), some (vI m), some (vI b), some (vI v), some (vI c), some (vI (-1)), some (vI 0)] [] (upM M 27 0 0)
                  refine AW.go pk_X8_bestCell 76 4 rfl rfl ?_
                  refine And.intro (show 3 < mL t_X8_bestCell from (by decide)) ?_
                  refine And.intro (show 4 < mL t_X8_bestCell from (by decide)) ?_
                  change AW ev false 4 t_X8_bestCell Q 35 [some (vR 27), some (vI m), some (vI b), some (vI v), some (vI (c + 1)), some (vI (-1)), some (vI 0)] [] (upM M 27 0 0)
                  refine AW.sub [some (vR 27), some (vI m), some (vI b), some (vI v), some (vI (c + 1)), none, none] (by simp [lsub]) ?_
                  exact zih (c + 1) b v (by omega) (by clear zk1 zk2; omega) (by clear zk1 zk2; omega) (by clear zk1 zk2; omega) (fun r zr => by first | (exfalso; clear zk1 zk2; omega) | exact zv3 r (by rw [zr, bcT_t (zk1 (by clear zk1 zk2; omega))]))
                · replace zh34 : ¬ ((0 : Int) = (0 : Int)) := zh34
                  exfalso; omega
              · replace zh33 : ¬ ((0 : Int) = (0 : Int)) := zh33
                exfalso; omega
            · replace zh32 : ¬ ((-1 : Int) = (-1 : Int)) := zh32
              exfalso; omega
        · replace zh30 : ¬ (v < (-1 : Int)) := zh30
          refine And.intro (show Inr (-1) ∧ Inr v from ⟨⟨by omega, by omega⟩, ⟨by omega, by omega⟩⟩) (And.intro (fun zh35 => ?_) (fun zh35 => ?_))
          · replace zh35 : (-1 : Int) ≠ v := zh35
            change AW ev false 4 t_X8_bestCell Q 102 [some (vR 27), some (vI m), some (vI b), some (vI v), some (vI c), some (vI (-1)), none] [] (upM M 27 0 0)
            refine AW.go pk_X8_bestCell 55 9 rfl rfl ?_
            refine And.intro (show 6 < mL t_X8_bestCell from (by decide)) ?_
            refine And.intro (show Inr 0 from ⟨by omega, by omega⟩) (And.intro (fun zh36 => ?_) (fun zh36 => ?_))
            · replace zh36 : (0 : Int) = (0 : Int) := zh36
              change AW ev false 4 t_X8_bestCell Q 120 [some (vR 27), some (vI m), some (vI b), some (vI v), some (vI c), some (vI (-1)), some (vI 0)] [] (upM M 27 0 0)
              refine AW.go pk_X8_bestCell 64 6 rfl rfl ?_
              refine And.intro (show 6 < mL t_X8_bestCell from (by decide)) ?_
              refine And.intro (show Inr 0 from ⟨by omega, by omega⟩) (And.intro (fun zh37 => ?_) (fun zh37 => ?_))
              · replace zh37 : (0 : Int) = (0 : Int) := zh37
                change AW ev false 4 t_X8_bestCell Q 133 [some (vR 27), some (vI m), some (vI b), some (vI v), some (vI c), some (vI (-1)), some (vI 0)] [] (upM M 27 0 0)
                refine AW.go pk_X8_bestCell 70 6 rfl rfl ?_
                refine And.intro (show 2 < mL t_X8_bestCell from (by decide)) ?_
                refine And.intro (show Inr 0 from ⟨by omega, by omega⟩) (And.intro (fun zh38 => ?_) (fun zh38 => ?_))
                · replace zh38 : (0 : Int) = (0 : Int) := zh38
                  change AW ev false 4 t_X8_bestCell Q 145 [some (vR 27), some (vI m), some (vI b), some (vI v), some (vI c), some (vI (-1)), some (vI 0)] [] (upM M 27 0 0)
                  refine AW.go pk_X8_bestCell 76 4 rfl rfl ?_
                  refine And.intro (show 3 < mL t_X8_bestCell from (by decide)) ?_
                  refine And.intro (show 4 < mL t_X8_bestCell from (by decide)) ?_
                  change AW ev false 4 t_X8_bestCell Q 35 [some (vR 27), some (vI m), some (vI b), some (vI v), some (vI (c + 1)), some (vI (-1)), some (vI 0)] [] (upM M 27 0 0)
                  refine AW.sub [some (vR 27), some (vI m), some (vI b), some (vI v), some (vI (c + 1)), none, none] (by simp [lsub]) ?_
                  exact zih (c + 1) b v (by omega) (by clear zk1 zk2; omega) (by clear zk1 zk2; omega) (by clear zk1 zk2; omega) (fun r zr => by first | (exfalso; clear zk1 zk2; omega) | exact zv3 r (by rw [zr, bcT_t (zk1 (by clear zk1 zk2; omega))]))
                · replace zh38 : ¬ ((0 : Int) = (0 : Int)) := zh38
                  exfalso; omega
              · replace zh37 : ¬ ((0 : Int) = (0 : Int)) := zh37
                exfalso; omega
            · replace zh36 : ¬ ((0 : Int) = (0 : Int)) := zh36
              exfalso; omega
          · replace zh35 : ¬ ((-1 : Int) ≠ v) := zh35
            refine And.intro (show Inr b ∧ Inr (-1) from ⟨⟨by omega, by omega⟩, ⟨by omega, by omega⟩⟩) (And.intro (fun zh39 => ?_) (fun zh39 => ?_))
            · replace zh39 : b = (-1 : Int) := zh39
              change AW ev false 4 t_X8_bestCell Q 102 [some (vR 27), some (vI m), some (vI b), some (vI v), some (vI c), some (vI (-1)), none] [] (upM M 27 0 0)
              refine AW.go pk_X8_bestCell 55 9 rfl rfl ?_
              refine And.intro (show 6 < mL t_X8_bestCell from (by decide)) ?_
              refine And.intro (show Inr 0 from ⟨by omega, by omega⟩) (And.intro (fun zh40 => ?_) (fun zh40 => ?_))
              · replace zh40 : (0 : Int) = (0 : Int) := zh40
                change AW ev false 4 t_X8_bestCell Q 120 [some (vR 27), some (vI m), some (vI b), some (vI v), some (vI c), some (vI (-1)), some (vI 0)] [] (upM M 27 0 0)
                refine AW.go pk_X8_bestCell 64 6 rfl rfl ?_
                refine And.intro (show 6 < mL t_X8_bestCell from (by decide)) ?_
                refine And.intro (show Inr 0 from ⟨by omega, by omega⟩) (And.intro (fun zh41 => ?_) (fun zh41 => ?_))
                · replace zh41 : (0 : Int) = (0 : Int) := zh41
                  change AW ev false 4 t_X8_bestCell Q 133 [some (vR 27), some (vI m), some (vI b), some (vI v), some (vI c), some (vI (-1)), some (vI 0)] [] (upM M 27 0 0)
                  refine AW.go pk_X8_bestCell 70 6 rfl rfl ?_
                  refine And.intro (show 2 < mL t_X8_bestCell from (by decide)) ?_
                  refine And.intro (show Inr 0 from ⟨by omega, by omega⟩) (And.intro (fun zh42 => ?_) (fun zh42 => ?_))
                  · replace zh42 : (0 : Int) = (0 : Int) := zh42
                    change AW ev false 4 t_X8_bestCell Q 145 [some (vR 27), some (vI m), some (vI b), some (vI v), some (vI c), some (vI (-1)), some (vI 0)] [] (upM M 27 0 0)
                    refine AW.go pk_X8_bestCell 76 4 rfl rfl ?_
                    refine And.intro (show 3 < mL t_X8_bestCell from (by decide)) ?_
                    refine And.intro (show 4 < mL t_X8_bestCell from (by decide)) ?_
                    change AW ev false 4 t_X8_bestCell Q 35 [some (vR 27), some (vI m), some (vI b), some (vI v), some (vI (c + 1)), some (vI (-1)), some (vI 0)] [] (upM M 27 0 0)
                    refine AW.sub [some (vR 27), some (vI m), some (vI b), some (vI v), some (vI (c + 1)), none, none] (by simp [lsub]) ?_
                    exact zih (c + 1) b v (by omega) (by clear zk1 zk2; omega) (by clear zk1 zk2; omega) (by clear zk1 zk2; omega) (fun r zr => by first | (exfalso; clear zk1 zk2; omega) | exact zv3 r (by rw [zr, bcT_t (zk1 (by clear zk1 zk2; omega))]))
                  · replace zh42 : ¬ ((0 : Int) = (0 : Int)) := zh42
                    exfalso; omega
                · replace zh41 : ¬ ((0 : Int) = (0 : Int)) := zh41
                  exfalso; omega
              · replace zh40 : ¬ ((0 : Int) = (0 : Int)) := zh40
                exfalso; omega
            · replace zh39 : ¬ (b = (-1 : Int)) := zh39
              refine And.intro (show (0 ≤ c ∧ c < 144) from (by omega)) ?_
              have zf43 := zp0 c (by omega) (by omega)
              refine And.intro (show (0 ≤ b ∧ b < 144) from (by omega)) ?_
              have zf44 := zp0 b (by omega) (by omega)
              refine And.intro (show Inr (M 28 c) ∧ Inr (M 28 b) from ⟨(by have := zg2 (by clear zk1 zk2; omega); have := zg (by clear zk1 zk2; omega); clear zk1 zk2; exact ⟨by omega, by omega⟩), (by have := zg2 (by clear zk1 zk2; omega); have := zg (by clear zk1 zk2; omega); clear zk1 zk2; exact ⟨by omega, by omega⟩)⟩) (And.intro (fun zh45 => ?_) (fun zh45 => ?_))
              · replace zh45 : M 28 c ≤ M 28 b := zh45
                change AW ev false 4 t_X8_bestCell Q 102 [some (vR 27), some (vI m), some (vI b), some (vI v), some (vI c), some (vI (-1)), none] [] (upM M 27 0 0)
                refine AW.go pk_X8_bestCell 55 9 rfl rfl ?_
                refine And.intro (show 6 < mL t_X8_bestCell from (by decide)) ?_
                refine And.intro (show Inr 0 from ⟨by omega, by omega⟩) (And.intro (fun zh46 => ?_) (fun zh46 => ?_))
                · replace zh46 : (0 : Int) = (0 : Int) := zh46
                  change AW ev false 4 t_X8_bestCell Q 120 [some (vR 27), some (vI m), some (vI b), some (vI v), some (vI c), some (vI (-1)), some (vI 0)] [] (upM M 27 0 0)
                  refine AW.go pk_X8_bestCell 64 6 rfl rfl ?_
                  refine And.intro (show 6 < mL t_X8_bestCell from (by decide)) ?_
                  refine And.intro (show Inr 0 from ⟨by omega, by omega⟩) (And.intro (fun zh47 => ?_) (fun zh47 => ?_))
                  · replace zh47 : (0 : Int) = (0 : Int) := zh47
                    change AW ev false 4 t_X8_bestCell Q 133 [some (vR 27), some (vI m), some (vI b), some (vI v), some (vI c), some (vI (-1)), some (vI 0)] [] (upM M 27 0 0)
                    refine AW.go pk_X8_bestCell 70 6 rfl rfl ?_
                    refine And.intro (show 2 < mL t_X8_bestCell from (by decide)) ?_
                    refine And.intro (show Inr 0 from ⟨by omega, by omega⟩) (And.intro (fun zh48 => ?_) (fun zh48 => ?_))
                    · replace zh48 : (0 : Int) = (0 : Int) := zh48
                      change AW ev false 4 t_X8_bestCell Q 145 [some (vR 27), some (vI m), some (vI b), some (vI v), some (vI c), some (vI (-1)), some (vI 0)] [] (upM M 27 0 0)
                      refine AW.go pk_X8_bestCell 76 4 rfl rfl ?_
                      refine And.intro (show 3 < mL t_X8_bestCell from (by decide)) ?_
                      refine And.intro (show 4 < mL t_X8_bestCell from (by decide)) ?_
                      change AW ev false 4 t_X8_bestCell Q 35 [some (vR 27), some (vI m), some (vI b), some (vI v), some (vI (c + 1)), some (vI (-1)), some (vI 0)] [] (upM M 27 0 0)
                      refine AW.sub [some (vR 27), some (vI m), some (vI b), some (vI v), some (vI (c + 1)), none, none] (by simp [lsub]) ?_
                      exact zih (c + 1) b v (by omega) (by clear zk1 zk2; omega) (by clear zk1 zk2; omega) (by clear zk1 zk2; omega) (fun r zr => by first | (exfalso; clear zk1 zk2; omega) | exact zv3 r (by rw [zr, bcT_t (zk1 (by clear zk1 zk2; omega))]))
                    · replace zh48 : ¬ ((0 : Int) = (0 : Int)) := zh48
                      exfalso; omega
                  · replace zh47 : ¬ ((0 : Int) = (0 : Int)) := zh47
                    exfalso; omega
                · replace zh46 : ¬ ((0 : Int) = (0 : Int)) := zh46
                  exfalso; omega
              · replace zh45 : ¬ (M 28 c ≤ M 28 b) := zh45
                change AW ev false 4 t_X8_bestCell Q 103 [some (vR 27), some (vI m), some (vI b), some (vI v), some (vI c), some (vI (-1)), none] [vI 1] (upM M 27 0 0)
                refine AW.go pk_X8_bestCell 56 8 rfl rfl ?_
                refine And.intro (show 6 < mL t_X8_bestCell from (by decide)) ?_
                refine And.intro (show Inr 1 from ⟨by omega, by omega⟩) (And.intro (fun zh49 => ?_) (fun zh49 => ?_))
                · replace zh49 : (1 : Int) = (0 : Int) := zh49
                  exfalso; omega
                · replace zh49 : ¬ ((1 : Int) = (0 : Int)) := zh49
                  refine And.intro (show Inr (-1) ∧ Inr (-1) from ⟨⟨by omega, by omega⟩, ⟨by omega, by omega⟩⟩) (And.intro (fun zh50 => ?_) (fun zh50 => ?_))
                  · replace zh50 : (-1 : Int) = (-1 : Int) := zh50
                    change AW ev false 4 t_X8_bestCell Q 120 [some (vR 27), some (vI m), some (vI b), some (vI v), some (vI c), some (vI (-1)), some (vI 1)] [] (upM M 27 0 0)
                    refine AW.go pk_X8_bestCell 64 6 rfl rfl ?_
                    refine And.intro (show 6 < mL t_X8_bestCell from (by decide)) ?_
                    refine And.intro (show Inr 0 from ⟨by omega, by omega⟩) (And.intro (fun zh51 => ?_) (fun zh51 => ?_))
                    · replace zh51 : (0 : Int) = (0 : Int) := zh51
                      change AW ev false 4 t_X8_bestCell Q 133 [some (vR 27), some (vI m), some (vI b), some (vI v), some (vI c), some (vI (-1)), some (vI 0)] [] (upM M 27 0 0)
                      refine AW.go pk_X8_bestCell 70 6 rfl rfl ?_
                      refine And.intro (show 2 < mL t_X8_bestCell from (by decide)) ?_
                      refine And.intro (show Inr 0 from ⟨by omega, by omega⟩) (And.intro (fun zh52 => ?_) (fun zh52 => ?_))
                      · replace zh52 : (0 : Int) = (0 : Int) := zh52
                        change AW ev false 4 t_X8_bestCell Q 145 [some (vR 27), some (vI m), some (vI b), some (vI v), some (vI c), some (vI (-1)), some (vI 0)] [] (upM M 27 0 0)
                        refine AW.go pk_X8_bestCell 76 4 rfl rfl ?_
                        refine And.intro (show 3 < mL t_X8_bestCell from (by decide)) ?_
                        refine And.intro (show 4 < mL t_X8_bestCell from (by decide)) ?_
                        change AW ev false 4 t_X8_bestCell Q 35 [some (vR 27), some (vI m), some (vI b), some (vI v), some (vI (c + 1)), some (vI (-1)), some (vI 0)] [] (upM M 27 0 0)
                        refine AW.sub [some (vR 27), some (vI m), some (vI b), some (vI v), some (vI (c + 1)), none, none] (by simp [lsub]) ?_
                        exact zih (c + 1) b v (by omega) (by clear zk1 zk2; omega) (by clear zk1 zk2; omega) (by clear zk1 zk2; omega) (fun r zr => by first | (exfalso; clear zk1 zk2; omega) | exact zv3 r (by rw [zr, bcT_t (zk1 (by clear zk1 zk2; omega))]))
                      · replace zh52 : ¬ ((0 : Int) = (0 : Int)) := zh52
                        exfalso; omega
                    · replace zh51 : ¬ ((0 : Int) = (0 : Int)) := zh51
                      exfalso; omega
                  · replace zh50 : ¬ ((-1 : Int) = (-1 : Int)) := zh50
                    exfalso; omega
theorem c_X8_bestCell {ev : Ev} {Q : Out → Mem → Prop} {M : Mem}  (m : Int) (zp0 : TJ M) (zp1 : SJ M) (zp2 : -2147483648 ≤ m ∧ m < 2147483648) (zQ0 : 0 ≤ m ∧ m ≤ 50 → Q (.inl (some (vI (bcT (fun c => ∃ i, 0 ≤ i ∧ i < M 27 2 ∧ M 29 i = c) (M 28) (fun c => ssT (fun b => blkF (M 28) c (M 28 c + m) (M 29 b) (eyeF (M 28) (M 29) (M 30) b)) (M 27 2).toNat 0 0) 144 0 (-1) 0)))) (upM M 27 0 0)) (zQ1 : ¬ (0 ≤ m ∧ m ≤ 50) → Q (.inl (some (vI 0))) (upM M 27 0 1)) : AM ev false 4 t_X8_bestCell [vR 27, vI m] M Q := by
  have zs := zp1.1
  refine AM.of mt_X8_bestCell (Nat.le_of_ble_eq_true rfl) ?_
  change AW ev false 4 t_X8_bestCell Q 0 [some (vR 27), some (vI m), none, none, none, none, none] [] M
  refine AW.go pk_X8_bestCell 0 5 rfl rfl ?_
  change AW ev false 4 t_X8_bestCell Q 5 [some (vR 27), some (vI m), none, none, none, none, none] [vI 50, vI 0, vI m, vR 27] M
  refine AW.callS (d' := 0) [vI m, vI 0, vI 50] [vR 27] sm_X8_within hX8_69 (okP_d pk_X8_bestCell 4 5 (.invokestatic 69) 3 rfl) (by decide) rfl (Nat.le_of_ble_eq_true rfl) ?_
  refine c_X8_within m 0 50 (by omega) (by omega) (by omega) (fun zr1 zzr1 => ?_)
  change AW ev false 4 t_X8_bestCell Q 8 [some (vR 27), some (vI m), none, none, none, none, none] [vI zr1, vR 27] M
  refine AW.go pk_X8_bestCell 5 3 rfl rfl ?_
  refine And.intro (show Inr zr1 from ⟨by omega, by omega⟩) (And.intro (fun zh2 => ?_) (fun zh2 => ?_))
  · replace zh2 : zr1 = (0 : Int) := zh2
    change AW ev false 4 t_X8_bestCell Q 15 [some (vR 27), some (vI m), none, none, none, none, none] [vR 27] M
    refine AW.go pk_X8_bestCell 8 7 rfl rfl ?_
    refine And.intro (show Inr 1 from ⟨by omega, by omega⟩) (And.intro (fun zh3 => ?_) (fun zh3 => ?_))
    · replace zh3 : (1 : Int) ≤ (0 : Int) := zh3
      exfalso; omega
    · replace zh3 : ¬ ((1 : Int) ≤ (0 : Int)) := zh3
      refine And.intro rfl ?_
      first
        | exact QcI (Q := Q) (show (0 : Int) = bcT (fun c => ∃ i, 0 ≤ i ∧ i < M 27 2 ∧ M 29 i = c) (M 28) (fun c => ssT (fun b => blkF (M 28) c (M 28 c + m) (M 29 b) (eyeF (M 28) (M 29) (M 30) b)) (M 27 2).toNat 0 0) 144 0 (-1) 0 from by first | rfl | omega) (show (upM M 27 0 1) = (upM M 27 0 0) from by rfl) (zQ0 (by omega))
        | exact QcI (Q := Q) (show (0 : Int) = (0 : Int) from by first | rfl | omega) (show (upM M 27 0 1) = (upM M 27 0 1) from by rfl) (zQ1 (by omega))
  · replace zh2 : ¬ (zr1 = (0 : Int)) := zh2
    change AW ev false 4 t_X8_bestCell Q 16 [some (vR 27), some (vI m), none, none, none, none, none] [vI 0, vR 27] M
    refine AW.go pk_X8_bestCell 9 6 rfl rfl ?_
    refine And.intro (show Inr 0 from ⟨by omega, by omega⟩) (And.intro (fun zh4 => ?_) (fun zh4 => ?_))
    · replace zh4 : (0 : Int) ≤ (0 : Int) := zh4
      change AW ev false 4 t_X8_bestCell Q 28 [some (vR 27), some (vI m), none, none, none, none, none] [] (upM M 27 0 0)
      refine AW.go pk_X8_bestCell 15 6 rfl rfl ?_
      refine And.intro (show 2 < mL t_X8_bestCell from (by decide)) ?_
      refine And.intro (show 3 < mL t_X8_bestCell from (by decide)) ?_
      refine And.intro (show 4 < mL t_X8_bestCell from (by decide)) ?_
      change AW ev false 4 t_X8_bestCell Q 35 [some (vR 27), some (vI m), some (vI (-1)), some (vI (-1)), some (vI 0), none, none] [] (upM M 27 0 0)
      exact lz_best8 m zp0 zp1 zp2 (by omega) 144 0 (-1) (-1) (by omega) (by omega) (by omega) (by omega) (fun r zr => by rw [zr, bcT_v _ _ _ 144 0 (-1) 0]; exact zQ0 (by omega))
    · replace zh4 : ¬ ((0 : Int) ≤ (0 : Int)) := zh4
      exfalso; omega
theorem lz_sunny {ev : Ev} {Q : Out → Mem → Prop} {M : Mem}  (s : Int) (zp0 : TJ M) (zp1 : SJ M) (zp2 : KJ M) (zp3 : 0 ≤ s ∧ s < M 27 2)  : ∀ (n : Nat) (hr : Int) (s2 : Int), hr + n = 18 → (6 ≤ hr) → (Inr s2) → (∀ r : Int, r = shT (fun hr => snF (M 28) (M 29 s) (eyeF (M 28) (M 29) (M 30) s) hr (cvR M (M 29 s) hr) = 0) n hr s2 → Q (.inl (some (vI r))) M) → AW ev false 4 t_X8_sunny Q 5 [some (vR 27), some (vI s), some (vI s2), some (vI hr)] [] M := by
  intro n
  induction n with
  | zero =>
    intro hr s2 zn zv0 zv1 zv2
    have zs := zp1.1
    refine AW.go pk_X8_sunny 4 8 rfl rfl ?_
    refine And.intro (show Inr hr ∧ Inr 17 from ⟨⟨by omega, by omega⟩, ⟨by omega, by omega⟩⟩) (And.intro (fun zh1 => ?_) (fun zh1 => ?_))
    · replace zh1 : (17 : Int) < hr := zh1
      change AW ev false 4 t_X8_sunny Q 36 [some (vR 27), some (vI s), some (vI s2), some (vI hr)] [] M
      refine AW.go pk_X8_sunny 22 2 rfl rfl ?_
      refine And.intro rfl ?_
      exact zv2 s2 rfl
    · replace zh1 : ¬ ((17 : Int) < hr) := zh1
      exfalso; omega
  | succ n zih =>
    intro hr s2 zn zv0 zv1 zv2
    have zs := zp1.1
    refine AW.go pk_X8_sunny 4 8 rfl rfl ?_
    refine And.intro (show Inr hr ∧ Inr 17 from ⟨⟨by omega, by omega⟩, ⟨by omega, by omega⟩⟩) (And.intro (fun zh1 => ?_) (fun zh1 => ?_))
    · replace zh1 : (17 : Int) < hr := zh1
      exfalso; omega
    · replace zh1 : ¬ ((17 : Int) < hr) := zh1
      change AW ev false 4 t_X8_sunny Q 15 [some (vR 27), some (vI s), some (vI s2), some (vI hr)] [vI hr, vI s, vR 27, vI s2] M
      refine AW.callV (d' := 3) [vI s, vI hr] [vI s2] vm_X8_sunless rfl hX8_146 (okP_d pk_X8_sunny 11 15 (.invokevirtual 146) 3 rfl) (by decide) rfl (Nat.le_of_ble_eq_true rfl) ?_
      refine c_X8_sunless s hr zp0 zp1 zp2 (by omega) (by omega) (fun w1 zw1 => ?_)
      change AW ev false 4 t_X8_sunny Q 18 [some (vR 27), some (vI s), some (vI s2), some (vI hr)] [vI w1, vI s2] M
      refine AW.go pk_X8_sunny 12 5 rfl rfl ?_
      refine And.intro (show Inr w1 from ⟨by omega, by omega⟩) (And.intro (fun zh2 => ?_) (fun zh2 => ?_))
      · replace zh2 : w1 ≠ (0 : Int) := zh2
        change AW ev false 4 t_X8_sunny Q 27 [some (vR 27), some (vI s), some (vI s2), some (vI hr)] [vI s2] M
        refine AW.go pk_X8_sunny 17 5 rfl rfl ?_
        refine And.intro (show 2 < mL t_X8_sunny from (by decide)) ?_
        refine And.intro (show 3 < mL t_X8_sunny from (by decide)) ?_
        change AW ev false 4 t_X8_sunny Q 5 [some (vR 27), some (vI s), some (vI (iorI s2 0)), some (vI (hr + 1))] [] M
        exact zih (hr + 1) (iorI s2 0) (by omega) (by omega) (tI_inr _) (fun r zr => zv2 r (by rw [zr, ior_0 zv1]; exact (shT_no (f := (fun hr => snF (M 28) (M 29 s) (eyeF (M 28) (M 29) (M 30) s) hr (cvR M (M 29 s) hr) = 0)) (show ¬ snF _ _ _ hr _ = 0 from by omega)).symm))
      · replace zh2 : ¬ (w1 ≠ (0 : Int)) := zh2
        change AW ev false 4 t_X8_sunny Q 28 [some (vR 27), some (vI s), some (vI s2), some (vI hr)] [vI (ishlI 1 hr), vI s2] M
        refine AW.go pk_X8_sunny 18 4 rfl rfl ?_
        refine And.intro (show 2 < mL t_X8_sunny from (by decide)) ?_
        refine And.intro (show 3 < mL t_X8_sunny from (by decide)) ?_
        change AW ev false 4 t_X8_sunny Q 5 [some (vR 27), some (vI s), some (vI (iorI s2 (ishlI 1 hr))), some (vI (hr + 1))] [] M
        exact zih (hr + 1) (iorI s2 (ishlI 1 hr)) (by omega) (by omega) (tI_inr _) (fun r zr => zv2 r (by rw [zr]; exact (shT_yes (f := (fun hr => snF (M 28) (M 29 s) (eyeF (M 28) (M 29) (M 30) s) hr (cvR M (M 29 s) hr) = 0)) (show snF _ _ _ hr _ = 0 from by omega)).symm))
theorem c_X8_sunny {ev : Ev} {Q : Out → Mem → Prop} {M : Mem}  (s : Int) (zp0 : TJ M) (zp1 : SJ M) (zp2 : KJ M) (zp3 : 0 ≤ s ∧ s < M 27 2) (zQ : ∀ (r : Int), r = shT (fun hr => snF (M 28) (M 29 s) (eyeF (M 28) (M 29) (M 30) s) hr (cvR M (M 29 s) hr) = 0) 12 6 0 ∧ (-2147483648 ≤ r ∧ r < 2147483648) → Q (.inl (some (vI r))) M) : AM ev false 4 t_X8_sunny [vR 27, vI s] M Q := by
  have zs := zp1.1
  refine AM.of mt_X8_sunny (Nat.le_of_ble_eq_true rfl) ?_
  change AW ev false 4 t_X8_sunny Q 0 [some (vR 27), some (vI s), none, none] [] M
  refine AW.go pk_X8_sunny 0 4 rfl rfl ?_
  refine And.intro (show 2 < mL t_X8_sunny from (by decide)) ?_
  refine And.intro (show 3 < mL t_X8_sunny from (by decide)) ?_
  change AW ev false 4 t_X8_sunny Q 5 [some (vR 27), some (vI s), some (vI 0), some (vI 6)] [] M
  exact lz_sunny s zp0 zp1 zp2 zp3 12 6 0 (by omega) (by omega) ⟨by omega, by omega⟩ (fun r zr => zQ r ⟨zr, by rw [zr]; exact shT_inr _ _ _ _ ⟨by omega, by omega⟩⟩)
