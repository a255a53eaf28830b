theorem lz_unset {ev : Ev} {Q : Out → Mem → Prop} {M : Mem}  (S : Int) (zp0 : SInv M) (zp1 : ∀ v, 0 ≤ v → v < M 7 3 → -1 ≤ M 24 v ∧ M 24 v ≤ 72) (zQ : ∀ (r : Int), euI (fun s => iandI (ishrI S s) 1 = 0 ∧ M 24 s ≠ -1) (M 24) (M 7 3) r ∧ (-1 ≤ r ∧ r < M 7 3) → Q (.inl (some (vI r))) M) : ∀ (n : Nat) (i : Int) (e : Int), i + n = M 7 3 → (0 ≤ i) → (-1 ≤ e ∧ e < i) → (euI (fun s => iandI (ishrI S s) 1 = 0 ∧ M 24 s ≠ -1) (M 24) i e) → AW ev false 2 t_X3_earliestUnsettled Q 4 [some (vR 22), some (vI S), some (vI e), some (vI i), none] [] M := by
  intro n
  induction n with
  | zero =>
    intro i e zn zv0 zv1 zv2
    have zs := zp0.1
    refine AW.go pk_X3_earliestUnsettled 4 4 rfl rfl ?_
    change AW ev false 2 t_X3_earliestUnsettled Q 9 [some (vR 22), some (vI S), some (vI e), some (vI i), none] [vR 7, vI i] M
    refine AW.callV (d' := 0) [] [vI i] vm_X4_size rfl hX3_36 (okP_d pk_X3_earliestUnsettled 7 9 (.invokevirtual 36) 3 rfl) (by decide) rfl (Nat.le_of_ble_eq_true rfl) ?_
    refine c_X4_size   (fun w1 zw1 => ?_)
    change AW ev false 2 t_X3_earliestUnsettled Q 12 [some (vR 22), some (vI S), some (vI e), some (vI i), none] [vI w1, vI i] M
    refine AW.go pk_X3_earliestUnsettled 8 15 rfl rfl ?_
    refine And.intro (show Inr i ∧ Inr w1 from ⟨⟨by omega, by omega⟩, ⟨by omega, by omega⟩⟩) (And.intro (fun zh1 => ?_) (fun zh1 => ?_))
    · replace zh1 : w1 ≤ i := zh1
      change AW ev false 2 t_X3_earliestUnsettled Q 72 [some (vR 22), some (vI S), some (vI e), some (vI i), none] [] M
      refine AW.go pk_X3_earliestUnsettled 42 2 rfl rfl ?_
      refine And.intro rfl ?_
      exact zQ e ⟨by rw [show M 7 3 = i from by omega]; exact zv2, by omega⟩
    · replace zh1 : ¬ (w1 ≤ i) := zh1
      exfalso; omega
  | succ n zih =>
    intro i e zn zv0 zv1 zv2
    have zs := zp0.1
    refine AW.go pk_X3_earliestUnsettled 4 4 rfl rfl ?_
    change AW ev false 2 t_X3_earliestUnsettled Q 9 [some (vR 22), some (vI S), some (vI e), some (vI i), none] [vR 7, vI i] M
    refine AW.callV (d' := 0) [] [vI i] vm_X4_size rfl hX3_36 (okP_d pk_X3_earliestUnsettled 7 9 (.invokevirtual 36) 3 rfl) (by decide) rfl (Nat.le_of_ble_eq_true rfl) ?_
    refine c_X4_size   (fun w1 zw1 => ?_)
    change AW ev false 2 t_X3_earliestUnsettled Q 12 [some (vR 22), some (vI S), some (vI e), some (vI i), none] [vI w1, vI i] M
    refine AW.go pk_X3_earliestUnsettled 8 15 rfl rfl ?_
    refine And.intro (show Inr i ∧ Inr w1 from ⟨⟨by omega, by omega⟩, ⟨by omega, by omega⟩⟩) (And.intro (fun zh1 => ?_) (fun zh1 => ?_))
    · replace zh1 : w1 ≤ i := zh1
      exfalso; omega
    · replace zh1 : ¬ (w1 ≤ i) := zh1
      refine And.intro (show Inr (iandI (ishrI S i) 1) from (by exact tI_inr _)) (And.intro (fun zh2 => ?_) (fun zh2 => ?_))
      · replace zh2 : iandI (ishrI S i) 1 ≠ (0 : Int) := zh2
        change AW ev false 2 t_X3_earliestUnsettled Q 37 [some (vR 22), some (vI S), some (vI e), some (vI i), none] [] M
        refine AW.go pk_X3_earliestUnsettled 23 14 rfl rfl ?_
        refine And.intro (show 4 < mL t_X3_earliestUnsettled from (by decide)) ?_
        refine And.intro (show Inr 0 from ⟨by omega, by omega⟩) (And.intro (fun zh3 => ?_) (fun zh3 => ?_))
        · replace zh3 : (0 : Int) = (0 : Int) := zh3
          change AW ev false 2 t_X3_earliestUnsettled Q 66 [some (vR 22), some (vI S), some (vI e), some (vI i), some (vI 0)] [] M
          refine AW.go pk_X3_earliestUnsettled 40 2 rfl rfl ?_
          refine And.intro (show 3 < mL t_X3_earliestUnsettled from (by decide)) ?_
          change AW ev false 2 t_X3_earliestUnsettled Q 4 [some (vR 22), some (vI S), some (vI e), some (vI (i + 1)), some (vI 0)] [] M
          refine AW.sub [some (vR 22), some (vI S), some (vI e), some (vI (i + 1)), none] (by simp [lsub]) ?_
          exact zih (i + 1) e (by omega) (by omega) (by omega) (eu_no zv2 (fun q => by have := q.1; have := q.2; omega))
        · replace zh3 : ¬ ((0 : Int) = (0 : Int)) := zh3
          exfalso; omega
      · replace zh2 : ¬ (iandI (ishrI S i) 1 ≠ (0 : Int)) := zh2
        refine And.intro (show (0 ≤ i ∧ i < 8) from (by omega)) ?_
        have zf4 := zp1 i (by omega) (by omega)
        refine And.intro (show Inr (M 24 i) ∧ Inr (-1) from ⟨⟨by omega, by omega⟩, ⟨by omega, by omega⟩⟩) (And.intro (fun zh5 => ?_) (fun zh5 => ?_))
        · replace zh5 : M 24 i = (-1 : Int) := zh5
          change AW ev false 2 t_X3_earliestUnsettled Q 37 [some (vR 22), some (vI S), some (vI e), some (vI i), none] [] M
          refine AW.go pk_X3_earliestUnsettled 23 14 rfl rfl ?_
          refine And.intro (show 4 < mL t_X3_earliestUnsettled from (by decide)) ?_
          refine And.intro (show Inr 0 from ⟨by omega, by omega⟩) (And.intro (fun zh6 => ?_) (fun zh6 => ?_))
          · replace zh6 : (0 : Int) = (0 : Int) := zh6
            change AW ev false 2 t_X3_earliestUnsettled Q 66 [some (vR 22), some (vI S), some (vI e), some (vI i), some (vI 0)] [] M
            refine AW.go pk_X3_earliestUnsettled 40 2 rfl rfl ?_
            refine And.intro (show 3 < mL t_X3_earliestUnsettled from (by decide)) ?_
            change AW ev false 2 t_X3_earliestUnsettled Q 4 [some (vR 22), some (vI S), some (vI e), some (vI (i + 1)), some (vI 0)] [] M
            refine AW.sub [some (vR 22), some (vI S), some (vI e), some (vI (i + 1)), none] (by simp [lsub]) ?_
            exact zih (i + 1) e (by omega) (by omega) (by omega) (eu_no zv2 (fun q => by have := q.1; have := q.2; omega))
          · replace zh6 : ¬ ((0 : Int) = (0 : Int)) := zh6
            exfalso; omega
        · replace zh5 : ¬ (M 24 i = (-1 : Int)) := zh5
          change AW ev false 2 t_X3_earliestUnsettled Q 38 [some (vR 22), some (vI S), some (vI e), some (vI i), none] [vI 1] M
          refine AW.go pk_X3_earliestUnsettled 24 13 rfl rfl ?_
          refine And.intro (show 4 < mL t_X3_earliestUnsettled from (by decide)) ?_
          refine And.intro (show Inr 1 from ⟨by omega, by omega⟩) (And.intro (fun zh7 => ?_) (fun zh7 => ?_))
          · replace zh7 : (1 : Int) = (0 : Int) := zh7
            exfalso; omega
          · replace zh7 : ¬ ((1 : Int) = (0 : Int)) := zh7
            refine And.intro (show Inr e ∧ Inr (-1) from ⟨⟨by omega, by omega⟩, ⟨by omega, by omega⟩⟩) (And.intro (fun zh8 => ?_) (fun zh8 => ?_))
            · replace zh8 : e = (-1 : Int) := zh8
              change AW ev false 2 t_X3_earliestUnsettled Q 64 [some (vR 22), some (vI S), some (vI e), some (vI i), some (vI 1)] [] M
              refine AW.go pk_X3_earliestUnsettled 38 4 rfl rfl ?_
              refine And.intro (show 2 < mL t_X3_earliestUnsettled from (by decide)) ?_
              refine And.intro (show 3 < mL t_X3_earliestUnsettled from (by decide)) ?_
              change AW ev false 2 t_X3_earliestUnsettled Q 4 [some (vR 22), some (vI S), some (vI i), some (vI (i + 1)), some (vI 1)] [] M
              refine AW.sub [some (vR 22), some (vI S), some (vI i), some (vI (i + 1)), none] (by simp [lsub]) ?_
              exact zih (i + 1) i (by omega) (by omega) (by omega) (eu_new zv2 (by omega) ⟨by omega, by omega⟩ (by omega))
            · replace zh8 : ¬ (e = (-1 : Int)) := zh8
              refine And.intro (show (0 ≤ i ∧ i < 8) from (by omega)) ?_
              have zf9 := zp1 i (by omega) (by omega)
              change AW ev false 2 t_X3_earliestUnsettled Q 58 [some (vR 22), some (vI S), some (vI e), some (vI i), some (vI 1)] [vI e, vR 22, vI (M 24 i)] M
              refine AW.callV (d' := 1) [vI e] [vI (M 24 i)] vm_X3_arrivalAt rfl hX3_73 (okP_d pk_X3_earliestUnsettled 36 58 (.invokevirtual 73) 3 rfl) (by decide) rfl (Nat.le_of_ble_eq_true rfl) ?_
              refine c_X3_arrivalAt e zp0 (by omega) (fun w2 zw2 => ?_)
              change AW ev false 2 t_X3_earliestUnsettled Q 61 [some (vR 22), some (vI S), some (vI e), some (vI i), some (vI 1)] [vI w2, vI (M 24 i)] M
              refine AW.go pk_X3_earliestUnsettled 37 5 rfl rfl ?_
              refine And.intro (show Inr (M 24 i) ∧ Inr w2 from ⟨(by have ze2 := zp1 e (by omega) (by omega); exact ⟨by omega, by omega⟩), (by have ze2 := zp1 e (by omega) (by omega); exact ⟨by omega, by omega⟩)⟩) (And.intro (fun zh10 => ?_) (fun zh10 => ?_))
              · replace zh10 : w2 ≤ M 24 i := zh10
                change AW ev false 2 t_X3_earliestUnsettled Q 66 [some (vR 22), some (vI S), some (vI e), some (vI i), some (vI 1)] [] M
                refine AW.go pk_X3_earliestUnsettled 40 2 rfl rfl ?_
                refine And.intro (show 3 < mL t_X3_earliestUnsettled from (by decide)) ?_
                change AW ev false 2 t_X3_earliestUnsettled Q 4 [some (vR 22), some (vI S), some (vI e), some (vI (i + 1)), some (vI 1)] [] M
                refine AW.sub [some (vR 22), some (vI S), some (vI e), some (vI (i + 1)), none] (by simp [lsub]) ?_
                exact zih (i + 1) e (by omega) (by omega) (by omega) (eu_keep zv2 (by omega) (by omega))
              · replace zh10 : ¬ (w2 ≤ M 24 i) := zh10
                refine And.intro (show 2 < mL t_X3_earliestUnsettled from (by decide)) ?_
                refine And.intro (show 3 < mL t_X3_earliestUnsettled from (by decide)) ?_
                change AW ev false 2 t_X3_earliestUnsettled Q 4 [some (vR 22), some (vI S), some (vI i), some (vI (i + 1)), some (vI 1)] [] M
                refine AW.sub [some (vR 22), some (vI S), some (vI i), some (vI (i + 1)), none] (by simp [lsub]) ?_
                exact zih (i + 1) i (by omega) (by omega) (by omega) (eu_new zv2 (by omega) ⟨by omega, by omega⟩ (by omega))
theorem c_X3_earliestUnsettled {ev : Ev} {Q : Out → Mem → Prop} {M : Mem}  (S : Int) (zp0 : SInv M) (zp1 : ∀ v, 0 ≤ v → v < M 7 3 → -1 ≤ M 24 v ∧ M 24 v ≤ 72) (zQ : ∀ (r : Int), euI (fun s => iandI (ishrI S s) 1 = 0 ∧ M 24 s ≠ -1) (M 24) (M 7 3) r ∧ (-1 ≤ r ∧ r < M 7 3) → Q (.inl (some (vI r))) M) : AM ev false 2 t_X3_earliestUnsettled [vR 22, vI S] M Q := by
  have zs := zp0.1
  refine AM.of mt_X3_earliestUnsettled (Nat.le_of_ble_eq_true rfl) ?_
  change AW ev false 2 t_X3_earliestUnsettled Q 0 [some (vR 22), some (vI S), none, none, none] [] M
  refine AW.go pk_X3_earliestUnsettled 0 4 rfl rfl ?_
  refine And.intro (show 2 < mL t_X3_earliestUnsettled from (by decide)) ?_
  refine And.intro (show 3 < mL t_X3_earliestUnsettled from (by decide)) ?_
  change AW ev false 2 t_X3_earliestUnsettled Q 4 [some (vR 22), some (vI S), some (vI (-1)), some (vI 0), none] [] M
  exact lz_unset S zp0 zp1 zQ (M 7 3).toNat 0 (-1) (by omega) (by omega) (by omega) (Or.inl ⟨rfl, fun s s0 s1 => by omega⟩)
theorem lz_pass {ev : Ev} {Q : Out → Mem → Prop} {M : Mem}  (f : Int → Int) (u : Int) (l : Int) (zp0 : SInv M) (zp1 : 0 ≤ u ∧ u < M 7 3) (zp2 : M 22 7 = l) (zp3 : 1 ≤ l ∧ l ≤ 6) (zp4 : 0 ≤ f u) (zp5 : ∀ v, 0 ≤ v → v < M 7 3 → -1 ≤ f v ∧ f v ≤ 72) (zp6 : ∀ i, 0 ≤ i → i < 576 → -1 ≤ M 21 i ∧ M 21 i < 20) (zp7 : EE (M 23) (M 21) l u u (f u) = -1) (zQ0 : True → Q (.inl none) (arM M (rlxF (fun v => EE (M 23) (M 21) l u v (f u)) f (M 7 3)))) : ∀ (n : Nat) (i : Int), i + n = M 7 3 → (0 ≤ i) → AW ev false 3 t_X3_passOn Q 2 [some (vR 22), some (vI u), some (vI i), none] [] (arM M (rlxF (fun v => EE (M 23) (M 21) l u v (f u)) f i)) := by
  intro n
  induction n with
  | zero =>
    intro i zn zv0
    have zs := zp0.1
    refine AW.go pk_X3_passOn 2 4 rfl rfl ?_
    change AW ev false 3 t_X3_passOn Q 7 [some (vR 22), some (vI u), some (vI i), none] [vR 7, vI i] (arM M (rlxF (fun v => EE (M 23) (M 21) l u v (f u)) f i))
    refine AW.callV (d' := 0) [] [vI i] vm_X4_size rfl hX3_36 (okP_d pk_X3_passOn 5 7 (.invokevirtual 36) 3 rfl) (by decide) rfl (Nat.le_of_ble_eq_true rfl) ?_
    refine c_X4_size   (fun w1 zw1 => ?_)
    replace zw1 : w1 = (M 7 3) := zw1
    replace zw1 : w1 = M 7 3 := zw1
    change AW ev false 3 t_X3_passOn Q 10 [some (vR 22), some (vI u), some (vI i), none] [vI w1, vI i] (arM M (rlxF (fun v => EE (M 23) (M 21) l u v (f u)) f i))
    refine AW.go pk_X3_passOn 6 5 rfl rfl ?_
    refine And.intro (show Inr i ∧ Inr w1 from ⟨⟨by omega, by omega⟩, ⟨by omega, by omega⟩⟩) (And.intro (fun zh1 => ?_) (fun zh1 => ?_))
    · replace zh1 : w1 ≤ i := zh1
      change AW ev false 3 t_X3_passOn Q 58 [some (vR 22), some (vI u), some (vI i), none] [] (arM M (rlxF (fun v => EE (M 23) (M 21) l u v (f u)) f i))
      refine AW.go pk_X3_passOn 34 1 rfl rfl ?_
      refine And.intro rfl ?_
      exact QcV (Q := Q) (show (arM M (rlxF (fun v => EE (M 23) (M 21) l u v (f u)) f i)) = arM M (rlxF (fun v => EE (M 23) (M 21) l u v (f u)) f (M 7 3)) from by rw [show i = M 7 3 from by omega]) (zQ0 trivial)
    · replace zh1 : ¬ (w1 ≤ i) := zh1
      exfalso; omega
  | succ n zih =>
    intro i zn zv0
    have zs := zp0.1
    refine AW.go pk_X3_passOn 2 4 rfl rfl ?_
    change AW ev false 3 t_X3_passOn Q 7 [some (vR 22), some (vI u), some (vI i), none] [vR 7, vI i] (arM M (rlxF (fun v => EE (M 23) (M 21) l u v (f u)) f i))
    refine AW.callV (d' := 0) [] [vI i] vm_X4_size rfl hX3_36 (okP_d pk_X3_passOn 5 7 (.invokevirtual 36) 3 rfl) (by decide) rfl (Nat.le_of_ble_eq_true rfl) ?_
    refine c_X4_size   (fun w1 zw1 => ?_)
    replace zw1 : w1 = (M 7 3) := zw1
    replace zw1 : w1 = M 7 3 := zw1
    change AW ev false 3 t_X3_passOn Q 10 [some (vR 22), some (vI u), some (vI i), none] [vI w1, vI i] (arM M (rlxF (fun v => EE (M 23) (M 21) l u v (f u)) f i))
    refine AW.go pk_X3_passOn 6 5 rfl rfl ?_
    refine And.intro (show Inr i ∧ Inr w1 from ⟨⟨by omega, by omega⟩, ⟨by omega, by omega⟩⟩) (And.intro (fun zh1 => ?_) (fun zh1 => ?_))
    · replace zh1 : w1 ≤ i := zh1
      exfalso; omega
    · replace zh1 : ¬ (w1 ≤ i) := zh1
      change AW ev false 3 t_X3_passOn Q 16 [some (vR 22), some (vI u), some (vI i), none] [vI i, vI u, vR 22] (arM M (rlxF (fun v => EE (M 23) (M 21) l u v (f u)) f i))
      refine AW.callV (d' := 2) [vI u, vI i] [] vm_X3_earliestEnd rfl hX3_76 (okP_d pk_X3_passOn 10 16 (.invokevirtual 76) 3 rfl) (by decide) rfl (Nat.le_of_ble_eq_true rfl) ?_
      refine c_X3_earliestEnd u i l zp0 (show 0 ≤ u ∧ u < (M 7 3) from by omega) (show 0 ≤ i ∧ i < (M 7 3) from by omega) zp2 (by omega) (show 0 ≤ (rlxF (fun v => EE (M 23) (M 21) l u v (f u)) f i) u ∧ (rlxF (fun v => EE (M 23) (M 21) l u v (f u)) f i) u ≤ 72 from by rw [rlx_none (e := (fun v => EE (M 23) (M 21) l u v (f u))) (u := u) zp7]; exact ⟨zp4, (zp5 u (by omega) (by omega)).2⟩) zp6 (fun w2 zw2 => ?_)
      replace zw2 : w2 = EE (M 23) (M 21) l u i ((rlxF (fun v => EE (M 23) (M 21) l u v (f u)) f i) u) ∧ (w2 = -1 ∨ ((rlxF (fun v => EE (M 23) (M 21) l u v (f u)) f i) u + l ≤ w2 ∧ w2 ≤ 72)) := zw2
      rw [rlx_none (e := (fun v => EE (M 23) (M 21) l u v (f u))) (u := u) zp7] at zw2
      have zfu := zp5 i (by omega) (by omega)
      have zgi : (rlxF (fun v => EE (M 23) (M 21) l u v (f u)) f i) i = f i := rlx_at _ _ _
      change AW ev false 3 t_X3_passOn Q 19 [some (vR 22), some (vI u), some (vI i), none] [vI w2] (arM M (rlxF (fun v => EE (M 23) (M 21) l u v (f u)) f i))
      refine AW.go pk_X3_passOn 11 23 rfl rfl ?_
      refine And.intro (show 3 < mL t_X3_passOn from (by decide)) ?_
      refine And.intro (show Inr w2 ∧ Inr (-1) from ⟨⟨by omega, by omega⟩, ⟨by omega, by omega⟩⟩) (And.intro (fun zh2 => ?_) (fun zh2 => ?_))
      · replace zh2 : w2 = (-1 : Int) := zh2
        change AW ev false 3 t_X3_passOn Q 52 [some (vR 22), some (vI u), some (vI i), some (vI w2)] [] (arM M (rlxF (fun v => EE (M 23) (M 21) l u v (f u)) f i))
        refine AW.go pk_X3_passOn 32 2 rfl rfl ?_
        refine And.intro (show 2 < mL t_X3_passOn from (by decide)) ?_
        change AW ev false 3 t_X3_passOn Q 2 [some (vR 22), some (vI u), some (vI (i + 1)), some (vI w2)] [] (arM M (rlxF (fun v => EE (M 23) (M 21) l u v (f u)) f i))
        refine AW.sub [some (vR 22), some (vI u), some (vI (i + 1)), none] (by simp [lsub]) ?_
        exact AW.mem (show (arM M (rlxF (fun v => EE (M 23) (M 21) l u v (f u)) f i)) = (arM M (rlxF (fun v => EE (M 23) (M 21) l u v (f u)) f (i + 1))) from by first | exact rlx_s1 (by omega) zw2.1 (show EE (M 23) (M 21) l u i (f u) ≠ -1 from by rw [← zw2.1]; omega) (show f i = -1 ∨ EE (M 23) (M 21) l u i (f u) < f i from by rw [← zw2.1]; omega) | exact rlx_s2 (show ¬ (EE (M 23) (M 21) l u i (f u) ≠ -1 ∧ (f i = -1 ∨ EE (M 23) (M 21) l u i (f u) < f i)) from by rw [← zw2.1]; omega)) (zih (i + 1) (by omega) (by omega))
      · replace zh2 : ¬ (w2 = (-1 : Int)) := zh2
        refine And.intro (show (0 ≤ i ∧ i < 8) from (by omega)) ?_
        refine And.intro (show Inr ((rlxF (fun v => EE (M 23) (M 21) l u v (f u)) f i) i) ∧ Inr (-1) from ⟨⟨by omega, by omega⟩, ⟨by omega, by omega⟩⟩) (And.intro (fun zh3 => ?_) (fun zh3 => ?_))
        · replace zh3 : (rlxF (fun v => EE (M 23) (M 21) l u v (f u)) f i) i = (-1 : Int) := zh3
          change AW ev false 3 t_X3_passOn Q 45 [some (vR 22), some (vI u), some (vI i), some (vI w2)] [] (arM M (rlxF (fun v => EE (M 23) (M 21) l u v (f u)) f i))
          refine AW.go pk_X3_passOn 27 7 rfl rfl ?_
          refine And.intro (show ((0 ≤ i ∧ i < 8) ∧ ((0 : Nat) = 0 ∨ w2 = 0 ∨ w2 = 1)) from ⟨by omega, Or.inl rfl⟩) ?_
          refine And.intro (show 2 < mL t_X3_passOn from (by decide)) ?_
          change AW ev false 3 t_X3_passOn Q 2 [some (vR 22), some (vI u), some (vI (i + 1)), some (vI w2)] [] (upM (arM M (rlxF (fun v => EE (M 23) (M 21) l u v (f u)) f i)) 24 i w2)
          refine AW.sub [some (vR 22), some (vI u), some (vI (i + 1)), none] (by simp [lsub]) ?_
          exact AW.mem (show (upM (arM M (rlxF (fun v => EE (M 23) (M 21) l u v (f u)) f i)) 24 i w2) = (arM M (rlxF (fun v => EE (M 23) (M 21) l u v (f u)) f (i + 1))) from by first | exact rlx_s1 (by omega) zw2.1 (show EE (M 23) (M 21) l u i (f u) ≠ -1 from by rw [← zw2.1]; omega) (show f i = -1 ∨ EE (M 23) (M 21) l u i (f u) < f i from by rw [← zw2.1]; omega) | exact rlx_s2 (show ¬ (EE (M 23) (M 21) l u i (f u) ≠ -1 ∧ (f i = -1 ∨ EE (M 23) (M 21) l u i (f u) < f i)) from by rw [← zw2.1]; omega)) (zih (i + 1) (by omega) (by omega))
        · replace zh3 : ¬ ((rlxF (fun v => EE (M 23) (M 21) l u v (f u)) f i) i = (-1 : Int)) := zh3
          refine And.intro (show (0 ≤ i ∧ i < 8) from (by omega)) ?_
          refine And.intro (show Inr w2 ∧ Inr ((rlxF (fun v => EE (M 23) (M 21) l u v (f u)) f i) i) from ⟨⟨by omega, by omega⟩, ⟨by omega, by omega⟩⟩) (And.intro (fun zh4 => ?_) (fun zh4 => ?_))
          · replace zh4 : (rlxF (fun v => EE (M 23) (M 21) l u v (f u)) f i) i ≤ w2 := zh4
            change AW ev false 3 t_X3_passOn Q 52 [some (vR 22), some (vI u), some (vI i), some (vI w2)] [] (arM M (rlxF (fun v => EE (M 23) (M 21) l u v (f u)) f i))
            refine AW.go pk_X3_passOn 32 2 rfl rfl ?_
            refine And.intro (show 2 < mL t_X3_passOn from (by decide)) ?_
            change AW ev false 3 t_X3_passOn Q 2 [some (vR 22), some (vI u), some (vI (i + 1)), some (vI w2)] [] (arM M (rlxF (fun v => EE (M 23) (M 21) l u v (f u)) f i))
            refine AW.sub [some (vR 22), some (vI u), some (vI (i + 1)), none] (by simp [lsub]) ?_
            exact AW.mem (show (arM M (rlxF (fun v => EE (M 23) (M 21) l u v (f u)) f i)) = (arM M (rlxF (fun v => EE (M 23) (M 21) l u v (f u)) f (i + 1))) from by first | exact rlx_s1 (by omega) zw2.1 (show EE (M 23) (M 21) l u i (f u) ≠ -1 from by rw [← zw2.1]; omega) (show f i = -1 ∨ EE (M 23) (M 21) l u i (f u) < f i from by rw [← zw2.1]; omega) | exact rlx_s2 (show ¬ (EE (M 23) (M 21) l u i (f u) ≠ -1 ∧ (f i = -1 ∨ EE (M 23) (M 21) l u i (f u) < f i)) from by rw [← zw2.1]; omega)) (zih (i + 1) (by omega) (by omega))
          · replace zh4 : ¬ ((rlxF (fun v => EE (M 23) (M 21) l u v (f u)) f i) i ≤ w2) := zh4
            refine And.intro (show ((0 ≤ i ∧ i < 8) ∧ ((0 : Nat) = 0 ∨ w2 = 0 ∨ w2 = 1)) from ⟨by omega, Or.inl rfl⟩) ?_
            refine And.intro (show 2 < mL t_X3_passOn from (by decide)) ?_
            change AW ev false 3 t_X3_passOn Q 2 [some (vR 22), some (vI u), some (vI (i + 1)), some (vI w2)] [] (upM (arM M (rlxF (fun v => EE (M 23) (M 21) l u v (f u)) f i)) 24 i w2)
            refine AW.sub [some (vR 22), some (vI u), some (vI (i + 1)), none] (by simp [lsub]) ?_
            exact AW.mem (show (upM (arM M (rlxF (fun v => EE (M 23) (M 21) l u v (f u)) f i)) 24 i w2) = (arM M (rlxF (fun v => EE (M 23) (M 21) l u v (f u)) f (i + 1))) from by first | exact rlx_s1 (by omega) zw2.1 (show EE (M 23) (M 21) l u i (f u) ≠ -1 from by rw [← zw2.1]; omega) (show f i = -1 ∨ EE (M 23) (M 21) l u i (f u) < f i from by rw [← zw2.1]; omega) | exact rlx_s2 (show ¬ (EE (M 23) (M 21) l u i (f u) ≠ -1 ∧ (f i = -1 ∨ EE (M 23) (M 21) l u i (f u) < f i)) from by rw [← zw2.1]; omega)) (zih (i + 1) (by omega) (by omega))
theorem c_X3_passOn {ev : Ev} {Q : Out → Mem → Prop} {M : Mem}  (f : Int → Int) (u : Int) (l : Int) (zp0 : SInv M) (zp1 : 0 ≤ u ∧ u < M 7 3) (zp2 : M 22 7 = l) (zp3 : 1 ≤ l ∧ l ≤ 6) (zp4 : 0 ≤ f u) (zp5 : ∀ v, 0 ≤ v → v < M 7 3 → -1 ≤ f v ∧ f v ≤ 72) (zp6 : ∀ i, 0 ≤ i → i < 576 → -1 ≤ M 21 i ∧ M 21 i < 20) (zp7 : EE (M 23) (M 21) l u u (f u) = -1) (zQ0 : True → Q (.inl none) (arM M (rlxF (fun v => EE (M 23) (M 21) l u v (f u)) f (M 7 3)))) : AM ev false 3 t_X3_passOn [vR 22, vI u] (arM M f) Q := by
  have zs := zp0.1
  refine AM.of mt_X3_passOn (Nat.le_of_ble_eq_true rfl) ?_
  change AW ev false 3 t_X3_passOn Q 0 [some (vR 22), some (vI u), none, none] [] (arM M f)
  refine AW.go pk_X3_passOn 0 2 rfl rfl ?_
  refine And.intro (show 2 < mL t_X3_passOn from (by decide)) ?_
  change AW ev false 3 t_X3_passOn Q 2 [some (vR 22), some (vI u), some (vI 0), none] [] (arM M f)
  exact AW.mem (show arM M f = arM M (rlxF (fun v => EE (M 23) (M 21) l u v (f u)) f 0) from by rw [rlx_0]) (lz_pass f u l zp0 zp1 zp2 zp3 zp4 zp5 zp6 zp7 zQ0 (M 7 3).toNat 0 (by omega) (by omega))
theorem lz_find {ev : Ev} {Q : Out → Mem → Prop} {M : Mem}  (a : Int) (l : Int) (t : Int) (zp0 : SInv M) (zp1 : 0 ≤ a ∧ a < M 7 3) (zp2 : 1 ≤ l ∧ l ≤ 6) (zp3 : 0 ≤ t ∧ t ≤ 71) (zp4 : ∀ i, 0 ≤ i → i < 576 → -1 ≤ M 21 i ∧ M 21 i < 20) (zp5 : ∀ u, 0 ≤ u → u < M 7 3 → ∀ s, 0 ≤ s → s ≤ 72 → EE (M 23) (M 21) l u u s = -1) (zQ0 : ∀ (f : Int → Int), ArrOK (fun u v s => EE (M 23) (M 21) l u v s) (M 7 3) a t f → Q (.inl none) (arM (upM M 22 7 l) f)) : ∀ (n : Nat) (i : Int) (S : Int) (f : Int → Int), i + n = 8 → (0 ≤ i) → (DJ (fun u v s => EE (M 23) (M 21) l u v s) (M 7 3) a t (fun u => bitP S u) f) → (cnt8 (fun u => bitP S u) = i) → AW ev false 4 t_X3_findArrivals Q 37 [some (vR 22), some (vI a), some (vI l), some (vI t), some (vI S), some (vI i), none] [] (arM (upM M 22 7 l) f) := by
  intro n
  induction n with
  | zero =>
    intro i S f zn zv0 zv1 zv2
    have zs := zp0.1
    refine AW.go pk_X3_findArrivals 21 6 rfl rfl ?_
    refine And.intro (show Inr i ∧ Inr 8 from ⟨⟨by omega, by omega⟩, ⟨by omega, by omega⟩⟩) (And.intro (fun zh1 => ?_) (fun zh1 => ?_))
    · replace zh1 : (8 : Int) ≤ i := zh1
      change AW ev false 4 t_X3_findArrivals Q 80 [some (vR 22), some (vI a), some (vI l), some (vI t), some (vI S), some (vI i), none] [] (arM (upM M 22 7 l) f)
      refine AW.go pk_X3_findArrivals 43 1 rfl rfl ?_
      refine And.intro rfl ?_
      exact zQ0 f (DJ.fin (EE_ok (M 23) (M 21) (by omega) _) (by omega) zv1 (fun u q0 q1 q2 => cnt8_full (p := fun u => bitP S u) (by omega) u q0 (by omega)))
    · replace zh1 : ¬ ((8 : Int) ≤ i) := zh1
      exfalso; omega
  | succ n zih =>
    intro i S f zn zv0 zv1 zv2
    have zs := zp0.1
    refine AW.go pk_X3_findArrivals 21 6 rfl rfl ?_
    refine And.intro (show Inr i ∧ Inr 8 from ⟨⟨by omega, by omega⟩, ⟨by omega, by omega⟩⟩) (And.intro (fun zh1 => ?_) (fun zh1 => ?_))
    · replace zh1 : (8 : Int) ≤ i := zh1
      exfalso; omega
    · replace zh1 : ¬ ((8 : Int) ≤ i) := zh1
      change AW ev false 4 t_X3_findArrivals Q 47 [some (vR 22), some (vI a), some (vI l), some (vI t), some (vI S), some (vI i), none] [vI S, vR 22] (arM (upM M 22 7 l) f)
      refine AW.callV (d' := 2) [vI S] [] vm_X3_earliestUnsettled rfl hX3_66 (okP_d pk_X3_findArrivals 26 47 (.invokevirtual 66) 3 rfl) (by decide) rfl (Nat.le_of_ble_eq_true rfl) ?_
      refine c_X3_earliestUnsettled S zp0 (show ∀ v, 0 ≤ v → v < M 7 3 → -1 ≤ f v ∧ f v ≤ 72 from fun v q0 q1 => by have := zv1.1.2.1 v q0 q1; omega) (fun x zx => ?_)
      replace zx : euI (fun s => iandI (ishrI S s) 1 = 0 ∧ f s ≠ -1) f (M 7 3) x ∧ (-1 ≤ x ∧ x < M 7 3) := zx
      change AW ev false 4 t_X3_findArrivals Q 50 [some (vR 22), some (vI a), some (vI l), some (vI t), some (vI S), some (vI i), none] [vI x] (arM (upM M 22 7 l) f)
      refine AW.go pk_X3_findArrivals 27 5 rfl rfl ?_
      refine And.intro (show 6 < mL t_X3_findArrivals from (by decide)) ?_
      refine And.intro (show Inr x ∧ Inr (-1) from ⟨⟨by omega, by omega⟩, ⟨by omega, by omega⟩⟩) (And.intro (fun zh2 => ?_) (fun zh2 => ?_))
      · replace zh2 : x ≠ (-1 : Int) := zh2
        change AW ev false 4 t_X3_findArrivals Q 59 [some (vR 22), some (vI a), some (vI l), some (vI t), some (vI S), some (vI i), some (vI x)] [] (arM (upM M 22 7 l) f)
        have zop : iandI (ishrI S x) 1 = 0 ∧ f x ≠ -1 := by
          rcases zx.1 with zq | zq
          · exfalso; omega
          · exact zq.2.1
        have zmin : ∀ w, 0 ≤ w → w < M 7 3 → ¬ bitP S w → f w ≠ -1 → f x ≤ f w := fun w q0 q1 q2 q3 => by
          rcases zx.1 with zq | zq
          · exfalso; omega
          · exact zq.2.2 w q0 q1 ⟨(bit_01 q0 (by omega)).mpr q2, q3⟩
        have znb : ¬ bitP S x := (bit_01 (by omega) (by omega)).mp zop.1
        refine AW.go pk_X3_findArrivals 32 9 rfl rfl ?_
        refine And.intro (show 4 < mL t_X3_findArrivals from (by decide)) ?_
        change AW ev false 4 t_X3_findArrivals Q 71 [some (vR 22), some (vI a), some (vI l), some (vI t), some (vI (iorI S (ishlI 1 x))), some (vI i), some (vI x)] [vI x, vR 22] (arM (upM M 22 7 l) f)
        refine AW.callV (d' := 3) [vI x] [] vm_X3_passOn rfl hX3_69 (okP_d pk_X3_findArrivals 40 71 (.invokevirtual 69) 3 rfl) (by decide) rfl (Nat.le_of_ble_eq_true rfl) ?_
        refine c_X3_passOn f x l zp0 (show 0 ≤ x ∧ x < (M 7 3) from by omega) rfl (by omega) (by have := zv1.1.2.1 x (by omega) (by omega); omega) (show ∀ v, 0 ≤ v → v < M 7 3 → -1 ≤ f v ∧ f v ≤ 72 from fun v q0 q1 => by have := zv1.1.2.1 v q0 q1; omega) zp4 (zp5 x (by omega) (by omega) (f x) (by have := zv1.1.2.1 x (by omega) (by omega); omega) (by have := zv1.1.2.1 x (by omega) (by omega); omega)) (fun zc4 => ?_)
        · replace zc4 : True := zc4
          change AW ev false 4 t_X3_findArrivals Q 74 [some (vR 22), some (vI a), some (vI l), some (vI t), some (vI (iorI S (ishlI 1 x))), some (vI i), some (vI x)] [] (arM (upM M 22 7 l) (rlxF (fun v => EE (M 23) (M 21) l x v (f x)) f (M 7 3)))
          refine AW.go pk_X3_findArrivals 41 2 rfl rfl ?_
          refine And.intro (show 5 < mL t_X3_findArrivals from (by decide)) ?_
          change AW ev false 4 t_X3_findArrivals Q 37 [some (vR 22), some (vI a), some (vI l), some (vI t), some (vI (iorI S (ishlI 1 x))), some (vI (i + 1)), some (vI x)] [] (arM (upM M 22 7 l) (rlxF (fun v => EE (M 23) (M 21) l x v (f x)) f (M 7 3)))
          refine AW.sub [some (vR 22), some (vI a), some (vI l), some (vI t), some (vI (iorI S (ishlI 1 x))), some (vI (i + 1)), none] (by simp [lsub]) ?_
          exact zih (i + 1) (iorI S (ishlI 1 x)) (rlxF (fun v => EE (M 23) (M 21) l x v (f x)) f (M 7 3)) (by omega) (by omega) (DJ.step (EE_ok (M 23) (M 21) (by omega) _) (by omega) zv1 (by omega) (by omega) znb zop.2 zmin (fun u q0 q1 => bit_or (by omega) (by omega) q0 (by omega))) (by rw [cnt8_add (p := fun u => bitP S u) (p' := fun u => bitP (iorI S (ishlI 1 x)) u) (x := x) (by omega) (by omega) znb (fun u q0 q1 => bit_or (by omega) (by omega) q0 (by omega))]; omega)
      · replace zh2 : ¬ (x ≠ (-1 : Int)) := zh2
        refine And.intro rfl ?_
        refine zQ0 f (DJ.fin (EE_ok (M 23) (M 21) (by omega) _) (by omega) zv1 (fun u q0 q1 q2 => ?_))
        rcases zx.1 with ⟨_, ze⟩ | ze
        · exact Classical.byContradiction (fun q => ze u q0 q1 ⟨(bit_01 q0 (by omega)).mpr q, q2⟩)
        · exfalso; omega
theorem c_X3_findArrivals {ev : Ev} {Q : Out → Mem → Prop} {M : Mem}  (a : Int) (l : Int) (t : Int) (zp0 : SInv M) (zp1 : 0 ≤ a ∧ a < M 7 3) (zp2 : 1 ≤ l ∧ l ≤ 6) (zp3 : 0 ≤ t ∧ t ≤ 71) (zp4 : ∀ i, 0 ≤ i → i < 576 → -1 ≤ M 21 i ∧ M 21 i < 20) (zp5 : ∀ u, 0 ≤ u → u < M 7 3 → ∀ s, 0 ≤ s → s ≤ 72 → EE (M 23) (M 21) l u u s = -1) (zQ0 : ∀ (f : Int → Int), ArrOK (fun u v s => EE (M 23) (M 21) l u v s) (M 7 3) a t f → Q (.inl none) (arM (upM M 22 7 l) f)) : AM ev false 4 t_X3_findArrivals [vR 22, vI a, vI l, vI t] M Q := by
  have zs := zp0.1
  refine AM.of mt_X3_findArrivals (Nat.le_of_ble_eq_true rfl) ?_
  change AW ev false 4 t_X3_findArrivals Q 0 [some (vR 22), some (vI a), some (vI l), some (vI t), none, none, none] [] M
  refine AW.go pk_X3_findArrivals 0 4 rfl rfl ?_
  change AW ev false 4 t_X3_findArrivals Q 5 [some (vR 22), some (vI a), some (vI l), some (vI t), none, none, none] [vI (-1), vR 24] M
  refine AW.callS (d' := 0) [vR 24, vI (-1)] [] sm_J7_fill_53178 hX3_56 (okP_d pk_X3_findArrivals 3 5 (.invokestatic 56) 3 rfl) (by decide) rfl (Nat.le_of_ble_eq_true rfl) ?_
  refine c_fill24 (-1)  ?_
  change AW ev false 4 t_X3_findArrivals Q 8 [some (vR 22), some (vI a), some (vI l), some (vI t), none, none, none] [] (fillM M 24 8 (-1))
  refine AW.go pk_X3_findArrivals 4 7 rfl rfl ?_
  change AW ev false 4 t_X3_findArrivals Q 18 [some (vR 22), some (vI a), some (vI l), some (vI t), none, none, none] [vI a, vR 7] (upM (fillM M 24 8 (-1)) 22 7 l)
  refine AW.callV (d' := 0) [vI a] [] vm_X4_has rfl hX3_52 (okP_d pk_X3_findArrivals 10 18 (.invokevirtual 52) 3 rfl) (by decide) rfl (Nat.le_of_ble_eq_true rfl) ?_
  refine c_X4_has a zp0 (by omega) (fun w1 zw1 => ?_)
  replace zw1 : (w1 = 0 ∨ w1 = 1) ∧ (w1 = 1 ↔ 0 ≤ a ∧ a < (M 7 3)) := zw1
  change AW ev false 4 t_X3_findArrivals Q 21 [some (vR 22), some (vI a), some (vI l), some (vI t), none, none, none] [vI w1] (upM (fillM M 24 8 (-1)) 22 7 l)
  refine AW.go pk_X3_findArrivals 11 10 rfl rfl ?_
  refine And.intro (show Inr w1 from ⟨by omega, by omega⟩) (And.intro (fun zh2 => ?_) (fun zh2 => ?_))
  · replace zh2 : w1 = (0 : Int) := zh2
    exfalso; omega
  · replace zh2 : ¬ (w1 = (0 : Int)) := zh2
    refine And.intro (show ((0 ≤ a ∧ a < 8) ∧ ((0 : Nat) = 0 ∨ t = 0 ∨ t = 1)) from ⟨by omega, Or.inl rfl⟩) ?_
    refine And.intro (show 4 < mL t_X3_findArrivals from (by decide)) ?_
    refine And.intro (show 5 < mL t_X3_findArrivals from (by decide)) ?_
    change AW ev false 4 t_X3_findArrivals Q 37 [some (vR 22), some (vI a), some (vI l), some (vI t), some (vI 0), some (vI 0), none] [] (upM (upM (fillM M 24 8 (-1)) 22 7 l) 24 a t)
    exact AW.mem (ar0_eq M a t l) (lz_find a l t zp0 zp1 zp2 zp3 zp4 zp5 zQ0 8 0 0 (ar0 M a t) (by omega) (by omega) (dj_0 (by omega) (by omega) (by omega)) (cnt8_none (fun u q0 q1 => bit_0 q0 (by omega))))
