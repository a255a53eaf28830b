theorem lz_before {ev : Ev} {Q : Out → Mem → Prop} {M : Mem}  (v : Int) (l : Int) (zp0 : SInv M) (zp1 : 0 ≤ v ∧ v < M 7 3) (zp2 : M 22 7 = l) (zp3 : 1 ≤ l ∧ l ≤ 6) (zp4 : ∀ u, 0 ≤ u → u < M 7 3 → M 24 u = -1 ∨ (0 ≤ M 24 u ∧ M 24 u ≤ 72)) (zp5 : ∀ i, 0 ≤ i → i < 576 → -1 ≤ M 21 i ∧ M 21 i < 20) (zp6 : M 24 v ≠ -1) (zp7 : ∃ u, 0 ≤ u ∧ u < M 7 3 ∧ SBP (fun u v s => EE (M 23) (M 21) l u v s) (M 24) v u) (zQ : ∀ (r : Int), LB (M 7 3) (SBP (fun u v s => EE (M 23) (M 21) l u v s) (M 24) v) r → Q (.inl (some (vI r))) M) : ∀ (n : Nat) (i : Int), i + n = M 7 3 → (0 ≤ i) → (∀ u, 0 ≤ u → u < i → ¬ (SBP (fun u v s => EE (M 23) (M 21) l u v s) (M 24) v) u) → AW ev false 3 t_X3_stationBefore Q 8 [some (vR 22), some (vI v), some (vI (M 24 v)), some (vI i)] [] M := by
  intro n
  induction n with
  | zero =>
    intro i zn zv0 zv1
    have zs := zp0.1
    refine AW.go pk_X3_stationBefore 6 4 rfl rfl ?_
    change AW ev false 3 t_X3_stationBefore Q 13 [some (vR 22), some (vI v), some (vI (M 24 v)), some (vI i)] [vR 7, vI i] M
    refine AW.callV (d' := 0) [] [vI i] vm_X4_size rfl hX3_36 (okP_d pk_X3_stationBefore 9 13 (.invokevirtual 36) 3 rfl) (by decide) rfl (Nat.le_of_ble_eq_true rfl) ?_
    refine c_X4_size   (fun w2 zw2 => ?_)
    change AW ev false 3 t_X3_stationBefore Q 16 [some (vR 22), some (vI v), some (vI (M 24 v)), some (vI i)] [vI w2, vI i] M
    refine AW.go pk_X3_stationBefore 10 11 rfl rfl ?_
    refine And.intro (show Inr i ∧ Inr w2 from ⟨⟨by omega, by omega⟩, ⟨by omega, by omega⟩⟩) (And.intro (fun zh1 => ?_) (fun zh1 => ?_))
    · replace zh1 : w2 ≤ i := zh1
      change AW ev false 3 t_X3_stationBefore Q 47 [some (vR 22), some (vI v), some (vI (M 24 v)), some (vI i)] [] M
      refine AW.go pk_X3_stationBefore 27 2 rfl rfl ?_
      refine And.intro rfl ?_
      exfalso
      obtain ⟨u, q0, q1, q2⟩ := zp7
      exact zv1 u q0 (by omega) q2
    · replace zh1 : ¬ (w2 ≤ i) := zh1
      exfalso; omega
  | succ n zih =>
    intro i zn zv0 zv1
    have zs := zp0.1
    refine AW.go pk_X3_stationBefore 6 4 rfl rfl ?_
    change AW ev false 3 t_X3_stationBefore Q 13 [some (vR 22), some (vI v), some (vI (M 24 v)), some (vI i)] [vR 7, vI i] M
    refine AW.callV (d' := 0) [] [vI i] vm_X4_size rfl hX3_36 (okP_d pk_X3_stationBefore 9 13 (.invokevirtual 36) 3 rfl) (by decide) rfl (Nat.le_of_ble_eq_true rfl) ?_
    refine c_X4_size   (fun w2 zw2 => ?_)
    change AW ev false 3 t_X3_stationBefore Q 16 [some (vR 22), some (vI v), some (vI (M 24 v)), some (vI i)] [vI w2, vI i] M
    refine AW.go pk_X3_stationBefore 10 11 rfl rfl ?_
    refine And.intro (show Inr i ∧ Inr w2 from ⟨⟨by omega, by omega⟩, ⟨by omega, by omega⟩⟩) (And.intro (fun zh1 => ?_) (fun zh1 => ?_))
    · replace zh1 : w2 ≤ i := zh1
      exfalso; omega
    · replace zh1 : ¬ (w2 ≤ i) := zh1
      refine And.intro (show (0 ≤ i ∧ i < 8) from (by omega)) ?_
      have zf2 := zp4 i (by omega) (by omega)
      refine And.intro (show Inr (M 24 i) ∧ Inr (-1) from ⟨⟨by omega, by omega⟩, ⟨by omega, by omega⟩⟩) (And.intro (fun zh3 => ?_) (fun zh3 => ?_))
      · replace zh3 : M 24 i = (-1 : Int) := zh3
        change AW ev false 3 t_X3_stationBefore Q 41 [some (vR 22), some (vI v), some (vI (M 24 v)), some (vI i)] [] M
        refine AW.go pk_X3_stationBefore 25 2 rfl rfl ?_
        refine And.intro (show 3 < mL t_X3_stationBefore from (by decide)) ?_
        change AW ev false 3 t_X3_stationBefore Q 8 [some (vR 22), some (vI v), some (vI (M 24 v)), some (vI (i + 1))] [] M
        exact zih (i + 1) (by omega) (by omega) (fun u q0 q1 => if zj : u = i then (by subst zj; intro q2; have z2 : EE (M 23) (M 21) l u v (M 24 u) = M 24 v := q2.2; have := q2.1; omega) else zv1 u q0 (by omega))
      · replace zh3 : ¬ (M 24 i = (-1 : Int)) := zh3
        change AW ev false 3 t_X3_stationBefore Q 32 [some (vR 22), some (vI v), some (vI (M 24 v)), some (vI i)] [vI v, vI i, vR 22] M
        refine AW.callV (d' := 2) [vI i, vI v] [] vm_X3_earliestEnd rfl hX3_76 (okP_d pk_X3_stationBefore 20 32 (.invokevirtual 76) 3 rfl) (by decide) rfl (Nat.le_of_ble_eq_true rfl) ?_
        refine c_X3_earliestEnd i v l zp0 (by omega) (by omega) zp2 (by omega) (by have := zp4 i (by omega) (by omega); omega) zp5 (fun w3 zw3 => ?_)
        change AW ev false 3 t_X3_stationBefore Q 35 [some (vR 22), some (vI v), some (vI (M 24 v)), some (vI i)] [vI w3] M
        refine AW.go pk_X3_stationBefore 21 4 rfl rfl ?_
        refine And.intro (show Inr w3 ∧ Inr (M 24 v) from ⟨(by have zq1 := zp4 v (by omega) (by omega); exact ⟨by omega, by omega⟩), (by have zq1 := zp4 v (by omega) (by omega); exact ⟨by omega, by omega⟩)⟩) (And.intro (fun zh4 => ?_) (fun zh4 => ?_))
        · replace zh4 : w3 ≠ M 24 v := zh4
          change AW ev false 3 t_X3_stationBefore Q 41 [some (vR 22), some (vI v), some (vI (M 24 v)), some (vI i)] [] M
          refine AW.go pk_X3_stationBefore 25 2 rfl rfl ?_
          refine And.intro (show 3 < mL t_X3_stationBefore from (by decide)) ?_
          change AW ev false 3 t_X3_stationBefore Q 8 [some (vR 22), some (vI v), some (vI (M 24 v)), some (vI (i + 1))] [] M
          exact zih (i + 1) (by omega) (by omega) (fun u q0 q1 => if zj : u = i then (by subst zj; intro q2; have z2 : EE (M 23) (M 21) l u v (M 24 u) = M 24 v := q2.2; have := q2.1; omega) else zv1 u q0 (by omega))
        · replace zh4 : ¬ (w3 ≠ M 24 v) := zh4
          refine And.intro rfl ?_
          exact zQ i ⟨by omega, ⟨by omega, show EE (M 23) (M 21) l i v (M 24 i) = M 24 v from by omega⟩, zv1⟩
theorem c_X3_stationBefore {ev : Ev} {Q : Out → Mem → Prop} {M : Mem}  (v : Int) (l : Int) (zp0 : SInv M) (zp1 : 0 ≤ v ∧ v < M 7 3) (zp2 : M 22 7 = l) (zp3 : 1 ≤ l ∧ l ≤ 6) (zp4 : ∀ u, 0 ≤ u → u < M 7 3 → M 24 u = -1 ∨ (0 ≤ M 24 u ∧ M 24 u ≤ 72)) (zp5 : ∀ i, 0 ≤ i → i < 576 → -1 ≤ M 21 i ∧ M 21 i < 20) (zp6 : M 24 v ≠ -1) (zp7 : ∃ u, 0 ≤ u ∧ u < M 7 3 ∧ SBP (fun u v s => EE (M 23) (M 21) l u v s) (M 24) v u) (zQ : ∀ (r : Int), LB (M 7 3) (SBP (fun u v s => EE (M 23) (M 21) l u v s) (M 24) v) r → Q (.inl (some (vI r))) M) : AM ev false 3 t_X3_stationBefore [vR 22, vI v] M Q := by
  have zs := zp0.1
  refine AM.of mt_X3_stationBefore (Nat.le_of_ble_eq_true rfl) ?_
  change AW ev false 3 t_X3_stationBefore Q 0 [some (vR 22), some (vI v), none, none] [] M
  refine AW.go pk_X3_stationBefore 0 3 rfl rfl ?_
  change AW ev false 3 t_X3_stationBefore Q 2 [some (vR 22), some (vI v), none, none] [vI v, vR 22] M
  refine AW.callV (d' := 1) [vI v] [] vm_X3_arrivalAt rfl hX3_73 (okP_d pk_X3_stationBefore 2 2 (.invokevirtual 73) 3 rfl) (by decide) rfl (Nat.le_of_ble_eq_true rfl) ?_
  refine c_X3_arrivalAt v zp0 (by omega) (fun w1 zw1 => ?_)
  change AW ev false 3 t_X3_stationBefore Q 5 [some (vR 22), some (vI v), none, none] [vI w1] M
  refine AW.go pk_X3_stationBefore 3 3 rfl rfl ?_
  refine And.intro (show 2 < mL t_X3_stationBefore from (by decide)) ?_
  refine And.intro (show 3 < mL t_X3_stationBefore from (by decide)) ?_
  change AW ev false 3 t_X3_stationBefore Q 8 [some (vR 22), some (vI v), some (vI w1), some (vI 0)] [] M
  rw [zw1]
  exact lz_before v l zp0 zp1 zp2 zp3 zp4 zp5 zp6 zp7 zQ (M 7 3).toNat 0 (by omega) (by omega) (fun u q0 q1 => by omega)
theorem lz_ga {M : Mem} {a l t v : Int} (zp0 : SInv M) (zp1 : 0 ≤ a ∧ a < M 7 3) (zp4 : 1 ≤ l ∧ l ≤ 6) (zp5 : 0 ≤ t) (zp6 : ArrOK (fun u v s => EE (M 23) (M 21) l u v s) (M 7 3) a t (M 24)) (zv3 : (0 ≤ v ∧ v < M 7 3) ∧ M 24 v ≠ -1) (zv5 : cnt8 (erl (M 7 3) (M 24) v) ≤ 0) : v = a := by
  have zs := zp0.1
  apply Classical.byContradiction
  intro zq
  obtain ⟨u, q0, q1, q2, q3⟩ := zp6.2.2.2 v (by omega) (by omega) zq zv3.2
  have z1 := zp6.2.1 u q0 q1
  have z2 : EE (M 23) (M 21) l u v (M 24 u) = -1 ∨ (M 24 u + 1 ≤ EE (M 23) (M 21) l u v (M 24 u) ∧ EE (M 23) (M 21) l u v (M 24 u) ≤ 72) := (EE_ok (M 23) (M 21) (l := l) (by omega) (M 7 3) u v (M 24 u) q0 q1 (by omega) (by omega) (by omega) (by omega)).1
  have z3 : EE (M 23) (M 21) l u v (M 24 u) = M 24 v := q3
  have z4 := zp6.1
  have z5 := cnt8_pos (p := erl (M 7 3) (M 24) v) (x := a) (by omega) (by omega) ⟨by omega, by omega, by omega⟩
  omega
theorem lz_trace {ev : Ev} {Q : Out → Mem → Prop} {M : Mem}  (a : Int) (b : Int) (l : Int) (t : Int) (zp0 : SInv M) (zp1 : 0 ≤ a ∧ a < M 7 3) (zp2 : 0 ≤ b ∧ b < M 7 3) (zp3 : M 22 7 = l) (zp4 : 1 ≤ l ∧ l ≤ 6) (zp5 : 0 ≤ t) (zp6 : ArrOK (fun u v s => EE (M 23) (M 21) l u v s) (M 7 3) a t (M 24)) (zp7 : ∀ i, 0 ≤ i → i < 576 → -1 ≤ M 21 i ∧ M 21 i < 20) (zp8 : M 24 b ≠ -1) (zQ0 : ∀ (g : Int → Int) (p : Int), RT (M 7 3) a b (fun u v s => EE (M 23) (M 21) l u v s) (M 24) g p → Q (.inl (some (vI p))) (rtM M g)) : ∀ (n : Nat) (p : Int) (g : Int → Int), p = n → (0 ≤ p) → (p ≤ 7) → (g 7 = b) → ((0 ≤ g p ∧ g p < M 7 3) ∧ M 24 (g p) ≠ -1) → (∀ j, p < j → j ≤ 7 → ((0 ≤ g j ∧ g j < M 7 3) ∧ g j ≠ a ∧ M 24 (g j) ≠ -1) ∧ LB (M 7 3) (SBP (fun u v s => EE (M 23) (M 21) l u v s) (M 24) (g j)) (g (j - 1))) → (cnt8 (erl (M 7 3) (M 24) (g p)) ≤ p) → AW ev false 4 t_X3_traceRoute Q 10 [some (vR 22), some (vI a), some (vI b), some (vI p)] [] (rtM M g) := by
  intro n
  induction n with
  | zero =>
    intro p g zn zv0 zv1 zv2 zv3 zv4 zv5
    have zs := zp0.1
    refine AW.go pk_X3_traceRoute 7 19 rfl rfl ?_
    refine And.intro (show Inr p from ⟨by omega, by omega⟩) (And.intro (fun zh1 => ?_) (fun zh1 => ?_))
    · replace zh1 : p ≤ (0 : Int) := zh1
      change AW ev false 4 t_X3_traceRoute Q 48 [some (vR 22), some (vI a), some (vI b), some (vI p)] [] (rtM M g)
      refine AW.go pk_X3_traceRoute 29 2 rfl rfl ?_
      refine And.intro rfl ?_
      first
        | exact zQ0 g p ⟨by omega, zv2, by omega, zv4⟩
        | (have zp0_ : p = 0 := by omega
           rw [zp0_] at zv3 zv4 zv5 ⊢
           exact zQ0 g 0 ⟨by omega, zv2, lz_ga zp0 zp1 zp4 zp5 zp6 zv3 zv5, zv4⟩)
    · replace zh1 : ¬ (p ≤ (0 : Int)) := zh1
      exfalso; omega
  | succ n zih =>
    intro p g zn zv0 zv1 zv2 zv3 zv4 zv5
    have zs := zp0.1
    refine AW.go pk_X3_traceRoute 7 19 rfl rfl ?_
    refine And.intro (show Inr p from ⟨by omega, by omega⟩) (And.intro (fun zh1 => ?_) (fun zh1 => ?_))
    · replace zh1 : p ≤ (0 : Int) := zh1
      exfalso; omega
    · replace zh1 : ¬ (p ≤ (0 : Int)) := zh1
      refine And.intro (show (0 ≤ p ∧ p < 8) from (by omega)) ?_
      refine And.intro (show Inr (g p) ∧ Inr a from ⟨(by have := zv3.1; exact ⟨by omega, by omega⟩), (by have := zv3.1; exact ⟨by omega, by omega⟩)⟩) (And.intro (fun zh2 => ?_) (fun zh2 => ?_))
      · replace zh2 : g p = a := zh2
        change AW ev false 4 t_X3_traceRoute Q 48 [some (vR 22), some (vI a), some (vI b), some (vI p)] [] (rtM M g)
        refine AW.go pk_X3_traceRoute 29 2 rfl rfl ?_
        refine And.intro rfl ?_
        first
          | exact zQ0 g p ⟨by omega, zv2, by omega, zv4⟩
          | (have zp0_ : p = 0 := by omega
             rw [zp0_] at zv3 zv4 zv5 ⊢
             exact zQ0 g 0 ⟨by omega, zv2, lz_ga zp0 zp1 zp4 zp5 zp6 zv3 zv5, zv4⟩)
      · replace zh2 : ¬ (g p = a) := zh2
        refine And.intro (show (0 ≤ p ∧ p < 8) from (by omega)) ?_
        change AW ev false 4 t_X3_traceRoute Q 38 [some (vR 22), some (vI a), some (vI b), some (vI p)] [vI (g p), vR 22, vI (p - 1), vR 25] (rtM M g)
        refine AW.callV (d' := 3) [vI (g p)] [vI (p - 1), vR 25] vm_X3_stationBefore rfl hX3_102 (okP_d pk_X3_traceRoute 25 38 (.invokevirtual 102) 3 rfl) (by decide) rfl (Nat.le_of_ble_eq_true rfl) ?_
        refine c_X3_stationBefore (g p) l zp0 (show 0 ≤ (g p) ∧ (g p) < (M 7 3) from by omega) zp3 (by omega) (show ∀ u, 0 ≤ u → u < M 7 3 → M 24 u = -1 ∨ (0 ≤ M 24 u ∧ M 24 u ≤ 72) from fun u q0 q1 => by have := zp6.2.1 u q0 q1; omega) zp7 (show M 24 (g p) ≠ -1 from zv3.2) (show ∃ u, 0 ≤ u ∧ u < M 7 3 ∧ SBP (fun u v s => EE (M 23) (M 21) l u v s) (M 24) (g p) u from by obtain ⟨u, q0, q1, q2, q3⟩ := zp6.2.2.2 (g p) (by omega) (by omega) (by omega) zv3.2; exact ⟨u, q0, q1, q2, q3⟩) (fun u zu => ?_)
        replace zu : LB (M 7 3) (SBP (fun u v s => EE (M 23) (M 21) l u v s) (M 24) (g p)) u := zu
        have zue : EE (M 23) (M 21) l u (g p) (M 24 u) = M 24 (g p) := zu.2.1.2
        have zub := (EE_ok (M 23) (M 21) (l := l) (by omega) (M 7 3) u (g p) (M 24 u) (by omega) (by omega) (by omega) (by omega) (by have := zp6.2.1 u (by omega) (by omega); have := zu.2.1.1; omega) (by have := zp6.2.1 u (by omega) (by omega); omega)).1
        have zlt : M 24 u < M 24 (g p) := by have z1 : EE (M 23) (M 21) l u (g p) (M 24 u) = -1 ∨ (M 24 u + 1 ≤ EE (M 23) (M 21) l u (g p) (M 24 u) ∧ EE (M 23) (M 21) l u (g p) (M 24 u) ≤ 72) := zub; have := zv3.2; omega
        change AW ev false 4 t_X3_traceRoute Q 41 [some (vR 22), some (vI a), some (vI b), some (vI p)] [vI u, vI (p - 1), vR 25] (rtM M g)
        refine AW.go pk_X3_traceRoute 26 3 rfl rfl ?_
        refine And.intro (show ((0 ≤ p - 1 ∧ p - 1 < 8) ∧ ((0 : Nat) = 0 ∨ u = 0 ∨ u = 1)) from ⟨by omega, Or.inl rfl⟩) ?_
        refine And.intro (show 3 < mL t_X3_traceRoute from (by decide)) ?_
        change AW ev false 4 t_X3_traceRoute Q 10 [some (vR 22), some (vI a), some (vI b), some (vI (p + (-1)))] [] (upM (rtM M g) 25 (p - 1) u)
        exact AW.mem (show (upM (rtM M g) 25 (p - 1) u) = (rtM M (upF g (p - 1) u)) from by exact rt_put M g (p - 1) u) (zih (p + (-1)) (upF g (p - 1) u) (by omega) (by omega) (by omega) (by rw [upF_n g (by omega)]; exact zv2) (by rw [show p + (-1) = p - 1 from by omega, upF_s]; exact ⟨zu.1, zu.2.1.1⟩) (fun j q0 q1 => by
              by_cases zj : j = p
              · subst zj; rw [upF_n g (by omega), upF_s]; exact ⟨⟨zv3.1, by omega, zv3.2⟩, zu⟩
              · rw [upF_n g (by omega), upF_n g (by omega)]; exact zv4 j (by omega) q1) (by rw [show p + (-1) = p - 1 from by omega, upF_s]; have := cnt8_lt (p := erl (M 7 3) (M 24) (g p)) (q := erl (M 7 3) (M 24) u) (x := u) (fun w q0 q1 q2 => ⟨q2.1, q2.2.1, by have := q2.2.2; omega⟩) (by omega) (by omega) ⟨by omega, zu.2.1.1, zlt⟩ (fun q => by have := q.2.2; omega); omega))
theorem c_X3_traceRoute {ev : Ev} {Q : Out → Mem → Prop} {M : Mem}  (a : Int) (b : Int) (l : Int) (t : Int) (zp0 : SInv M) (zp1 : 0 ≤ a ∧ a < M 7 3) (zp2 : 0 ≤ b ∧ b < M 7 3) (zp3 : M 22 7 = l) (zp4 : 1 ≤ l ∧ l ≤ 6) (zp5 : 0 ≤ t) (zp6 : ArrOK (fun u v s => EE (M 23) (M 21) l u v s) (M 7 3) a t (M 24)) (zp7 : ∀ i, 0 ≤ i → i < 576 → -1 ≤ M 21 i ∧ M 21 i < 20) (zp8 : M 24 b ≠ -1) (zQ0 : ∀ (g : Int → Int) (p : Int), RT (M 7 3) a b (fun u v s => EE (M 23) (M 21) l u v s) (M 24) g p → Q (.inl (some (vI p))) (rtM M g)) : AM ev false 4 t_X3_traceRoute [vR 22, vI a, vI b] M Q := by
  have zs := zp0.1
  refine AM.of mt_X3_traceRoute (Nat.le_of_ble_eq_true rfl) ?_
  change AW ev false 4 t_X3_traceRoute Q 0 [some (vR 22), some (vI a), some (vI b), none] [] M
  refine AW.go pk_X3_traceRoute 0 7 rfl rfl ?_
  refine And.intro (show 3 < mL t_X3_traceRoute from (by decide)) ?_
  refine And.intro (show ((0 ≤ (7 : Int) ∧ (7 : Int) < 8) ∧ ((0 : Nat) = 0 ∨ b = 0 ∨ b = 1)) from ⟨by omega, Or.inl rfl⟩) ?_
  change AW ev false 4 t_X3_traceRoute Q 10 [some (vR 22), some (vI a), some (vI b), some (vI 7)] [] (upM M 25 7 b)
  exact AW.mem (rt_0 M b) (lz_trace a b l t zp0 zp1 zp2 zp3 zp4 zp5 zp6 zp7 zp8 zQ0 7 7 (upF (M 25) 7 b) rfl (by omega) (by omega) (upF_s _ _ _) (by rw [upF_s]; exact ⟨zp2, zp8⟩) (fun j q0 q1 => by omega) (by rw [upF_s]; exact cnt8_le7 (x := b) (by omega) (by omega) (fun q => by have := q.2.2; omega)))
