theorem lz_sb {ev : Ev} {Q : Out → Mem → Prop} {M : Mem}  (v : Int) (l : Int) (zp0 : 0 ≤ M 27 2 ∧ M 27 2 ≤ 8) (zp1 : 0 ≤ v ∧ v < M 27 2) (zp2 : 1 ≤ l ∧ l ≤ 6) (zp3 : ∀ u, 0 ≤ u → u < M 27 2 → M 43 u = -1 ∨ (0 ≤ M 43 u ∧ M 43 u ≤ 72)) (zp4 : ∀ i, 0 ≤ i → i < 768 → M 42 i = 0 ∨ M 42 i = 1) (zp5 : ∀ i, 0 ≤ i → i < 576 → -1 ≤ M 41 i ∧ M 41 i < 20) (zp6 : M 43 v ≠ -1) (zp7 : ∃ u, (0 ≤ u ∧ u < M 27 2) ∧ SBP (fun u v s => ER (M 42) (M 41) l u v s) (M 43) v u) (zp8 : ER (M 42) (M 41) l v v (M 43 v) = -1) (u0 : Int) (zu0 : 0 ≤ u0 ∧ u0 < M 27 2) (zu1 : SBP (fun u v s => ER (M 42) (M 41) l u v s) (M 43) v u0) (zQ : ∀ (r : Int), LB (M 27 2) (SBP (fun u v s => ER (M 42) (M 41) l u v s) (M 43) v) r → Q (.inl (some (vI r))) M) : ∀ (n : Nat) (i : Int), i + n = u0 + 1 → 0 ≤ i → (∀ u, 0 ≤ u → u < i → ¬ SBP (fun u v s => ER (M 42) (M 41) l u v s) (M 43) v u) → AW ev false 2 t_X8_stationBefore Q 2 [some (vR 27), some (vI v), some (vI l), some (vI i)] [] M := by
  intro n
  induction n with
  | zero =>
    intro i zn zv0 zv1
    exact absurd zu1 (zv1 u0 zu0.1 (by omega))
  | succ n zih =>
    intro i zn zv0 zv1
    have zfv := zp3 v (by omega) (by omega)
    refine AW.go pk_X8_stationBefore 2 18 rfl rfl ?_
    refine And.intro (show Inr i ∧ Inr v from ⟨⟨by omega, by omega⟩, ⟨by omega, by omega⟩⟩) (And.intro (fun zh1 => ?_) (fun zh1 => ?_))
    · replace zh1 : i = v := zh1
      change AW ev false 2 t_X8_stationBefore Q 58 [some (vR 27), some (vI v), some (vI l), some (vI i)] [] M
      refine AW.go pk_X8_stationBefore 38 2 rfl rfl ?_
      refine And.intro (show 3 < mL t_X8_stationBefore from (by decide)) ?_
      change AW ev false 2 t_X8_stationBefore Q 2 [some (vR 27), some (vI v), some (vI l), some (vI (i + 1))] [] M
      exact zih (i + 1) (by omega) (by omega) (fun u q0 q1 => if zj : u = i then (by subst zj; intro q2; have q3 := q2.1; have q4 : ER (M 42) (M 41) l u v (M 43 u) = M 43 v := q2.2; first | omega | (exfalso; subst_vars; omega)) else zv1 u q0 (by omega))
    · replace zh1 : ¬ (i = v) := zh1
      refine And.intro (show (0 ≤ i ∧ i < 8) from (by omega)) ?_
      have zf2 := zp3 i (by omega) (by omega)
      refine And.intro (show Inr (M 43 i) ∧ Inr (-1) from ⟨⟨by omega, by omega⟩, ⟨by omega, by omega⟩⟩) (And.intro (fun zh3 => ?_) (fun zh3 => ?_))
      · replace zh3 : M 43 i = (-1 : Int) := zh3
        change AW ev false 2 t_X8_stationBefore Q 58 [some (vR 27), some (vI v), some (vI l), some (vI i)] [] M
        refine AW.go pk_X8_stationBefore 38 2 rfl rfl ?_
        refine And.intro (show 3 < mL t_X8_stationBefore from (by decide)) ?_
        change AW ev false 2 t_X8_stationBefore Q 2 [some (vR 27), some (vI v), some (vI l), some (vI (i + 1))] [] M
        exact zih (i + 1) (by omega) (by omega) (fun u q0 q1 => if zj : u = i then (by subst zj; intro q2; have q3 := q2.1; have q4 : ER (M 42) (M 41) l u v (M 43 u) = M 43 v := q2.2; first | omega | (exfalso; subst_vars; omega)) else zv1 u q0 (by omega))
      · replace zh3 : ¬ (M 43 i = (-1 : Int)) := zh3
        refine And.intro (show (0 ≤ i ∧ i < 8) from (by omega)) ?_
        have zf4 := zp3 i (by omega) (by omega)
        change AW ev false 2 t_X8_stationBefore Q 27 [some (vR 27), some (vI v), some (vI l), some (vI i)] [vI (M 43 i), vI l, vI v, vI i, vR 27] M
        refine AW.callV (d' := 1) [vI i, vI v, vI l, vI (M 43 i)] [] vm_X8_beginOf rfl hX8_177 (okP_d pk_X8_stationBefore 19 27 (.invokevirtual 177) 3 rfl) (by decide) rfl (Nat.le_of_ble_eq_true rfl) ?_
        refine c_X8_beginOf i v l (M 43 i) (by omega) (by omega) (by omega) (by omega) zp4 zp5 (fun w1 zw1 => ?_)
        replace zw1 : w1 = bgE (ER (M 42) (M 41) l i v (M 43 i)) l ∧ (w1 = -1 ∨ (M 43 i ≤ w1 ∧ w1 + l ≤ 72)) := zw1
        have zbe : ER (M 42) (M 41) l i v (M 43 i) = -1 ∨ (M 43 i + l ≤ ER (M 42) (M 41) l i v (M 43 i) ∧ ER (M 42) (M 41) l i v (M 43 i) ≤ 72) := eeT_len _ (l := l) (by omega) (s := M 43 i) (by omega) (by omega)
        have zev : (w1 = -1 ↔ ER (M 42) (M 41) l i v (M 43 i) = -1) ∧ (w1 ≠ -1 → w1 + l = ER (M 42) (M 41) l i v (M 43 i)) := by
          rw [zw1.1]; unfold bgE; split <;> constructor <;> (try constructor) <;> intros <;> omega
        change AW ev false 2 t_X8_stationBefore Q 30 [some (vR 27), some (vI v), some (vI l), some (vI i)] [vI w1] M
        refine AW.go pk_X8_stationBefore 20 11 rfl rfl ?_
        refine And.intro (show Inr w1 ∧ Inr (-1) from ⟨⟨by omega, by omega⟩, ⟨by omega, by omega⟩⟩) (And.intro (fun zh5 => ?_) (fun zh5 => ?_))
        · replace zh5 : w1 = (-1 : Int) := zh5
          change AW ev false 2 t_X8_stationBefore Q 58 [some (vR 27), some (vI v), some (vI l), some (vI i)] [] M
          refine AW.go pk_X8_stationBefore 38 2 rfl rfl ?_
          refine And.intro (show 3 < mL t_X8_stationBefore from (by decide)) ?_
          change AW ev false 2 t_X8_stationBefore Q 2 [some (vR 27), some (vI v), some (vI l), some (vI (i + 1))] [] M
          exact zih (i + 1) (by omega) (by omega) (fun u q0 q1 => if zj : u = i then (by subst zj; intro q2; have q3 := q2.1; have q4 : ER (M 42) (M 41) l u v (M 43 u) = M 43 v := q2.2; first | omega | (exfalso; subst_vars; omega)) else zv1 u q0 (by omega))
        · replace zh5 : ¬ (w1 = (-1 : Int)) := zh5
          refine And.intro (show (0 ≤ i ∧ i < 8) from (by omega)) ?_
          have zf6 := zp3 i (by omega) (by omega)
          change AW ev false 2 t_X8_stationBefore Q 44 [some (vR 27), some (vI v), some (vI l), some (vI i)] [vI (M 43 i), vI l, vI v, vI i, vR 27] M
          refine AW.callV (d' := 1) [vI i, vI v, vI l, vI (M 43 i)] [] vm_X8_beginOf rfl hX8_177 (okP_d pk_X8_stationBefore 30 44 (.invokevirtual 177) 3 rfl) (by decide) rfl (Nat.le_of_ble_eq_true rfl) ?_
          refine c_X8_beginOf i v l (M 43 i) (by omega) (by omega) (by omega) (by omega) zp4 zp5 (fun w2 zw2 => ?_)
          replace zw2 : w2 = bgE (ER (M 42) (M 41) l i v (M 43 i)) l ∧ (w2 = -1 ∨ (M 43 i ≤ w2 ∧ w2 + l ≤ 72)) := zw2
          have zbe : ER (M 42) (M 41) l i v (M 43 i) = -1 ∨ (M 43 i + l ≤ ER (M 42) (M 41) l i v (M 43 i) ∧ ER (M 42) (M 41) l i v (M 43 i) ≤ 72) := eeT_len _ (l := l) (by omega) (s := M 43 i) (by omega) (by omega)
          have zev : (w2 = -1 ↔ ER (M 42) (M 41) l i v (M 43 i) = -1) ∧ (w2 ≠ -1 → w2 + l = ER (M 42) (M 41) l i v (M 43 i)) := by
            rw [zw2.1]; unfold bgE; split <;> constructor <;> (try constructor) <;> intros <;> omega
          change AW ev false 2 t_X8_stationBefore Q 47 [some (vR 27), some (vI v), some (vI l), some (vI i)] [vI w2] M
          refine AW.go pk_X8_stationBefore 31 9 rfl rfl ?_
          refine And.intro (show (0 ≤ v ∧ v < 8) from (by omega)) ?_
          have zf7 := zp3 v (by omega) (by omega)
          refine And.intro (show Inr (w2 + l) ∧ Inr (M 43 v) from ⟨⟨by omega, by omega⟩, ⟨by omega, by omega⟩⟩) (And.intro (fun zh8 => ?_) (fun zh8 => ?_))
          · replace zh8 : w2 + l = M 43 v := zh8
            change AW ev false 2 t_X8_stationBefore Q 64 [some (vR 27), some (vI v), some (vI l), some (vI i)] [] M
            refine AW.go pk_X8_stationBefore 40 2 rfl rfl ?_
            refine And.intro rfl ?_
            exact zQ i ⟨by omega, ⟨by omega, show ER (M 42) (M 41) l i v (M 43 i) = M 43 v from by omega⟩, zv1⟩
          · replace zh8 : ¬ (w2 + l = M 43 v) := zh8
            refine And.intro (show 3 < mL t_X8_stationBefore from (by decide)) ?_
            change AW ev false 2 t_X8_stationBefore Q 2 [some (vR 27), some (vI v), some (vI l), some (vI (i + 1))] [] M
            exact zih (i + 1) (by omega) (by omega) (fun u q0 q1 => if zj : u = i then (by subst zj; intro q2; have q3 := q2.1; have q4 : ER (M 42) (M 41) l u v (M 43 u) = M 43 v := q2.2; first | omega | (exfalso; subst_vars; omega)) else zv1 u q0 (by omega))
theorem c_X8_stationBefore {ev : Ev} {Q : Out → Mem → Prop} {M : Mem}  (v : Int) (l : Int) (zp0 : 0 ≤ M 27 2 ∧ M 27 2 ≤ 8) (zp1 : 0 ≤ v ∧ v < M 27 2) (zp2 : 1 ≤ l ∧ l ≤ 6) (zp3 : ∀ u, 0 ≤ u → u < M 27 2 → M 43 u = -1 ∨ (0 ≤ M 43 u ∧ M 43 u ≤ 72)) (zp4 : ∀ i, 0 ≤ i → i < 768 → M 42 i = 0 ∨ M 42 i = 1) (zp5 : ∀ i, 0 ≤ i → i < 576 → -1 ≤ M 41 i ∧ M 41 i < 20) (zp6 : M 43 v ≠ -1) (zp7 : ∃ u, (0 ≤ u ∧ u < M 27 2) ∧ SBP (fun u v s => ER (M 42) (M 41) l u v s) (M 43) v u) (zp8 : ER (M 42) (M 41) l v v (M 43 v) = -1) (zQ : ∀ (r : Int), LB (M 27 2) (SBP (fun u v s => ER (M 42) (M 41) l u v s) (M 43) v) r → Q (.inl (some (vI r))) M) : AM ev false 2 t_X8_stationBefore [vR 27, vI v, vI l] M Q := by
  refine AM.of mt_X8_stationBefore (Nat.le_of_ble_eq_true rfl) ?_
  change AW ev false 2 t_X8_stationBefore Q 0 [some (vR 27), some (vI v), some (vI l), none] [] M
  refine AW.go pk_X8_stationBefore 0 2 rfl rfl ?_
  refine And.intro (show 3 < mL t_X8_stationBefore from (by decide)) ?_
  change AW ev false 2 t_X8_stationBefore Q 2 [some (vR 27), some (vI v), some (vI l), some (vI 0)] [] M
  obtain ⟨u0, zu0, zu1⟩ := zp7
  exact lz_sb v l zp0 zp1 zp2 zp3 zp4 zp5 zp6 ⟨u0, zu0, zu1⟩ zp8 u0 zu0 zu1 zQ (u0 + 1).toNat 0 (by omega) (by omega) (fun u q0 q1 => by omega)
theorem lz_way {ev : Ev} {Q : Out → Mem → Prop} {M : Mem}  (a : Int) (b : Int) (l : Int) (t : Int) (zp0 : TJ M) (zp1 : SJ M) (zp2 : KJ M) (zp3 : GJ M) (zp4 : 0 ≤ a ∧ a < M 27 2) (zp5 : 0 ≤ b ∧ b < M 27 2) (zp6 : a ≠ b) (zp7 : 1 ≤ l ∧ l ≤ 6) (zp8 : 0 ≤ t ∧ t ≤ 71) (zp9 : M 27 11 < 20) (f : Int → Int) (zac : ArrOK (ERm M l) (M 27 2) a t f) (zfb : f b ≠ -1) : ∀ (n : Nat) (p : Int) (g : Int → Int), p + n = 7 → (0 ≤ p) → (p ≤ 7) → (g 0 = b) → ((0 ≤ g p ∧ g p < M 27 2) ∧ f (g p) ≠ -1) → (∀ j, 0 ≤ j → j < p → ((0 ≤ g j ∧ g j < M 27 2) ∧ g j ≠ a ∧ f (g j) ≠ -1) ∧ LB (M 27 2) (SBP (ERm M l) f (g j)) (g (j + 1))) → (cnt8 (erl (M 27 2) f (g p)) ≤ 7 - p) → (∀ (g2 : Int → Int) (p2 : Int), RW (M 27 2) a b (ERm M l) f g2 p2 → AW ev false 7 t_X8_sends Q 68 [some (vR 27), some (vI a), some (vI b), some (vI l), some (vI t), some (vI p2), none, none, none, none] [] (wyM (avM (layM M) f) g2)) → AW ev false 7 t_X8_sends Q 30 [some (vR 27), some (vI a), some (vI b), some (vI l), some (vI t), some (vI p), none, none, none, none] [] (wyM (avM (layM M) f) g) := by
  intro n
  induction n with
  | zero =>
    intro p g zn zv0 zv1 zv2 zv3 zv4 zv5 zv6
    have zs := zp1.1
    have zga : g p = a := ga_8 (ER_ok (layM M 42) (layM M 41) (by omega) _) (by omega) (by omega) (by omega) zac zv3 (by omega)
    refine AW.go pk_X8_sends 20 18 rfl rfl ?_
    refine And.intro (show (0 ≤ p ∧ p < 8) from (by omega)) ?_
    refine And.intro (show Inr (g p) ∧ Inr a from ⟨(by have := zv3.1; exact ⟨by omega, by omega⟩), (by have := zv3.1; exact ⟨by omega, by omega⟩)⟩) (And.intro (fun zh1 => ?_) (fun zh1 => ?_))
    · replace zh1 : g p = a := zh1
      change AW ev false 7 t_X8_sends Q 68 [some (vR 27), some (vI a), some (vI b), some (vI l), some (vI t), some (vI p), none, none, none, none] [] (wyM (avM (layM M) f) g)
      exact zv6 g p ⟨⟨zv0, zv1⟩, zv2, by omega, zv4⟩
    · replace zh1 : ¬ (g p = a) := zh1
      exfalso; omega
  | succ n zih =>
    intro p g zn zv0 zv1 zv2 zv3 zv4 zv5 zv6
    have zs := zp1.1
    refine AW.go pk_X8_sends 20 18 rfl rfl ?_
    refine And.intro (show (0 ≤ p ∧ p < 8) from (by omega)) ?_
    refine And.intro (show Inr (g p) ∧ Inr a from ⟨(by have := zv3.1; exact ⟨by omega, by omega⟩), (by have := zv3.1; exact ⟨by omega, by omega⟩)⟩) (And.intro (fun zh1 => ?_) (fun zh1 => ?_))
    · replace zh1 : g p = a := zh1
      change AW ev false 7 t_X8_sends Q 68 [some (vR 27), some (vI a), some (vI b), some (vI l), some (vI t), some (vI p), none, none, none, none] [] (wyM (avM (layM M) f) g)
      exact zv6 g p ⟨⟨zv0, zv1⟩, zv2, by omega, zv4⟩
    · replace zh1 : ¬ (g p = a) := zh1
      refine And.intro (show (0 ≤ p ∧ p < 8) from (by omega)) ?_
      change AW ev false 7 t_X8_sends Q 58 [some (vR 27), some (vI a), some (vI b), some (vI l), some (vI t), some (vI p), none, none, none, none] [vI l, vI (g p), vR 27, vI (p + 1), vR 44] (wyM (avM (layM M) f) g)
      refine AW.callV (d' := 2) [vI (g p), vI l] [vI (p + 1), vR 44] vm_X8_stationBefore rfl hX8_184 (okP_d pk_X8_sends 37 58 (.invokevirtual 184) 3 rfl) (by decide) rfl (Nat.le_of_ble_eq_true rfl) ?_
      refine c_X8_stationBefore (g p) l zs zv3.1 zp7 (show ∀ u, 0 ≤ u → u < M 27 2 → f u = -1 ∨ (0 ≤ f u ∧ f u ≤ 72) from fun u q0 q1 => by have := zac.2.1 u q0 q1; omega) (fun i q0 q1 => by show layM M 42 i = 0 ∨ layM M 42 i = 1; rw [lay42 M q0 q1]; exact gvR_01 M i) (fun i q0 q1 => ltA_bd zp3.1 q0 q1) zv3.2 (show ∃ u, (0 ≤ u ∧ u < M 27 2) ∧ SBP (ERm M l) f (g p) u from by obtain ⟨u, q0, q1, q2, q3⟩ := zac.2.2.2 (g p) (by omega) (by omega) (by omega) zv3.2; exact ⟨u, ⟨q0, q1⟩, q2, q3⟩) (lay_dg (by omega) (by omega) (by omega) (show 0 ≤ f (g p) from by have := zac.2.1 (g p) (by omega) (by omega); have := zv3.2; omega)) (fun u zu => ?_)
      replace zu : LB (M 27 2) (SBP (ERm M l) f (g p)) u := zu
      have zue : (ERm M l) u (g p) (f u) = f (g p) := zu.2.1.2
      have zuf := zac.2.1 u (by omega) (by omega)
      have zub := (ER_ok (layM M 42) (layM M 41) (l := l) (by omega) (M 27 2) u (g p) (f u) (by omega) (by omega) (by omega) (by omega) (by have := zu.2.1.1; omega) (by omega)).1
      have zlt : f u < f (g p) := by
        have z1 : (ERm M l) u (g p) (f u) = -1 ∨ (f u + 1 ≤ (ERm M l) u (g p) (f u) ∧ (ERm M l) u (g p) (f u) ≤ 72) := zub
        have := zv3.2
        omega
      change AW ev false 7 t_X8_sends Q 61 [some (vR 27), some (vI a), some (vI b), some (vI l), some (vI t), some (vI p), none, none, none, none] [vI u, vI (p + 1), vR 44] (wyM (avM (layM M) f) g)
      refine AW.go pk_X8_sends 38 3 rfl rfl ?_
      refine And.intro (show ((0 ≤ p + 1 ∧ p + 1 < 8) ∧ ((0 : Nat) = 0 ∨ u = 0 ∨ u = 1)) from ⟨by omega, Or.inl rfl⟩) ?_
      refine And.intro (show 5 < mL t_X8_sends from (by decide)) ?_
      change AW ev false 7 t_X8_sends Q 30 [some (vR 27), some (vI a), some (vI b), some (vI l), some (vI t), some (vI (p + 1)), none, none, none, none] [] (upM (wyM (avM (layM M) f) g) 44 (p + 1) u)
      exact AW.mem (show (upM (wyM (avM (layM M) f) g) 44 (p + 1) u) = (wyM (avM (layM M) f) (upF g (p + 1) u)) from by exact wy_put _ g (p + 1) u) (zih (p + 1) (upF g (p + 1) u) (by omega) (by omega) (by omega) (by rw [upF_n g (by omega)]; exact zv2) (by rw [upF_s]; exact ⟨zu.1, zu.2.1.1⟩) (fun j q0 q1 => by
            by_cases zj : j = p
            · subst zj; rw [upF_n g (by omega), upF_s]; exact ⟨⟨zv3.1, by omega, zv3.2⟩, zu⟩
            · rw [upF_n g (by omega), upF_n g (by omega)]; exact zv4 j q0 (by omega)) (by rw [upF_s]; have := cnt8_lt (p := erl (M 27 2) f (g p)) (q := erl (M 27 2) f u) (x := u) (fun w q0 q1 q2 => ⟨q2.1, q2.2.1, by have := q2.2.2; omega⟩) (by omega) (by omega) ⟨by omega, zu.2.1.1, zlt⟩ (fun q => by have := q.2.2; omega); omega) zv6)
theorem lz_hops {ev : Ev} {Q : Out → Mem → Prop} {M : Mem}  (a : Int) (b : Int) (l : Int) (t : Int) (zp0 : TJ M) (zp1 : SJ M) (zp2 : KJ M) (zp3 : GJ M) (zp4 : 0 ≤ a ∧ a < M 27 2) (zp5 : 0 ≤ b ∧ b < M 27 2) (zp6 : a ≠ b) (zp7 : 1 ≤ l ∧ l ≤ 6) (zp8 : 0 ≤ t ∧ t ≤ 71) (zp9 : M 27 11 < 20) (f : Int → Int) (zac : ArrOK (ERm M l) (M 27 2) a t f) (zfb : f b ≠ -1) (g : Int → Int) (p : Int) (zrw : RW (M 27 2) a b (ERm M l) f g p) (zQ : ∀ (r : Int) (M' : Mem), PostS M a b l t r M' → Q (.inl (some (vI r))) M') : ∀ (n : Nat) (k : Int), k + n = p → (0 ≤ k) → AW ev false 7 t_X8_sends Q 160 [some (vR 27), some (vI a), some (vI b), some (vI l), some (vI t), some (vI p), some (vI (M 27 11)), some (vI k), none, none] [] (hoM (snM (wyM (avM (layM M) f) g) (M 27 11) a b l t (f b) p) (M 27 11) g f l p k) := by
  intro n
  induction n with
  | zero =>
    intro k zn zv0
    have zs := zp1.1
    have zg := zp3.1
    have zpp := zrw.1
    have zat := fun (q : k < p) => RW.at (l := l) zac zrw (by omega) (fun u v s s0 s1 => eeT_len _ (by omega) s0 s1) (j := p - k - 1) (by omega) (by omega)
    rw [show p - k - 1 + 1 = p - k from by omega] at zat
    refine AW.go pk_X8_sends 101 63 rfl rfl ?_
    refine And.intro (show Inr k ∧ Inr p from ⟨⟨by omega, by omega⟩, ⟨by omega, by omega⟩⟩) (And.intro (fun zh1 => ?_) (fun zh1 => ?_))
    · replace zh1 : p ≤ k := zh1
      change AW ev false 7 t_X8_sends Q 268 [some (vR 27), some (vI a), some (vI b), some (vI l), some (vI t), some (vI p), some (vI (M 27 11)), some (vI k), none, none] [] (hoM (snM (wyM (avM (layM M) f) g) (M 27 11) a b l t (f b) p) (M 27 11) g f l p k)
      refine AW.go pk_X8_sends 167 8 rfl rfl ?_
      refine And.intro rfl ?_
      refine And.intro (show ((1 : Int) = 0 ∨ (1 : Int) = 1) from (by omega)) ?_
      exact zQ 1 _ (Or.inr ⟨f, g, p, ⟨zac, zfb, zrw⟩, rfl, show (upM (hoM (snM (wyM (avM (layM M) f) g) (M 27 11) a b l t (f b) p) (M 27 11) g f l p k) 27 11 ((M 27 11) + 1)) = sntM M a b l t f g p from by rw [show k = p from by omega]; rfl⟩)
    · replace zh1 : ¬ (p ≤ k) := zh1
      exfalso; omega
  | succ n zih =>
    intro k zn zv0
    have zs := zp1.1
    have zg := zp3.1
    have zpp := zrw.1
    have zat := fun (q : k < p) => RW.at (l := l) zac zrw (by omega) (fun u v s s0 s1 => eeT_len _ (by omega) s0 s1) (j := p - k - 1) (by omega) (by omega)
    rw [show p - k - 1 + 1 = p - k from by omega] at zat
    refine AW.go pk_X8_sends 101 63 rfl rfl ?_
    refine And.intro (show Inr k ∧ Inr p from ⟨⟨by omega, by omega⟩, ⟨by omega, by omega⟩⟩) (And.intro (fun zh1 => ?_) (fun zh1 => ?_))
    · replace zh1 : p ≤ k := zh1
      exfalso; omega
    · replace zh1 : ¬ (p ≤ k) := zh1
      replace zat := zat (by omega)
      refine And.intro (show (0 ≤ p - k ∧ p - k < 8) from (by omega)) ?_
      refine And.intro (show 8 < mL t_X8_sends from (by decide)) ?_
      refine And.intro (show (0 ≤ (p - k) - 1 ∧ (p - k) - 1 < 8) from (by omega)) ?_
      refine And.intro (show 9 < mL t_X8_sends from (by decide)) ?_
      refine And.intro (show ((0 ≤ (21 * (M 27 11)) + (3 * k) ∧ (21 * (M 27 11)) + (3 * k) < 420) ∧ ((0 : Nat) = 0 ∨ g (p - k) = 0 ∨ g (p - k) = 1)) from ⟨by omega, Or.inl rfl⟩) ?_
      refine And.intro (show ((0 ≤ ((21 * (M 27 11)) + (3 * k)) + 1 ∧ ((21 * (M 27 11)) + (3 * k)) + 1 < 420) ∧ ((0 : Nat) = 0 ∨ g ((p - k) - 1) = 0 ∨ g ((p - k) - 1) = 1)) from ⟨by omega, Or.inl rfl⟩) ?_
      refine And.intro (show (0 ≤ g (p - k) ∧ g (p - k) < 8) from (by omega)) ?_
      change AW ev false 7 t_X8_sends Q 258 [some (vR 27), some (vI a), some (vI b), some (vI l), some (vI t), some (vI p), some (vI (M 27 11)), some (vI k), some (vI (g (p - k))), some (vI (g ((p - k) - 1)))] [vI (f (g (p - k))), vI l, vI (g ((p - k) - 1)), vI (g (p - k)), vR 27, vI (((21 * (M 27 11)) + (3 * k)) + 2), vR 37] (upM (upM (hoM (snM (wyM (avM (layM M) f) g) (M 27 11) a b l t (f b) p) (M 27 11) g f l p k) 37 ((21 * (M 27 11)) + (3 * k)) (g (p - k))) 37 (((21 * (M 27 11)) + (3 * k)) + 1) (g ((p - k) - 1)))
      refine AW.callV (d' := 1) [vI (g (p - k)), vI (g ((p - k) - 1)), vI l, vI (f (g (p - k)))] [vI (((21 * (M 27 11)) + (3 * k)) + 2), vR 37] vm_X8_beginOf rfl hX8_177 (okP_d pk_X8_sends 163 258 (.invokevirtual 177) 3 rfl) (by decide) rfl (Nat.le_of_ble_eq_true rfl) ?_
      refine c_X8_beginOf (g (p - k)) (g ((p - k) - 1)) l (f (g (p - k))) (by omega) (by omega) (by omega) (by omega) (fun i q0 q1 => by show layM M 42 i = 0 ∨ layM M 42 i = 1; rw [lay42 M q0 q1]; exact gvR_01 M i) (fun i q0 q1 => ltA_bd zp3.1 q0 q1) (fun w1 zw1 => ?_)
      replace zw1 : w1 = bgE ((ERm M l) (g (p - k)) (g (p - k - 1)) (f (g (p - k)))) l ∧ _ := zw1
      have zwv : w1 = f (g (p - k - 1)) - l := by rw [zw1.1, zat.2.2.1.2]; unfold bgE; rw [if_neg zat.2.2.2.1]
      change AW ev false 7 t_X8_sends Q 261 [some (vR 27), some (vI a), some (vI b), some (vI l), some (vI t), some (vI p), some (vI (M 27 11)), some (vI k), some (vI (g (p - k))), some (vI (g ((p - k) - 1)))] [vI w1, vI (((21 * (M 27 11)) + (3 * k)) + 2), vR 37] (upM (upM (hoM (snM (wyM (avM (layM M) f) g) (M 27 11) a b l t (f b) p) (M 27 11) g f l p k) 37 ((21 * (M 27 11)) + (3 * k)) (g (p - k))) 37 (((21 * (M 27 11)) + (3 * k)) + 1) (g ((p - k) - 1)))
      refine AW.go pk_X8_sends 164 3 rfl rfl ?_
      refine And.intro (show ((0 ≤ ((21 * (M 27 11)) + (3 * k)) + 2 ∧ ((21 * (M 27 11)) + (3 * k)) + 2 < 420) ∧ ((0 : Nat) = 0 ∨ w1 = 0 ∨ w1 = 1)) from ⟨by omega, Or.inl rfl⟩) ?_
      refine And.intro (show 7 < mL t_X8_sends from (by decide)) ?_
      change AW ev false 7 t_X8_sends Q 160 [some (vR 27), some (vI a), some (vI b), some (vI l), some (vI t), some (vI p), some (vI (M 27 11)), some (vI (k + 1)), some (vI (g (p - k))), some (vI (g ((p - k) - 1)))] [] (upM (upM (upM (hoM (snM (wyM (avM (layM M) f) g) (M 27 11) a b l t (f b) p) (M 27 11) g f l p k) 37 ((21 * (M 27 11)) + (3 * k)) (g (p - k))) 37 (((21 * (M 27 11)) + (3 * k)) + 1) (g ((p - k) - 1))) 37 (((21 * (M 27 11)) + (3 * k)) + 2) w1)
      refine AW.sub [some (vR 27), some (vI a), some (vI b), some (vI l), some (vI t), some (vI p), some (vI (M 27 11)), some (vI (k + 1)), none, none] (by simp [lsub]) ?_
      exact AW.mem (show (upM (upM (upM (hoM (snM (wyM (avM (layM M) f) g) (M 27 11) a b l t (f b) p) (M 27 11) g f l p k) 37 ((21 * (M 27 11)) + (3 * k)) (g (p - k))) 37 (((21 * (M 27 11)) + (3 * k)) + 1) (g ((p - k) - 1))) 37 (((21 * (M 27 11)) + (3 * k)) + 2) w1) = (hoM (snM (wyM (avM (layM M) f) g) (M 27 11) a b l t (f b) p) (M 27 11) g f l p (k + 1)) from by exact ho_s (by omega) rfl rfl zwv) (zih (k + 1) (by omega) (by omega))
theorem c_X8_sends {ev : Ev} {Q : Out → Mem → Prop} {M : Mem}  (a : Int) (b : Int) (l : Int) (t : Int) (zp0 : TJ M) (zp1 : SJ M) (zp2 : KJ M) (zp3 : GJ M) (zp4 : 0 ≤ a ∧ a < M 27 2) (zp5 : 0 ≤ b ∧ b < M 27 2) (zp6 : a ≠ b) (zp7 : 1 ≤ l ∧ l ≤ 6) (zp8 : 0 ≤ t ∧ t ≤ 71) (zp9 : M 27 11 < 20) (zQ : ∀ (r : Int) (M' : Mem), PostS M a b l t r M' → Q (.inl (some (vI r))) M') : AM ev false 7 t_X8_sends [vR 27, vI a, vI b, vI l, vI t] M Q := by
  have zs := zp1.1
  have zg := zp3.1
  refine AM.of mt_X8_sends (Nat.le_of_ble_eq_true rfl) ?_
  change AW ev false 7 t_X8_sends Q 0 [some (vR 27), some (vI a), some (vI b), some (vI l), some (vI t), none, none, none, none, none] [] M
  refine AW.go pk_X8_sends 0 5 rfl rfl ?_
  change AW ev false 7 t_X8_sends Q 5 [some (vR 27), some (vI a), some (vI b), some (vI l), some (vI t), none, none, none, none, none] [vI t, vI l, vI a, vR 27] M
  refine AW.callV (d' := 6) [vI a, vI l, vI t] [] vm_X8_layArrivals rfl hX8_180 (okP_d pk_X8_sends 4 5 (.invokevirtual 180) 3 rfl) (by decide) rfl (Nat.le_of_ble_eq_true rfl) ?_
  refine c_X8_layArrivals a l t zp0 zp1 zp2 zp3 zp4 (by omega) (by omega) (fun f zc2 => ?_)
  · replace zc2 : ArrOK (ERm M l) (M 27 2) a t f := zc2
    have zac : ArrOK (ERm M l) (M 27 2) a t f := zc2
    have zfbb := zac.2.1 b (by omega) (by omega)
    change AW ev false 7 t_X8_sends Q 8 [some (vR 27), some (vI a), some (vI b), some (vI l), some (vI t), none, none, none, none, none] [] (avM (layM M) f)
    refine AW.go pk_X8_sends 5 8 rfl rfl ?_
    refine And.intro (show (0 ≤ b ∧ b < 8) from (by omega)) ?_
    refine And.intro (show Inr (f b) ∧ Inr (-1) from ⟨⟨by omega, by omega⟩, ⟨by omega, by omega⟩⟩) (And.intro (fun zh3 => ?_) (fun zh3 => ?_))
    · replace zh3 : f b ≠ (-1 : Int) := zh3
      change AW ev false 7 t_X8_sends Q 20 [some (vR 27), some (vI a), some (vI b), some (vI l), some (vI t), none, none, none, none, none] [] (avM (layM M) f)
      refine AW.go pk_X8_sends 13 7 rfl rfl ?_
      refine And.intro (show 5 < mL t_X8_sends from (by decide)) ?_
      refine And.intro (show ((0 ≤ (0 : Int) ∧ (0 : Int) < 8) ∧ ((0 : Nat) = 0 ∨ b = 0 ∨ b = 1)) from ⟨by omega, Or.inl rfl⟩) ?_
      change AW ev false 7 t_X8_sends Q 30 [some (vR 27), some (vI a), some (vI b), some (vI l), some (vI t), some (vI 0), none, none, none, none] [] (upM (avM (layM M) f) 44 0 b)
      refine AW.mem (wy_0 _ b) (lz_way a b l t zp0 zp1 zp2 zp3 zp4 zp5 zp6 zp7 zp8 zp9 f zac (by omega) 7 0 (upF (M 44) 0 b) rfl (by omega) (by omega) (upF_s _ _ _) (by rw [upF_s]; exact ⟨by omega, by omega⟩) (fun j q0 q1 => by omega) (by rw [upF_s]; exact cnt8_le7 (x := b) (by omega) (by omega) (fun q => by have := q.2.2; omega)) (fun g p zrw => ?_))
      have zpp := zrw.1
      change AW ev false 7 t_X8_sends Q 68 [some (vR 27), some (vI a), some (vI b), some (vI l), some (vI t), some (vI p), none, none, none, none] [] (wyM (avM (layM M) f) g)
      refine AW.go pk_X8_sends 41 60 rfl rfl ?_
      refine And.intro (show 6 < mL t_X8_sends from (by decide)) ?_
      refine And.intro (show ((0 ≤ 6 * (M 27 11) ∧ 6 * (M 27 11) < 120) ∧ ((0 : Nat) = 0 ∨ a = 0 ∨ a = 1)) from ⟨by omega, Or.inl rfl⟩) ?_
      refine And.intro (show ((0 ≤ (6 * (M 27 11)) + 1 ∧ (6 * (M 27 11)) + 1 < 120) ∧ ((0 : Nat) = 0 ∨ b = 0 ∨ b = 1)) from ⟨by omega, Or.inl rfl⟩) ?_
      refine And.intro (show ((0 ≤ (6 * (M 27 11)) + 2 ∧ (6 * (M 27 11)) + 2 < 120) ∧ ((0 : Nat) = 0 ∨ l = 0 ∨ l = 1)) from ⟨by omega, Or.inl rfl⟩) ?_
      refine And.intro (show ((0 ≤ (6 * (M 27 11)) + 3 ∧ (6 * (M 27 11)) + 3 < 120) ∧ ((0 : Nat) = 0 ∨ t = 0 ∨ t = 1)) from ⟨by omega, Or.inl rfl⟩) ?_
      refine And.intro (show (0 ≤ b ∧ b < 8) from (by omega)) ?_
      refine And.intro (show ((0 ≤ (6 * (M 27 11)) + 4 ∧ (6 * (M 27 11)) + 4 < 120) ∧ ((0 : Nat) = 0 ∨ f b = 0 ∨ f b = 1)) from ⟨by omega, Or.inl rfl⟩) ?_
      refine And.intro (show ((0 ≤ (6 * (M 27 11)) + 5 ∧ (6 * (M 27 11)) + 5 < 120) ∧ ((0 : Nat) = 0 ∨ p = 0 ∨ p = 1)) from ⟨by omega, Or.inl rfl⟩) ?_
      refine And.intro (show 7 < mL t_X8_sends from (by decide)) ?_
      change AW ev false 7 t_X8_sends Q 160 [some (vR 27), some (vI a), some (vI b), some (vI l), some (vI t), some (vI p), some (vI (M 27 11)), some (vI 0), none, none] [] (upM (upM (upM (upM (upM (upM (wyM (avM (layM M) f) g) 36 (6 * (M 27 11)) a) 36 ((6 * (M 27 11)) + 1) b) 36 ((6 * (M 27 11)) + 2) l) 36 ((6 * (M 27 11)) + 3) t) 36 ((6 * (M 27 11)) + 4) (f b)) 36 ((6 * (M 27 11)) + 5) p)
      refine AW.mem (show (upM (upM (upM (upM (upM (upM (wyM (avM (layM M) f) g) 36 (6 * (M 27 11)) a) 36 ((6 * (M 27 11)) + 1) b) 36 ((6 * (M 27 11)) + 2) l) 36 ((6 * (M 27 11)) + 3) t) 36 ((6 * (M 27 11)) + 4) (f b)) 36 ((6 * (M 27 11)) + 5) p) = (hoM (snM (wyM (avM (layM M) f) g) (M 27 11) a b l t (f b) p) (M 27 11) g f l p 0) from (ho_0 _ (M 27 11) g f l p)) ?_
      exact lz_hops a b l t zp0 zp1 zp2 zp3 zp4 zp5 zp6 zp7 zp8 zp9 f zac (by omega) g p zrw zQ p.toNat 0 (by omega) (by omega)
    · replace zh3 : ¬ (f b ≠ (-1 : Int)) := zh3
      refine And.intro rfl ?_
      refine And.intro (show ((0 : Int) = 0 ∨ (0 : Int) = 1) from (by omega)) ?_
      exact zQ 0 _ (Or.inl ⟨f, ⟨zac, by omega⟩, rfl, rfl⟩)
theorem c_X8_send {ev : Ev} {Q : Out → Mem → Prop} {M : Mem}  (a : Int) (b : Int) (l : Int) (t : Int) (zp0 : TJ M) (zp1 : SJ M) (zp2 : KJ M) (zp3 : GJ M) (zp4 : -2147483648 ≤ a ∧ a < 2147483648) (zp5 : -2147483648 ≤ b ∧ b < 2147483648) (zp6 : -2147483648 ≤ l ∧ l < 2147483648) (zp7 : -2147483648 ≤ t ∧ t < 2147483648) (zQ0 : ∀ (s : Int) (Y : Mem), (((0 ≤ a ∧ a < M 27 2) ∧ 0 ≤ b ∧ b < M 27 2) ∧ a ≠ b ∧ ((1 ≤ l ∧ l ≤ 6) ∧ 0 ≤ t ∧ t ≤ 71) ∧ M 27 11 < 20) ∧ PostS (upM M 27 0 0) a b l t s Y → Q (.inl (some (vI (if s = 1 then Y 36 (6 * Y 27 11 - 2) else -1)))) Y) (zQ1 : ¬ ((0 ≤ a ∧ a < M 27 2) ∧ 0 ≤ b ∧ b < M 27 2) → Q (.inl (some (vI 0))) (upM M 27 0 1)) (zQ2 : ((0 ≤ a ∧ a < M 27 2) ∧ 0 ≤ b ∧ b < M 27 2) ∧ ¬ (a ≠ b ∧ (1 ≤ l ∧ l ≤ 6) ∧ 0 ≤ t ∧ t ≤ 71) → Q (.inl (some (vI 0))) (upM M 27 0 2)) (zQ3 : (((0 ≤ a ∧ a < M 27 2) ∧ 0 ≤ b ∧ b < M 27 2) ∧ a ≠ b ∧ (1 ≤ l ∧ l ≤ 6) ∧ 0 ≤ t ∧ t ≤ 71) ∧ M 27 11 = 20 → Q (.inl (some (vI 0))) (upM M 27 0 3)) : AM ev false 8 t_X8_send [vR 27, vI a, vI b, vI l, vI t] M Q := by
  have zst := zp1.1
  have zg := zp3.1
  refine AM.of mt_X8_send (Nat.le_of_ble_eq_true rfl) ?_
  change AW ev false 8 t_X8_send Q 0 [some (vR 27), some (vI a), some (vI b), some (vI l), some (vI t)] [] M
  refine AW.go pk_X8_send 0 4 rfl rfl ?_
  change AW ev false 8 t_X8_send Q 3 [some (vR 27), some (vI a), some (vI b), some (vI l), some (vI t)] [vI a, vR 27, vR 27] M
  refine AW.callV (d' := 1) [vI a] [vR 27] vm_X8_isStation rfl hX8_158 (okP_d pk_X8_send 3 3 (.invokevirtual 158) 3 rfl) (by decide) rfl (Nat.le_of_ble_eq_true rfl) ?_
  refine c_X8_isStation a (by omega) (by omega) (fun zr1 zzr1 => ?_)
  change AW ev false 8 t_X8_send Q 6 [some (vR 27), some (vI a), some (vI b), some (vI l), some (vI t)] [vI zr1, vR 27] M
  refine AW.go pk_X8_send 4 4 rfl rfl ?_
  refine And.intro (show Inr zr1 from ⟨by omega, by omega⟩) (And.intro (fun zh2 => ?_) (fun zh2 => ?_))
  · replace zh2 : zr1 = (0 : Int) := zh2
    change AW ev false 8 t_X8_send Q 17 [some (vR 27), some (vI a), some (vI b), some (vI l), some (vI t)] [vR 27] M
    refine AW.go pk_X8_send 9 2 rfl rfl ?_
    change AW ev false 8 t_X8_send Q 53 [some (vR 27), some (vI a), some (vI b), some (vI l), some (vI t)] [vI 1, vR 27] M
    refine AW.go pk_X8_send 27 6 rfl rfl ?_
    refine And.intro (show Inr 1 from ⟨by omega, by omega⟩) (And.intro (fun zh3 => ?_) (fun zh3 => ?_))
    · replace zh3 : (1 : Int) ≤ (0 : Int) := zh3
      exfalso; omega
    · replace zh3 : ¬ ((1 : Int) ≤ (0 : Int)) := zh3
      refine And.intro rfl ?_
      exact zQ1 (by omega)
  · replace zh2 : ¬ (zr1 = (0 : Int)) := zh2
    change AW ev false 8 t_X8_send Q 11 [some (vR 27), some (vI a), some (vI b), some (vI l), some (vI t)] [vI b, vR 27, vR 27] M
    refine AW.callV (d' := 1) [vI b] [vR 27] vm_X8_isStation rfl hX8_158 (okP_d pk_X8_send 7 11 (.invokevirtual 158) 3 rfl) (by decide) rfl (Nat.le_of_ble_eq_true rfl) ?_
    refine c_X8_isStation b (by omega) (by omega) (fun zr4 zzr4 => ?_)
    change AW ev false 8 t_X8_send Q 14 [some (vR 27), some (vI a), some (vI b), some (vI l), some (vI t)] [vI zr4, vR 27] M
    refine AW.go pk_X8_send 8 3 rfl rfl ?_
    refine And.intro (show Inr zr4 from ⟨by omega, by omega⟩) (And.intro (fun zh5 => ?_) (fun zh5 => ?_))
    · replace zh5 : zr4 ≠ (0 : Int) := zh5
      change AW ev false 8 t_X8_send Q 21 [some (vR 27), some (vI a), some (vI b), some (vI l), some (vI t)] [vR 27] M
      refine AW.go pk_X8_send 11 6 rfl rfl ?_
      refine And.intro (show Inr a ∧ Inr b from ⟨⟨by omega, by omega⟩, ⟨by omega, by omega⟩⟩) (And.intro (fun zh6 => ?_) (fun zh6 => ?_))
      · replace zh6 : a = b := zh6
        change AW ev false 8 t_X8_send Q 35 [some (vR 27), some (vI a), some (vI b), some (vI l), some (vI t)] [vR 27] M
        refine AW.go pk_X8_send 18 2 rfl rfl ?_
        change AW ev false 8 t_X8_send Q 53 [some (vR 27), some (vI a), some (vI b), some (vI l), some (vI t)] [vI 2, vR 27] M
        refine AW.go pk_X8_send 27 6 rfl rfl ?_
        refine And.intro (show Inr 2 from ⟨by omega, by omega⟩) (And.intro (fun zh7 => ?_) (fun zh7 => ?_))
        · replace zh7 : (2 : Int) ≤ (0 : Int) := zh7
          exfalso; omega
        · replace zh7 : ¬ ((2 : Int) ≤ (0 : Int)) := zh7
          refine And.intro rfl ?_
          exact zQ2 (by omega)
      · replace zh6 : ¬ (a = b) := zh6
        change AW ev false 8 t_X8_send Q 29 [some (vR 27), some (vI a), some (vI b), some (vI l), some (vI t)] [vI t, vI l, vR 27] M
        refine AW.callS (d' := 1) [vI l, vI t] [vR 27] sm_X8_isSpan hX8_187 (okP_d pk_X8_send 16 29 (.invokestatic 187) 3 rfl) (by decide) rfl (Nat.le_of_ble_eq_true rfl) ?_
        refine c_X8_isSpan l t (by omega) (by omega) (fun zr8 zzr8 => ?_)
        change AW ev false 8 t_X8_send Q 32 [some (vR 27), some (vI a), some (vI b), some (vI l), some (vI t)] [vI zr8, vR 27] M
        refine AW.go pk_X8_send 17 3 rfl rfl ?_
        refine And.intro (show Inr zr8 from ⟨by omega, by omega⟩) (And.intro (fun zh9 => ?_) (fun zh9 => ?_))
        · replace zh9 : zr8 ≠ (0 : Int) := zh9
          change AW ev false 8 t_X8_send Q 39 [some (vR 27), some (vI a), some (vI b), some (vI l), some (vI t)] [vR 27] M
          refine AW.go pk_X8_send 20 6 rfl rfl ?_
          refine And.intro (show Inr (M 27 11) ∧ Inr 20 from ⟨⟨by omega, by omega⟩, ⟨by omega, by omega⟩⟩) (And.intro (fun zh10 => ?_) (fun zh10 => ?_))
          · replace zh10 : M 27 11 ≠ (20 : Int) := zh10
            change AW ev false 8 t_X8_send Q 52 [some (vR 27), some (vI a), some (vI b), some (vI l), some (vI t)] [vR 27] M
            refine AW.go pk_X8_send 26 7 rfl rfl ?_
            refine And.intro (show Inr 0 from ⟨by omega, by omega⟩) (And.intro (fun zh11 => ?_) (fun zh11 => ?_))
            · replace zh11 : (0 : Int) ≤ (0 : Int) := zh11
              change AW ev false 8 t_X8_send Q 65 [some (vR 27), some (vI a), some (vI b), some (vI l), some (vI t)] [] (upM M 27 0 0)
              refine AW.go pk_X8_send 33 6 rfl rfl ?_
              change AW ev false 8 t_X8_send Q 71 [some (vR 27), some (vI a), some (vI b), some (vI l), some (vI t)] [vI t, vI l, vI b, vI a, vR 27] (upM M 27 0 0)
              refine AW.callV (d' := 7) [vI a, vI b, vI l, vI t] [] vm_X8_sends rfl hX8_190 (okP_d pk_X8_send 38 71 (.invokevirtual 190) 3 rfl) (by decide) rfl (Nat.le_of_ble_eq_true rfl) ?_
              refine c_X8_sends a b l t zp0 zp1 zp2 zp3 (show 0 ≤ a ∧ a < (M 27 2) from by omega) (show 0 ≤ b ∧ b < (M 27 2) from by omega) (by omega) (by omega) (by omega) (show (M 27 11) < 20 from by omega) (fun s Y zs => ?_)
              obtain ⟨zk1, zk2, zk3, zk4⟩ := PostS.keep zs ⟨zp0, zp1, zp2, zp3⟩ (show M 27 11 < 20 from by omega) (show _ ∧ _ < M 27 2 from by omega) (show _ ∧ _ < M 27 2 from by omega) (by omega) (by omega)
              replace zk4 : (s = 0 ∧ Y 27 11 = M 27 11) ∨ (s = 1 ∧ Y 27 11 = M 27 11 + 1) := zk4
              change AW ev false 8 t_X8_send Q 74 [some (vR 27), some (vI a), some (vI b), some (vI l), some (vI t)] [vI s] Y
              refine AW.go pk_X8_send 39 11 rfl rfl ?_
              refine And.intro (show Inr s from ⟨by omega, by omega⟩) (And.intro (fun zh12 => ?_) (fun zh12 => ?_))
              · replace zh12 : s = (0 : Int) := zh12
                change AW ev false 8 t_X8_send Q 94 [some (vR 27), some (vI a), some (vI b), some (vI l), some (vI t)] [] Y
                refine AW.go pk_X8_send 50 2 rfl rfl ?_
                refine And.intro rfl ?_
                exact QcI (Q := Q) (show (-1 : Int) = (if s = 1 then Y 36 (6 * Y 27 11 - 2) else -1) from by rw [if_neg (by omega)]) rfl (zQ0 s Y ⟨by omega, zs⟩)
              · replace zh12 : ¬ (s = (0 : Int)) := zh12
                refine And.intro (show (0 ≤ (6 * (Y 27 11)) - 2 ∧ (6 * (Y 27 11)) - 2 < 120) from (by omega)) ?_
                change AW ev false 8 t_X8_send Q 95 [some (vR 27), some (vI a), some (vI b), some (vI l), some (vI t)] [vI (Y 36 ((6 * (Y 27 11)) - 2))] Y
                refine AW.go pk_X8_send 51 1 rfl rfl ?_
                refine And.intro rfl ?_
                exact QcI (Q := Q) (show Y 36 ((6 * (Y 27 11)) - 2) = (if s = 1 then Y 36 (6 * Y 27 11 - 2) else -1) from by rw [if_pos (by omega)]) rfl (zQ0 s Y ⟨by omega, zs⟩)
            · replace zh11 : ¬ ((0 : Int) ≤ (0 : Int)) := zh11
              exfalso; omega
          · replace zh10 : ¬ (M 27 11 ≠ (20 : Int)) := zh10
            change AW ev false 8 t_X8_send Q 53 [some (vR 27), some (vI a), some (vI b), some (vI l), some (vI t)] [vI 3, vR 27] M
            refine AW.go pk_X8_send 27 6 rfl rfl ?_
            refine And.intro (show Inr 3 from ⟨by omega, by omega⟩) (And.intro (fun zh13 => ?_) (fun zh13 => ?_))
            · replace zh13 : (3 : Int) ≤ (0 : Int) := zh13
              exfalso; omega
            · replace zh13 : ¬ ((3 : Int) ≤ (0 : Int)) := zh13
              refine And.intro rfl ?_
              exact zQ3 (by omega)
        · replace zh9 : ¬ (zr8 ≠ (0 : Int)) := zh9
          change AW ev false 8 t_X8_send Q 53 [some (vR 27), some (vI a), some (vI b), some (vI l), some (vI t)] [vI 2, vR 27] M
          refine AW.go pk_X8_send 27 6 rfl rfl ?_
          refine And.intro (show Inr 2 from ⟨by omega, by omega⟩) (And.intro (fun zh14 => ?_) (fun zh14 => ?_))
          · replace zh14 : (2 : Int) ≤ (0 : Int) := zh14
            exfalso; omega
          · replace zh14 : ¬ ((2 : Int) ≤ (0 : Int)) := zh14
            refine And.intro rfl ?_
            exact zQ2 (by omega)
    · replace zh5 : ¬ (zr4 ≠ (0 : Int)) := zh5
      change AW ev false 8 t_X8_send Q 53 [some (vR 27), some (vI a), some (vI b), some (vI l), some (vI t)] [vI 1, vR 27] M
      refine AW.go pk_X8_send 27 6 rfl rfl ?_
      refine And.intro (show Inr 1 from ⟨by omega, by omega⟩) (And.intro (fun zh15 => ?_) (fun zh15 => ?_))
      · replace zh15 : (1 : Int) ≤ (0 : Int) := zh15
        exfalso; omega
      · replace zh15 : ¬ ((1 : Int) ≤ (0 : Int)) := zh15
        refine And.intro rfl ?_
        exact zQ1 (by omega)
theorem c_X8_arrival {ev : Ev} {Q : Out → Mem → Prop} {M : Mem}  (a : Int) (b : Int) (l : Int) (t : Int) (zp0 : TJ M) (zp1 : SJ M) (zp2 : KJ M) (zp3 : GJ M) (zp4 : -2147483648 ≤ a ∧ a < 2147483648) (zp5 : -2147483648 ≤ b ∧ b < 2147483648) (zp6 : -2147483648 ≤ l ∧ l < 2147483648) (zp7 : -2147483648 ≤ t ∧ t < 2147483648) (zQ0 : ∀ (f : Int → Int), (((0 ≤ a ∧ a < M 27 2) ∧ 0 ≤ b ∧ b < M 27 2) ∧ (1 ≤ l ∧ l ≤ 6) ∧ 0 ≤ t ∧ t ≤ 71) ∧ ArrOK (ERm (upM M 27 0 0) l) (M 27 2) a t f → Q (.inl (some (vI (f b)))) (avM (layM (upM M 27 0 0)) f)) (zQ1 : ¬ ((0 ≤ a ∧ a < M 27 2) ∧ 0 ≤ b ∧ b < M 27 2) → Q (.inl (some (vI 0))) (upM M 27 0 1)) (zQ2 : ((0 ≤ a ∧ a < M 27 2) ∧ 0 ≤ b ∧ b < M 27 2) ∧ ¬ ((1 ≤ l ∧ l ≤ 6) ∧ 0 ≤ t ∧ t ≤ 71) → Q (.inl (some (vI 0))) (upM M 27 0 2)) : AM ev false 7 t_X8_arrival [vR 27, vI a, vI b, vI l, vI t] M Q := by
  have zst := zp1.1
  have zg := zp3.1
  refine AM.of mt_X8_arrival (Nat.le_of_ble_eq_true rfl) ?_
  change AW ev false 7 t_X8_arrival Q 0 [some (vR 27), some (vI a), some (vI b), some (vI l), some (vI t)] [] M
  refine AW.go pk_X8_arrival 0 4 rfl rfl ?_
  change AW ev false 7 t_X8_arrival Q 3 [some (vR 27), some (vI a), some (vI b), some (vI l), some (vI t)] [vI a, vR 27, vR 27] M
  refine AW.callV (d' := 1) [vI a] [vR 27] vm_X8_isStation rfl hX8_158 (okP_d pk_X8_arrival 3 3 (.invokevirtual 158) 3 rfl) (by decide) rfl (Nat.le_of_ble_eq_true rfl) ?_
  refine c_X8_isStation a (by omega) (by omega) (fun zr1 zzr1 => ?_)
  change AW ev false 7 t_X8_arrival Q 6 [some (vR 27), some (vI a), some (vI b), some (vI l), some (vI t)] [vI zr1, vR 27] M
  refine AW.go pk_X8_arrival 4 4 rfl rfl ?_
  refine And.intro (show Inr zr1 from ⟨by omega, by omega⟩) (And.intro (fun zh2 => ?_) (fun zh2 => ?_))
  · replace zh2 : zr1 = (0 : Int) := zh2
    change AW ev false 7 t_X8_arrival Q 17 [some (vR 27), some (vI a), some (vI b), some (vI l), some (vI t)] [vR 27] M
    refine AW.go pk_X8_arrival 9 2 rfl rfl ?_
    change AW ev false 7 t_X8_arrival Q 35 [some (vR 27), some (vI a), some (vI b), some (vI l), some (vI t)] [vI 1, vR 27] M
    refine AW.go pk_X8_arrival 18 6 rfl rfl ?_
    refine And.intro (show Inr 1 from ⟨by omega, by omega⟩) (And.intro (fun zh3 => ?_) (fun zh3 => ?_))
    · replace zh3 : (1 : Int) ≤ (0 : Int) := zh3
      exfalso; omega
    · replace zh3 : ¬ ((1 : Int) ≤ (0 : Int)) := zh3
      refine And.intro rfl ?_
      exact zQ1 (by omega)
  · replace zh2 : ¬ (zr1 = (0 : Int)) := zh2
    change AW ev false 7 t_X8_arrival Q 11 [some (vR 27), some (vI a), some (vI b), some (vI l), some (vI t)] [vI b, vR 27, vR 27] M
    refine AW.callV (d' := 1) [vI b] [vR 27] vm_X8_isStation rfl hX8_158 (okP_d pk_X8_arrival 7 11 (.invokevirtual 158) 3 rfl) (by decide) rfl (Nat.le_of_ble_eq_true rfl) ?_
    refine c_X8_isStation b (by omega) (by omega) (fun zr4 zzr4 => ?_)
    change AW ev false 7 t_X8_arrival Q 14 [some (vR 27), some (vI a), some (vI b), some (vI l), some (vI t)] [vI zr4, vR 27] M
    refine AW.go pk_X8_arrival 8 3 rfl rfl ?_
    refine And.intro (show Inr zr4 from ⟨by omega, by omega⟩) (And.intro (fun zh5 => ?_) (fun zh5 => ?_))
    · replace zh5 : zr4 ≠ (0 : Int) := zh5
      change AW ev false 7 t_X8_arrival Q 21 [some (vR 27), some (vI a), some (vI b), some (vI l), some (vI t)] [vR 27] M
      refine AW.go pk_X8_arrival 11 3 rfl rfl ?_
      change AW ev false 7 t_X8_arrival Q 24 [some (vR 27), some (vI a), some (vI b), some (vI l), some (vI t)] [vI t, vI l, vR 27] M
      refine AW.callS (d' := 1) [vI l, vI t] [vR 27] sm_X8_isSpan hX8_187 (okP_d pk_X8_arrival 13 24 (.invokestatic 187) 3 rfl) (by decide) rfl (Nat.le_of_ble_eq_true rfl) ?_
      refine c_X8_isSpan l t (by omega) (by omega) (fun zr6 zzr6 => ?_)
      change AW ev false 7 t_X8_arrival Q 27 [some (vR 27), some (vI a), some (vI b), some (vI l), some (vI t)] [vI zr6, vR 27] M
      refine AW.go pk_X8_arrival 14 3 rfl rfl ?_
      refine And.intro (show Inr zr6 from ⟨by omega, by omega⟩) (And.intro (fun zh7 => ?_) (fun zh7 => ?_))
      · replace zh7 : zr6 = (0 : Int) := zh7
        change AW ev false 7 t_X8_arrival Q 34 [some (vR 27), some (vI a), some (vI b), some (vI l), some (vI t)] [vR 27] M
        refine AW.go pk_X8_arrival 17 7 rfl rfl ?_
        refine And.intro (show Inr 2 from ⟨by omega, by omega⟩) (And.intro (fun zh8 => ?_) (fun zh8 => ?_))
        · replace zh8 : (2 : Int) ≤ (0 : Int) := zh8
          exfalso; omega
        · replace zh8 : ¬ ((2 : Int) ≤ (0 : Int)) := zh8
          refine And.intro rfl ?_
          exact zQ2 (by omega)
      · replace zh7 : ¬ (zr6 = (0 : Int)) := zh7
        change AW ev false 7 t_X8_arrival Q 35 [some (vR 27), some (vI a), some (vI b), some (vI l), some (vI t)] [vI 0, vR 27] M
        refine AW.go pk_X8_arrival 18 6 rfl rfl ?_
        refine And.intro (show Inr 0 from ⟨by omega, by omega⟩) (And.intro (fun zh9 => ?_) (fun zh9 => ?_))
        · replace zh9 : (0 : Int) ≤ (0 : Int) := zh9
          change AW ev false 7 t_X8_arrival Q 47 [some (vR 27), some (vI a), some (vI b), some (vI l), some (vI t)] [] (upM M 27 0 0)
          refine AW.go pk_X8_arrival 24 5 rfl rfl ?_
          change AW ev false 7 t_X8_arrival Q 52 [some (vR 27), some (vI a), some (vI b), some (vI l), some (vI t)] [vI t, vI l, vI a, vR 27] (upM M 27 0 0)
          refine AW.callV (d' := 6) [vI a, vI l, vI t] [] vm_X8_layArrivals rfl hX8_180 (okP_d pk_X8_arrival 28 52 (.invokevirtual 180) 3 rfl) (by decide) rfl (Nat.le_of_ble_eq_true rfl) ?_
          refine c_X8_layArrivals a l t zp0 zp1 zp2 zp3 (show 0 ≤ a ∧ a < (M 27 2) from by omega) (by omega) (by omega) (fun f zc11 => ?_)
          · replace zc11 : ArrOK (ERm M l) (M 27 2) a t f := zc11
            have zac := zc11
            change AW ev false 7 t_X8_arrival Q 55 [some (vR 27), some (vI a), some (vI b), some (vI l), some (vI t)] [] (avM (layM (upM M 27 0 0)) f)
            refine AW.go pk_X8_arrival 29 5 rfl rfl ?_
            refine And.intro (show (0 ≤ b ∧ b < 8) from (by omega)) ?_
            refine And.intro rfl ?_
            exact zQ0 f ⟨by omega, zac⟩
        · replace zh9 : ¬ ((0 : Int) ≤ (0 : Int)) := zh9
          exfalso; omega
    · replace zh5 : ¬ (zr4 ≠ (0 : Int)) := zh5
      change AW ev false 7 t_X8_arrival Q 35 [some (vR 27), some (vI a), some (vI b), some (vI l), some (vI t)] [vI 1, vR 27] M
      refine AW.go pk_X8_arrival 18 6 rfl rfl ?_
      refine And.intro (show Inr 1 from ⟨by omega, by omega⟩) (And.intro (fun zh12 => ?_) (fun zh12 => ?_))
      · replace zh12 : (1 : Int) ≤ (0 : Int) := zh12
        exfalso; omega
      · replace zh12 : ¬ ((1 : Int) ≤ (0 : Int)) := zh12
        refine And.intro rfl ?_
        exact zQ1 (by omega)
