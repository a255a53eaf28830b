theorem lz_lt0 {ev : Ev} {Q : Out → Mem → Prop} {M : Mem}   (zp0 : GJ M) (zX : AW ev false 0 t_X8_layTurns Q 22 [some (vR 27), some (vI 576), none, none, none] [] (fillM M 41 576 (-1))) : ∀ (n : Nat) (i : Int), i + n = 576 → (0 ≤ i) → AW ev false 0 t_X8_layTurns Q 2 [some (vR 27), some (vI i), none, none, none] [] (fillM M 41 i (-1)) := by
  intro n
  induction n with
  | zero =>
    intro i zn zv0
    refine AW.go pk_X8_layTurns 2 10 rfl rfl ?_
    refine And.intro (show Inr i ∧ Inr 576 from ⟨⟨by omega, by omega⟩, ⟨by omega, by omega⟩⟩) (And.intro (fun zh1 => ?_) (fun zh1 => ?_))
    · replace zh1 : (576 : Int) ≤ i := zh1
      change AW ev false 0 t_X8_layTurns Q 22 [some (vR 27), some (vI i), none, none, none] [] (fillM M 41 i (-1))
      have zi : i = 576 := by omega
      subst zi
      exact zX
    · replace zh1 : ¬ ((576 : Int) ≤ i) := zh1
      exfalso; omega
  | succ n zih =>
    intro i zn zv0
    refine AW.go pk_X8_layTurns 2 10 rfl rfl ?_
    refine And.intro (show Inr i ∧ Inr 576 from ⟨⟨by omega, by omega⟩, ⟨by omega, by omega⟩⟩) (And.intro (fun zh1 => ?_) (fun zh1 => ?_))
    · replace zh1 : (576 : Int) ≤ i := zh1
      exfalso; omega
    · replace zh1 : ¬ ((576 : Int) ≤ i) := zh1
      refine And.intro (show ((0 ≤ i ∧ i < 576) ∧ ((0 : Nat) = 0 ∨ (-1 : Int) = 0 ∨ (-1 : Int) = 1)) from ⟨by omega, Or.inl rfl⟩) ?_
      refine And.intro (show 1 < mL t_X8_layTurns from (by decide)) ?_
      change AW ev false 0 t_X8_layTurns Q 2 [some (vR 27), some (vI (i + 1)), none, none, none] [] (upM (fillM M 41 i (-1)) 41 i (-1))
      exact AW.mem (show (upM (fillM M 41 i (-1)) 41 i (-1)) = (fillM M 41 (i + 1) (-1)) from by funext zk zj; simp only [upM, fillM]; grind) (zih (i + 1) (by omega) (by omega))
theorem lz_lt1 {ev : Ev} {Q : Out → Mem → Prop} {M : Mem}   (zp0 : GJ M) (m : Int) (zm : 0 ≤ m ∧ m < M 27 11) (k : Int) (zk : 0 ≤ k ∧ k < M 36 (6 * m + 5)) (zX : AW ev false 0 t_X8_layTurns Q 143 [some (vR 27), some (vI m), some (vI k), some (vI (M 36 (6 * m + 2))), none] [] (tkM M (ltP (ltB (M 41)) (M 36) (M 37) m k (M 36 (6 * m + 2))))) : ∀ (n : Nat) (e : Int), e + n = M 36 (6 * m + 2) → (0 ≤ e) → AW ev false 0 t_X8_layTurns Q 51 [some (vR 27), some (vI m), some (vI k), some (vI e), none] [] (tkM M (ltP (ltB (M 41)) (M 36) (M 37) m k e)) := by
  intro n
  induction n with
  | zero =>
    intro e zn zv0
    have zs := zp0.1
    have zma := zp0.2.1 m (by omega) (by omega)
    have zho := zp0.2.2 m k (by omega) (by omega) (by omega) (by omega)
    refine AW.go pk_X8_layTurns 32 65 rfl rfl ?_
    refine And.intro (show (0 ≤ (6 * m) + 2 ∧ (6 * m) + 2 < 120) from (by omega)) ?_
    refine And.intro (show Inr e ∧ Inr (M 36 ((6 * m) + 2)) from ⟨⟨by omega, by omega⟩, ⟨by omega, by omega⟩⟩) (And.intro (fun zh1 => ?_) (fun zh1 => ?_))
    · replace zh1 : M 36 ((6 * m) + 2) ≤ e := zh1
      change AW ev false 0 t_X8_layTurns Q 143 [some (vR 27), some (vI m), some (vI k), some (vI e), none] [] (tkM M (ltP (ltB (M 41)) (M 36) (M 37) m k e))
      have ze : e = M 36 (6 * m + 2) := by omega
      rw [ze]
      exact zX
    · replace zh1 : ¬ (M 36 ((6 * m) + 2) ≤ e) := zh1
      exfalso; omega
  | succ n zih =>
    intro e zn zv0
    have zs := zp0.1
    have zma := zp0.2.1 m (by omega) (by omega)
    have zho := zp0.2.2 m k (by omega) (by omega) (by omega) (by omega)
    refine AW.go pk_X8_layTurns 32 65 rfl rfl ?_
    refine And.intro (show (0 ≤ (6 * m) + 2 ∧ (6 * m) + 2 < 120) from (by omega)) ?_
    refine And.intro (show Inr e ∧ Inr (M 36 ((6 * m) + 2)) from ⟨⟨by omega, by omega⟩, ⟨by omega, by omega⟩⟩) (And.intro (fun zh1 => ?_) (fun zh1 => ?_))
    · replace zh1 : M 36 ((6 * m) + 2) ≤ e := zh1
      exfalso; omega
    · replace zh1 : ¬ (M 36 ((6 * m) + 2) ≤ e) := zh1
      refine And.intro (show (0 ≤ ((21 * m) + (3 * k)) + 2 ∧ ((21 * m) + (3 * k)) + 2 < 420) from (by omega)) ?_
      refine And.intro (show 4 < mL t_X8_layTurns from (by decide)) ?_
      refine And.intro (show (0 ≤ (21 * m) + (3 * k) ∧ (21 * m) + (3 * k) < 420) from (by omega)) ?_
      refine And.intro (show ((0 ≤ (72 * (M 37 ((21 * m) + (3 * k)))) + ((M 37 (((21 * m) + (3 * k)) + 2)) + e) ∧ (72 * (M 37 ((21 * m) + (3 * k)))) + ((M 37 (((21 * m) + (3 * k)) + 2)) + e) < 576) ∧ ((0 : Nat) = 0 ∨ m = 0 ∨ m = 1)) from ⟨by omega, Or.inl rfl⟩) ?_
      refine And.intro (show (0 ≤ ((21 * m) + (3 * k)) + 1 ∧ ((21 * m) + (3 * k)) + 1 < 420) from (by omega)) ?_
      refine And.intro (show ((0 ≤ (72 * (M 37 (((21 * m) + (3 * k)) + 1))) + ((M 37 (((21 * m) + (3 * k)) + 2)) + e) ∧ (72 * (M 37 (((21 * m) + (3 * k)) + 1))) + ((M 37 (((21 * m) + (3 * k)) + 2)) + e) < 576) ∧ ((0 : Nat) = 0 ∨ m = 0 ∨ m = 1)) from ⟨by omega, Or.inl rfl⟩) ?_
      refine And.intro (show 3 < mL t_X8_layTurns from (by decide)) ?_
      change AW ev false 0 t_X8_layTurns Q 51 [some (vR 27), some (vI m), some (vI k), some (vI (e + 1)), some (vI ((M 37 (((21 * m) + (3 * k)) + 2)) + e))] [] (upM (upM (tkM M (ltP (ltB (M 41)) (M 36) (M 37) m k e)) 41 ((72 * (M 37 ((21 * m) + (3 * k)))) + ((M 37 (((21 * m) + (3 * k)) + 2)) + e)) m) 41 ((72 * (M 37 (((21 * m) + (3 * k)) + 1))) + ((M 37 (((21 * m) + (3 * k)) + 2)) + e)) m)
      refine AW.sub [some (vR 27), some (vI m), some (vI k), some (vI (e + 1)), none] (by simp [lsub]) ?_
      exact AW.mem (show (upM (upM (tkM M (ltP (ltB (M 41)) (M 36) (M 37) m k e)) 41 ((72 * (M 37 ((21 * m) + (3 * k)))) + ((M 37 (((21 * m) + (3 * k)) + 2)) + e)) m) 41 ((72 * (M 37 (((21 * m) + (3 * k)) + 1))) + ((M 37 (((21 * m) + (3 * k)) + 2)) + e)) m) = (tkM M (ltP (ltB (M 41)) (M 36) (M 37) m k (e + 1))) from by (rw [tk_put, tk_put]; exact congrArg (tkM M) (ltP_step (by omega) (by omega) (by omega)))) (zih (e + 1) (by omega) (by omega))
theorem lz_lt2 {ev : Ev} {Q : Out → Mem → Prop} {M : Mem}   (zp0 : GJ M) (m : Int) (zm : 0 ≤ m ∧ m < M 27 11) (zX : AW ev false 0 t_X8_layTurns Q 149 [some (vR 27), some (vI m), some (vI (M 36 (6 * m + 5))), none, none] [] (tkM M (ltP (ltB (M 41)) (M 36) (M 37) m (M 36 (6 * m + 5)) 0))) : ∀ (n : Nat) (k : Int), k + n = M 36 (6 * m + 5) → (0 ≤ k) → AW ev false 0 t_X8_layTurns Q 34 [some (vR 27), some (vI m), some (vI k), none, none] [] (tkM M (ltP (ltB (M 41)) (M 36) (M 37) m k 0)) := by
  intro n
  induction n with
  | zero =>
    intro k zn zv0
    have zs := zp0.1
    have zma := zp0.2.1 m (by omega) (by omega)
    refine AW.go pk_X8_layTurns 20 12 rfl rfl ?_
    refine And.intro (show (0 ≤ (6 * m) + 5 ∧ (6 * m) + 5 < 120) from (by omega)) ?_
    refine And.intro (show Inr k ∧ Inr (M 36 ((6 * m) + 5)) from ⟨⟨by omega, by omega⟩, ⟨by omega, by omega⟩⟩) (And.intro (fun zh1 => ?_) (fun zh1 => ?_))
    · replace zh1 : M 36 ((6 * m) + 5) ≤ k := zh1
      change AW ev false 0 t_X8_layTurns Q 149 [some (vR 27), some (vI m), some (vI k), none, none] [] (tkM M (ltP (ltB (M 41)) (M 36) (M 37) m k 0))
      have zk : k = M 36 (6 * m + 5) := by omega
      rw [zk]
      exact zX
    · replace zh1 : ¬ (M 36 ((6 * m) + 5) ≤ k) := zh1
      exfalso; omega
  | succ n zih =>
    intro k zn zv0
    have zs := zp0.1
    have zma := zp0.2.1 m (by omega) (by omega)
    refine AW.go pk_X8_layTurns 20 12 rfl rfl ?_
    refine And.intro (show (0 ≤ (6 * m) + 5 ∧ (6 * m) + 5 < 120) from (by omega)) ?_
    refine And.intro (show Inr k ∧ Inr (M 36 ((6 * m) + 5)) from ⟨⟨by omega, by omega⟩, ⟨by omega, by omega⟩⟩) (And.intro (fun zh1 => ?_) (fun zh1 => ?_))
    · replace zh1 : M 36 ((6 * m) + 5) ≤ k := zh1
      exfalso; omega
    · replace zh1 : ¬ (M 36 ((6 * m) + 5) ≤ k) := zh1
      refine And.intro (show 3 < mL t_X8_layTurns from (by decide)) ?_
      change AW ev false 0 t_X8_layTurns Q 51 [some (vR 27), some (vI m), some (vI k), some (vI 0), none] [] (tkM M (ltP (ltB (M 41)) (M 36) (M 37) m k 0))
      refine lz_lt1 zp0 m zm k (by omega) ?_ (M 36 (6 * m + 2)).toNat 0 (by omega) (by omega)
      refine AW.go pk_X8_layTurns 97 2 rfl rfl ?_
      refine And.intro (show 2 < mL t_X8_layTurns from (by decide)) ?_
      change AW ev false 0 t_X8_layTurns Q 34 [some (vR 27), some (vI m), some (vI (k + 1)), some (vI (M 36 (6 * m + 2))), none] [] (tkM M (ltP (ltB (M 41)) (M 36) (M 37) m k (M 36 (6 * m + 2))))
      refine AW.sub [some (vR 27), some (vI m), some (vI (k + 1)), none, none] (by simp [lsub]) ?_
      exact AW.mem (congrArg (tkM M) (ltP_hop rfl)) (zih (k + 1) (by omega) (by omega))
theorem lz_lt3 {ev : Ev} {Q : Out → Mem → Prop} {M : Mem}   (zp0 : GJ M) (zQ : Q (.inl none) (tkM M (ltA M))) : ∀ (n : Nat) (m : Int), m + n = M 27 11 → (0 ≤ m) → AW ev false 0 t_X8_layTurns Q 24 [some (vR 27), some (vI m), none, none, none] [] (tkM M (ltP (ltB (M 41)) (M 36) (M 37) m 0 0)) := by
  intro n
  induction n with
  | zero =>
    intro m zn zv0
    have zs := zp0.1
    refine AW.go pk_X8_layTurns 14 6 rfl rfl ?_
    refine And.intro (show Inr m ∧ Inr (M 27 11) from ⟨⟨by omega, by omega⟩, ⟨by omega, by omega⟩⟩) (And.intro (fun zh1 => ?_) (fun zh1 => ?_))
    · replace zh1 : M 27 11 ≤ m := zh1
      change AW ev false 0 t_X8_layTurns Q 155 [some (vR 27), some (vI m), none, none, none] [] (tkM M (ltP (ltB (M 41)) (M 36) (M 37) m 0 0))
      refine AW.go pk_X8_layTurns 101 1 rfl rfl ?_
      refine And.intro rfl ?_
      exact QcV (Q := Q) (show (tkM M (ltP (ltB (M 41)) (M 36) (M 37) m 0 0)) = tkM M (ltA M) from by rw [ltP_0, show m = M 27 11 from by omega]; rfl) zQ
    · replace zh1 : ¬ (M 27 11 ≤ m) := zh1
      exfalso; omega
  | succ n zih =>
    intro m zn zv0
    have zs := zp0.1
    refine AW.go pk_X8_layTurns 14 6 rfl rfl ?_
    refine And.intro (show Inr m ∧ Inr (M 27 11) from ⟨⟨by omega, by omega⟩, ⟨by omega, by omega⟩⟩) (And.intro (fun zh1 => ?_) (fun zh1 => ?_))
    · replace zh1 : M 27 11 ≤ m := zh1
      exfalso; omega
    · replace zh1 : ¬ (M 27 11 ≤ m) := zh1
      refine And.intro (show 2 < mL t_X8_layTurns from (by decide)) ?_
      change AW ev false 0 t_X8_layTurns Q 34 [some (vR 27), some (vI m), some (vI 0), none, none] [] (tkM M (ltP (ltB (M 41)) (M 36) (M 37) m 0 0))
      have zma := zp0.2.1 m (by omega) (by omega)
      refine lz_lt2 zp0 m (by omega) ?_ (M 36 (6 * m + 5)).toNat 0 (by omega) (by omega)
      refine AW.go pk_X8_layTurns 99 2 rfl rfl ?_
      refine And.intro (show 1 < mL t_X8_layTurns from (by decide)) ?_
      change AW ev false 0 t_X8_layTurns Q 24 [some (vR 27), some (vI (m + 1)), some (vI (M 36 (6 * m + 5))), none, none] [] (tkM M (ltP (ltB (M 41)) (M 36) (M 37) m (M 36 (6 * m + 5)) 0))
      refine AW.sub [some (vR 27), some (vI (m + 1)), none, none, none] (by simp [lsub]) ?_
      exact AW.mem (congrArg (tkM M) (ltP_msg (by omega) rfl)) (zih (m + 1) (by omega) (by omega))
theorem c_X8_layTurns {ev : Ev} {Q : Out → Mem → Prop} {M : Mem}   (zp0 : GJ M) (zQ : Q (.inl none) (tkM M (ltA M))) : AM ev false 0 t_X8_layTurns [vR 27] M Q := by
  have zs := zp0.1
  refine AM.of mt_X8_layTurns (Nat.le_of_ble_eq_true rfl) ?_
  change AW ev false 0 t_X8_layTurns Q 0 [some (vR 27), none, none, none, none] [] M
  refine AW.go pk_X8_layTurns 0 2 rfl rfl ?_
  refine And.intro (show 1 < mL t_X8_layTurns from (by decide)) ?_
  change AW ev false 0 t_X8_layTurns Q 2 [some (vR 27), some (vI 0), none, none, none] [] M
  refine AW.mem (show M = (fillM M 41 0 (-1)) from by funext zk zj; simp only [fillM]; grind) (lz_lt0 zp0 ?_ 576 0 (by omega) (by omega))
  change AW ev false 0 t_X8_layTurns Q 22 [some (vR 27), some (vI 576), none, none, none] [] (fillM M 41 576 (-1))
  refine AW.go pk_X8_layTurns 12 2 rfl rfl ?_
  refine And.intro (show 1 < mL t_X8_layTurns from (by decide)) ?_
  change AW ev false 0 t_X8_layTurns Q 24 [some (vR 27), some (vI 0), none, none, none] [] (fillM M 41 576 (-1))
  exact AW.mem (lt_fill M) (lz_lt3 zp0 zQ (M 27 11).toNat 0 (by omega) (by omega))
theorem lz_busy8 {ev : Ev} {Q : Out → Mem → Prop} {M : Mem}  (s : Int) (zp0 : 0 ≤ s ∧ s < 8) (zp1 : ∀ i, 0 ≤ i → i < 576 → -1 ≤ M 41 i ∧ M 41 i < 20)  : ∀ (n : Nat) (i : Int) (c : Int), i + n = 72 → (0 ≤ i) → (∀ r : Int, r = bzT (fun t => M 41 (72 * s + t)) n i c → Q (.inl (some (vI r))) M) → AW ev false 0 t_X8_busyOf Q 4 [some (vR 27), some (vI s), some (vI c), some (vI i)] [] M := by
  intro n
  induction n with
  | zero =>
    intro i c zn zv0 zv1
    refine AW.go pk_X8_busyOf 4 16 rfl rfl ?_
    refine And.intro (show Inr i ∧ Inr 72 from ⟨⟨by omega, by omega⟩, ⟨by omega, by omega⟩⟩) (And.intro (fun zh1 => ?_) (fun zh1 => ?_))
    · replace zh1 : (72 : Int) ≤ i := zh1
      change AW ev false 0 t_X8_busyOf Q 39 [some (vR 27), some (vI s), some (vI c), some (vI i)] [] M
      refine AW.go pk_X8_busyOf 25 2 rfl rfl ?_
      refine And.intro rfl ?_
      exact zv1 _ rfl
    · replace zh1 : ¬ ((72 : Int) ≤ i) := zh1
      exfalso; omega
  | succ n zih =>
    intro i c zn zv0 zv1
    have zb := zp1 (72 * s + i) (by omega) (by omega)
    refine AW.go pk_X8_busyOf 4 16 rfl rfl ?_
    refine And.intro (show Inr i ∧ Inr 72 from ⟨⟨by omega, by omega⟩, ⟨by omega, by omega⟩⟩) (And.intro (fun zh1 => ?_) (fun zh1 => ?_))
    · replace zh1 : (72 : Int) ≤ i := zh1
      exfalso; omega
    · replace zh1 : ¬ ((72 : Int) ≤ i) := zh1
      refine And.intro (show (0 ≤ (72 * s) + i ∧ (72 * s) + i < 576) from (by omega)) ?_
      refine And.intro (show Inr (M 41 ((72 * s) + i)) ∧ Inr (-1) from ⟨⟨by omega, by omega⟩, ⟨by omega, by omega⟩⟩) (And.intro (fun zh2 => ?_) (fun zh2 => ?_))
      · replace zh2 : M 41 ((72 * s) + i) ≠ (-1 : Int) := zh2
        change AW ev false 0 t_X8_busyOf Q 30 [some (vR 27), some (vI s), some (vI c), some (vI i)] [vI c] M
        refine AW.go pk_X8_busyOf 20 5 rfl rfl ?_
        refine And.intro (show 2 < mL t_X8_busyOf from (by decide)) ?_
        refine And.intro (show 3 < mL t_X8_busyOf from (by decide)) ?_
        change AW ev false 0 t_X8_busyOf Q 4 [some (vR 27), some (vI s), some (vI (c + 1)), some (vI (i + 1))] [] M
        exact zih (i + 1) (c + 1) (by omega) (by omega) (fun r zr => zv1 r (by rw [zr]; (conv => rhs; unfold bzT); rw [if_neg (by omega)]))
      · replace zh2 : ¬ (M 41 ((72 * s) + i) ≠ (-1 : Int)) := zh2
        change AW ev false 0 t_X8_busyOf Q 31 [some (vR 27), some (vI s), some (vI c), some (vI i)] [vI 0, vI c] M
        refine AW.go pk_X8_busyOf 21 4 rfl rfl ?_
        refine And.intro (show 2 < mL t_X8_busyOf from (by decide)) ?_
        refine And.intro (show 3 < mL t_X8_busyOf from (by decide)) ?_
        change AW ev false 0 t_X8_busyOf Q 4 [some (vR 27), some (vI s), some (vI (c + 0)), some (vI (i + 1))] [] M
        exact zih (i + 1) (c + 0) (by omega) (by omega) (fun r zr => zv1 r (by rw [zr, Int.add_zero]; (conv => rhs; unfold bzT); rw [if_pos (by omega)]))
theorem c_X8_busyOf {ev : Ev} {Q : Out → Mem → Prop} {M : Mem}  (s : Int) (zp0 : 0 ≤ s ∧ s < 8) (zp1 : ∀ i, 0 ≤ i → i < 576 → -1 ≤ M 41 i ∧ M 41 i < 20) (zQ : ∀ (r : Int), r = bzT (fun t => M 41 (72 * s + t)) 72 0 0 → Q (.inl (some (vI r))) M) : AM ev false 0 t_X8_busyOf [vR 27, vI s] M Q := by
  refine AM.of mt_X8_busyOf (Nat.le_of_ble_eq_true rfl) ?_
  change AW ev false 0 t_X8_busyOf Q 0 [some (vR 27), some (vI s), none, none] [] M
  refine AW.go pk_X8_busyOf 0 4 rfl rfl ?_
  refine And.intro (show 2 < mL t_X8_busyOf from (by decide)) ?_
  refine And.intro (show 3 < mL t_X8_busyOf from (by decide)) ?_
  change AW ev false 0 t_X8_busyOf Q 4 [some (vR 27), some (vI s), some (vI 0), some (vI 0)] [] M
  exact lz_busy8 s zp0 zp1 72 0 0 (by omega) (by omega) zQ
theorem lz_busyA8 {ev : Ev} {Q : Out → Mem → Prop} {M : Mem}   (zp0 : GJ M) (zp1 : 0 ≤ M 27 2 ∧ M 27 2 ≤ 8)  : ∀ (n : Nat) (i : Int) (c : Int), i + n = M 27 2 → (0 ≤ i) → (∀ r : Int, r = bzA (ltA M) n i c → Q (.inl (some (vI r))) (tkM M (ltA M))) → AW ev false 1 t_X8_busyAll Q 8 [some (vR 27), some (vI c), some (vI i)] [] (tkM M (ltA M)) := by
  intro n
  induction n with
  | zero =>
    intro i c zn zv0 zv1
    refine AW.go pk_X8_busyAll 6 8 rfl rfl ?_
    refine And.intro (show Inr i ∧ Inr (M 27 2) from ⟨⟨by omega, by omega⟩, ⟨by omega, by omega⟩⟩) (And.intro (fun zh1 => ?_) (fun zh1 => ?_))
    · replace zh1 : M 27 2 ≤ i := zh1
      change AW ev false 1 t_X8_busyAll Q 30 [some (vR 27), some (vI c), some (vI i)] [] (tkM M (ltA M))
      refine AW.go pk_X8_busyAll 18 2 rfl rfl ?_
      refine And.intro rfl ?_
      exact zv1 _ rfl
    · replace zh1 : ¬ (M 27 2 ≤ i) := zh1
      exfalso; omega
  | succ n zih =>
    intro i c zn zv0 zv1
    refine AW.go pk_X8_busyAll 6 8 rfl rfl ?_
    refine And.intro (show Inr i ∧ Inr (M 27 2) from ⟨⟨by omega, by omega⟩, ⟨by omega, by omega⟩⟩) (And.intro (fun zh1 => ?_) (fun zh1 => ?_))
    · replace zh1 : M 27 2 ≤ i := zh1
      exfalso; omega
    · replace zh1 : ¬ (M 27 2 ≤ i) := zh1
      change AW ev false 1 t_X8_busyAll Q 19 [some (vR 27), some (vI c), some (vI i)] [vI i, vR 27, vI c] (tkM M (ltA M))
      refine AW.callV (d' := 0) [vI i] [vI c] vm_X8_busyOf rfl hX8_201 (okP_d pk_X8_busyAll 13 19 (.invokevirtual 201) 3 rfl) (by decide) rfl (Nat.le_of_ble_eq_true rfl) ?_
      refine c_X8_busyOf i (by omega) (fun i q0 q1 => ltA_bd zp0.1 q0 q1) (fun w1 zw1 => ?_)
      replace zw1 : w1 = bzT (fun t => ltA M (72 * i + t)) 72 0 0 := zw1
      change AW ev false 1 t_X8_busyAll Q 22 [some (vR 27), some (vI c), some (vI i)] [vI w1, vI c] (tkM M (ltA M))
      refine AW.go pk_X8_busyAll 14 4 rfl rfl ?_
      refine And.intro (show 1 < mL t_X8_busyAll from (by decide)) ?_
      refine And.intro (show 2 < mL t_X8_busyAll from (by decide)) ?_
      change AW ev false 1 t_X8_busyAll Q 8 [some (vR 27), some (vI (c + w1)), some (vI (i + 1))] [] (tkM M (ltA M))
      exact zih (i + 1) (c + w1) (by omega) (by omega) (fun r zr => zv1 r (by rw [zr, zw1]; rfl))
theorem c_X8_busyAll {ev : Ev} {Q : Out → Mem → Prop} {M : Mem}   (zp0 : GJ M) (zp1 : 0 ≤ M 27 2 ∧ M 27 2 ≤ 8) (zQ : ∀ (r : Int), r = bzA (lt0 M) (M 27 2).toNat 0 0 → Q (.inl (some (vI r))) (tkM M (ltA M))) : AM ev false 1 t_X8_busyAll [vR 27] M Q := by
  have zs := zp0.1
  refine AM.of mt_X8_busyAll (Nat.le_of_ble_eq_true rfl) ?_
  change AW ev false 1 t_X8_busyAll Q 0 [some (vR 27), none, none] [] M
  refine AW.go pk_X8_busyAll 0 2 rfl rfl ?_
  change AW ev false 1 t_X8_busyAll Q 1 [some (vR 27), none, none] [vR 27] M
  refine AW.callV (d' := 0) [] [] vm_X8_layTurns rfl hX8_171 (okP_d pk_X8_busyAll 1 1 (.invokevirtual 171) 3 rfl) (by decide) rfl (Nat.le_of_ble_eq_true rfl) ?_
  refine c_X8_layTurns  zp0 ?_
  change AW ev false 1 t_X8_busyAll Q 4 [some (vR 27), none, none] [] (tkM M (ltA M))
  refine AW.go pk_X8_busyAll 2 4 rfl rfl ?_
  refine And.intro (show 1 < mL t_X8_busyAll from (by decide)) ?_
  refine And.intro (show 2 < mL t_X8_busyAll from (by decide)) ?_
  change AW ev false 1 t_X8_busyAll Q 8 [some (vR 27), some (vI 0), some (vI 0)] [] (tkM M (ltA M))
  exact lz_busyA8 zp0 zp1 (M 27 2).toNat 0 0 (by omega) (by omega) (fun r zr => zQ r (by rw [zr]; exact bzA_congr _ _ _ (by omega) (fun j q0 q1 => ltA_0 (by omega) (by omega))))
theorem c_X8_counted_0 {ev : Ev} {Q : Out → Mem → Prop} {M : Mem}   (zp0 : TJ M) (zp1 : SJ M) (zp2 : KJ M) (zp3 : GJ M) (zQ : ∀ (r : Int), r = M 27 2 → Q (.inl (some (vI r))) M) : AM ev false 5 t_X8_counted [vR 27, vI 0] M Q := by
  refine AM.of mt_X8_counted (Nat.le_of_ble_eq_true rfl) ?_
  change AW ev false 5 t_X8_counted Q 0 [some (vR 27), some (vI 0)] [] M
  refine AW.go pk_X8_counted 0 2 rfl rfl ?_
  refine And.intro (show Inr 0 from ⟨by omega, by omega⟩) ?_
  change AW ev false 5 t_X8_counted Q 48 [some (vR 27), some (vI 0)] [] M
  refine AW.go pk_X8_counted 2 3 rfl rfl ?_
  refine And.intro rfl ?_
  exact zQ _ rfl
theorem c_X8_counted_1 {ev : Ev} {Q : Out → Mem → Prop} {M : Mem}   (zp0 : TJ M) (zp1 : SJ M) (zp2 : KJ M) (zp3 : GJ M) (zQ : ∀ (r : Int), r = M 27 6 → Q (.inl (some (vI r))) M) : AM ev false 5 t_X8_counted [vR 27, vI 1] M Q := by
  refine AM.of mt_X8_counted (Nat.le_of_ble_eq_true rfl) ?_
  change AW ev false 5 t_X8_counted Q 0 [some (vR 27), some (vI 1)] [] M
  refine AW.go pk_X8_counted 0 2 rfl rfl ?_
  refine And.intro (show Inr 1 from ⟨by omega, by omega⟩) ?_
  change AW ev false 5 t_X8_counted Q 53 [some (vR 27), some (vI 1)] [] M
  refine AW.go pk_X8_counted 5 3 rfl rfl ?_
  refine And.intro rfl ?_
  exact zQ _ rfl
theorem c_X8_counted_2 {ev : Ev} {Q : Out → Mem → Prop} {M : Mem}   (zp0 : TJ M) (zp1 : SJ M) (zp2 : KJ M) (zp3 : GJ M) (zQ : ∀ (r : Int), r = M 27 11 → Q (.inl (some (vI r))) M) : AM ev false 5 t_X8_counted [vR 27, vI 2] M Q := by
  refine AM.of mt_X8_counted (Nat.le_of_ble_eq_true rfl) ?_
  change AW ev false 5 t_X8_counted Q 0 [some (vR 27), some (vI 2)] [] M
  refine AW.go pk_X8_counted 0 2 rfl rfl ?_
  refine And.intro (show Inr 2 from ⟨by omega, by omega⟩) ?_
  change AW ev false 5 t_X8_counted Q 58 [some (vR 27), some (vI 2)] [] M
  refine AW.go pk_X8_counted 8 3 rfl rfl ?_
  refine And.intro rfl ?_
  exact zQ _ rfl
theorem c_X8_counted_3 {ev : Ev} {Q : Out → Mem → Prop} {M : Mem}   (zp0 : TJ M) (zp1 : SJ M) (zp2 : KJ M) (zp3 : GJ M) (zQ : ∀ (r : Int), r = grT (M 28) 144 0 0 → Q (.inl (some (vI r))) M) : AM ev false 5 t_X8_counted [vR 27, vI 3] M Q := by
  refine AM.of mt_X8_counted (Nat.le_of_ble_eq_true rfl) ?_
  change AW ev false 5 t_X8_counted Q 0 [some (vR 27), some (vI 3)] [] M
  refine AW.go pk_X8_counted 0 2 rfl rfl ?_
  refine And.intro (show Inr 3 from ⟨by omega, by omega⟩) ?_
  change AW ev false 5 t_X8_counted Q 63 [some (vR 27), some (vI 3)] [] M
  refine AW.go pk_X8_counted 11 2 rfl rfl ?_
  change AW ev false 5 t_X8_counted Q 64 [some (vR 27), some (vI 3)] [vR 27] M
  refine AW.callV (d' := 0) [] [] vm_X8_highest rfl hX8_204 (okP_d pk_X8_counted 12 64 (.invokevirtual 204) 3 rfl) (by decide) rfl (Nat.le_of_ble_eq_true rfl) ?_
  refine c_X8_highest  zp0 (fun w1 zw1 => ?_)
  change AW ev false 5 t_X8_counted Q 67 [some (vR 27), some (vI 3)] [vI w1] M
  refine AW.go pk_X8_counted 13 1 rfl rfl ?_
  refine And.intro rfl ?_
  exact zQ w1 zw1
theorem c_X8_counted_4 {ev : Ev} {Q : Out → Mem → Prop} {M : Mem}   (zp0 : TJ M) (zp1 : SJ M) (zp2 : KJ M) (zp3 : GJ M) (zQ : ∀ (r : Int), r = smT (M 28) 144 0 0 → Q (.inl (some (vI r))) M) : AM ev false 5 t_X8_counted [vR 27, vI 4] M Q := by
  refine AM.of mt_X8_counted (Nat.le_of_ble_eq_true rfl) ?_
  change AW ev false 5 t_X8_counted Q 0 [some (vR 27), some (vI 4)] [] M
  refine AW.go pk_X8_counted 0 2 rfl rfl ?_
  refine And.intro (show Inr 4 from ⟨by omega, by omega⟩) ?_
  change AW ev false 5 t_X8_counted Q 68 [some (vR 27), some (vI 4)] [] M
  refine AW.go pk_X8_counted 14 2 rfl rfl ?_
  change AW ev false 5 t_X8_counted Q 69 [some (vR 27), some (vI 4)] [vR 27] M
  refine AW.callV (d' := 0) [] [] vm_X8_heights rfl hX8_207 (okP_d pk_X8_counted 15 69 (.invokevirtual 207) 3 rfl) (by decide) rfl (Nat.le_of_ble_eq_true rfl) ?_
  refine c_X8_heights   (fun w1 zw1 => ?_)
  change AW ev false 5 t_X8_counted Q 72 [some (vR 27), some (vI 4)] [vI w1] M
  refine AW.go pk_X8_counted 16 1 rfl rfl ?_
  refine And.intro rfl ?_
  exact zQ w1 zw1
theorem c_X8_counted_5 {ev : Ev} {Q : Out → Mem → Prop} {M : Mem}   (zp0 : TJ M) (zp1 : SJ M) (zp2 : KJ M) (zp3 : GJ M) (zQ : ∀ (r : Int), r = c2T (M 31) (M 27 2).toNat 0 0 → Q (.inl (some (vI r))) M) : AM ev false 5 t_X8_counted [vR 27, vI 5] M Q := by
  refine AM.of mt_X8_counted (Nat.le_of_ble_eq_true rfl) ?_
  change AW ev false 5 t_X8_counted Q 0 [some (vR 27), some (vI 5)] [] M
  refine AW.go pk_X8_counted 0 2 rfl rfl ?_
  refine And.intro (show Inr 5 from ⟨by omega, by omega⟩) ?_
  change AW ev false 5 t_X8_counted Q 73 [some (vR 27), some (vI 5)] [] M
  refine AW.go pk_X8_counted 17 2 rfl rfl ?_
  change AW ev false 5 t_X8_counted Q 74 [some (vR 27), some (vI 5)] [vR 27] M
  refine AW.callV (d' := 0) [] [] vm_X8_doubles rfl hX8_161 (okP_d pk_X8_counted 18 74 (.invokevirtual 161) 3 rfl) (by decide) rfl (Nat.le_of_ble_eq_true rfl) ?_
  refine c_X8_doubles  zp1 (fun w1 zw1 => ?_)
  change AW ev false 5 t_X8_counted Q 77 [some (vR 27), some (vI 5)] [vI w1] M
  refine AW.go pk_X8_counted 19 1 rfl rfl ?_
  refine And.intro rfl ?_
  exact zQ w1 zw1
theorem c_X8_counted_6 {ev : Ev} {Q : Out → Mem → Prop} {M : Mem}   (zp0 : TJ M) (zp1 : SJ M) (zp2 : KJ M) (zp3 : GJ M) (zQ : ∀ (r : Int), r = siA (betF (M 28) (M 29) (M 30)) (M 27 2).toNat (M 27 2).toNat 0 0 → Q (.inl (some (vI r))) M) : AM ev false 5 t_X8_counted [vR 27, vI 6] M Q := by
  refine AM.of mt_X8_counted (Nat.le_of_ble_eq_true rfl) ?_
  change AW ev false 5 t_X8_counted Q 0 [some (vR 27), some (vI 6)] [] M
  refine AW.go pk_X8_counted 0 2 rfl rfl ?_
  refine And.intro (show Inr 6 from ⟨by omega, by omega⟩) ?_
  change AW ev false 5 t_X8_counted Q 78 [some (vR 27), some (vI 6)] [] M
  refine AW.go pk_X8_counted 20 2 rfl rfl ?_
  change AW ev false 5 t_X8_counted Q 79 [some (vR 27), some (vI 6)] [vR 27] M
  refine AW.callV (d' := 4) [] [] vm_X8_sights rfl hX8_210 (okP_d pk_X8_counted 21 79 (.invokevirtual 210) 3 rfl) (by decide) rfl (Nat.le_of_ble_eq_true rfl) ?_
  refine c_X8_sights  zp0 zp1 (fun w1 zw1 => ?_)
  change AW ev false 5 t_X8_counted Q 82 [some (vR 27), some (vI 6)] [vI w1] M
  refine AW.go pk_X8_counted 22 1 rfl rfl ?_
  refine And.intro rfl ?_
  exact zQ w1 zw1
theorem c_X8_counted_7 {ev : Ev} {Q : Out → Mem → Prop} {M : Mem}   (zp0 : TJ M) (zp1 : SJ M) (zp2 : KJ M) (zp3 : GJ M) (zQ : ∀ (r : Int), r = bzA (lt0 M) (M 27 2).toNat 0 0 → Q (.inl (some (vI r))) (tkM M (ltA M))) : AM ev false 5 t_X8_counted [vR 27, vI 7] M Q := by
  refine AM.of mt_X8_counted (Nat.le_of_ble_eq_true rfl) ?_
  change AW ev false 5 t_X8_counted Q 0 [some (vR 27), some (vI 7)] [] M
  refine AW.go pk_X8_counted 0 2 rfl rfl ?_
  refine And.intro (show Inr 7 from ⟨by omega, by omega⟩) ?_
  change AW ev false 5 t_X8_counted Q 83 [some (vR 27), some (vI 7)] [] M
  refine AW.go pk_X8_counted 23 2 rfl rfl ?_
  change AW ev false 5 t_X8_counted Q 84 [some (vR 27), some (vI 7)] [vR 27] M
  refine AW.callV (d' := 1) [] [] vm_X8_busyAll rfl hX8_213 (okP_d pk_X8_counted 24 84 (.invokevirtual 213) 3 rfl) (by decide) rfl (Nat.le_of_ble_eq_true rfl) ?_
  refine c_X8_busyAll  zp3 zp1.1 (fun w1 zw1 => ?_)
  change AW ev false 5 t_X8_counted Q 87 [some (vR 27), some (vI 7)] [vI w1] (tkM M (ltA M))
  refine AW.go pk_X8_counted 25 1 rfl rfl ?_
  refine And.intro rfl ?_
  exact zQ w1 zw1
theorem c_X8_counted_8 {ev : Ev} {Q : Out → Mem → Prop} {M : Mem}   (zp0 : TJ M) (zp1 : SJ M) (zp2 : KJ M) (zp3 : GJ M) (zQ : ∀ (r : Int), r = laT (fun m => M 36 (6 * m + 4)) (M 27 11).toNat 0 (-1) → Q (.inl (some (vI r))) M) : AM ev false 5 t_X8_counted [vR 27, vI 8] M Q := by
  refine AM.of mt_X8_counted (Nat.le_of_ble_eq_true rfl) ?_
  change AW ev false 5 t_X8_counted Q 0 [some (vR 27), some (vI 8)] [] M
  refine AW.go pk_X8_counted 0 2 rfl rfl ?_
  refine And.intro (show Inr 8 from ⟨by omega, by omega⟩) ?_
  change AW ev false 5 t_X8_counted Q 88 [some (vR 27), some (vI 8)] [] M
  refine AW.go pk_X8_counted 26 2 rfl rfl ?_
  change AW ev false 5 t_X8_counted Q 89 [some (vR 27), some (vI 8)] [vR 27] M
  refine AW.callV (d' := 0) [] [] vm_X8_latest rfl hX8_216 (okP_d pk_X8_counted 27 89 (.invokevirtual 216) 3 rfl) (by decide) rfl (Nat.le_of_ble_eq_true rfl) ?_
  refine c_X8_latest  zp3 (fun w1 zw1 => ?_)
  change AW ev false 5 t_X8_counted Q 92 [some (vR 27), some (vI 8)] [vI w1] M
  refine AW.go pk_X8_counted 28 1 rfl rfl ?_
  refine And.intro rfl ?_
  exact zQ w1 zw1
theorem c_X8_counted {ev : Ev} {Q : Out → Mem → Prop} {M : Mem}  (w : Int) (zp0 : TJ M) (zp1 : SJ M) (zp2 : KJ M) (zp3 : GJ M) (zp4 : 0 ≤ w ∧ w < 9) (zQ0 : ∀ (x : Int → Int), (-2147483648 ≤ nmR M w ∧ nmR M w < 2147483648) → Q (.inl (some (vI (nmR M w)))) (tkM M x)) : AM ev false 5 t_X8_counted [vR 27, vI w] M Q := by
  have zb := nmR_bd zp0 zp1 zp2 zp3 w
  have zc : w = 0 ∨ w = 1 ∨ w = 2 ∨ w = 3 ∨ w = 4 ∨ w = 5 ∨ w = 6 ∨ w = 7 ∨ w = 8 := by omega
  rcases zc with rfl | rfl | rfl | rfl | rfl | rfl | rfl | rfl | rfl
  · exact c_X8_counted_0  zp0 zp1 zp2 zp3 (fun r zr => by rw [show r = nmR M 0 from zr]; exact Eq.mpr (congrArg (Q _) (tk_self M)) (zQ0 _ zb))
  · exact c_X8_counted_1  zp0 zp1 zp2 zp3 (fun r zr => by rw [show r = nmR M 1 from zr]; exact Eq.mpr (congrArg (Q _) (tk_self M)) (zQ0 _ zb))
  · exact c_X8_counted_2  zp0 zp1 zp2 zp3 (fun r zr => by rw [show r = nmR M 2 from zr]; exact Eq.mpr (congrArg (Q _) (tk_self M)) (zQ0 _ zb))
  · exact c_X8_counted_3  zp0 zp1 zp2 zp3 (fun r zr => by rw [show r = nmR M 3 from zr]; exact Eq.mpr (congrArg (Q _) (tk_self M)) (zQ0 _ zb))
  · exact c_X8_counted_4  zp0 zp1 zp2 zp3 (fun r zr => by rw [show r = nmR M 4 from zr]; exact Eq.mpr (congrArg (Q _) (tk_self M)) (zQ0 _ zb))
  · exact c_X8_counted_5  zp0 zp1 zp2 zp3 (fun r zr => by rw [show r = nmR M 5 from zr]; exact Eq.mpr (congrArg (Q _) (tk_self M)) (zQ0 _ zb))
  · exact c_X8_counted_6  zp0 zp1 zp2 zp3 (fun r zr => by rw [show r = nmR M 6 from zr]; exact Eq.mpr (congrArg (Q _) (tk_self M)) (zQ0 _ zb))
  · exact c_X8_counted_7  zp0 zp1 zp2 zp3 (fun r zr => by rw [show r = nmR M 7 from zr]; exact zQ0 _ zb)
  · exact c_X8_counted_8  zp0 zp1 zp2 zp3 (fun r zr => by rw [show r = nmR M 8 from zr]; exact Eq.mpr (congrArg (Q _) (tk_self M)) (zQ0 _ zb))
theorem c_X8_count {ev : Ev} {Q : Out → Mem → Prop} {M : Mem}  (w : Int) (zp0 : TJ M) (zp1 : SJ M) (zp2 : KJ M) (zp3 : GJ M) (zp4 : -2147483648 ≤ w ∧ w < 2147483648) (zQ0 : ∀ (x : Int → Int), 0 ≤ w ∧ w ≤ 8 → Q (.inl (some (vI (nmR M w)))) (tkM (upM M 27 0 0) x)) (zQ1 : ¬ (0 ≤ w ∧ w ≤ 8) → Q (.inl (some (vI 0))) (upM M 27 0 1)) : AM ev false 6 t_X8_count [vR 27, vI w] M Q := by
  refine AM.of mt_X8_count (Nat.le_of_ble_eq_true rfl) ?_
  change AW ev false 6 t_X8_count Q 0 [some (vR 27), some (vI w)] [] M
  refine AW.go pk_X8_count 0 5 rfl rfl ?_
  change AW ev false 6 t_X8_count Q 5 [some (vR 27), some (vI w)] [vI 8, vI 0, vI w, vR 27] M
  refine AW.callS (d' := 0) [vI w, vI 0, vI 8] [vR 27] sm_X8_within hX8_69 (okP_d pk_X8_count 4 5 (.invokestatic 69) 3 rfl) (by decide) rfl (Nat.le_of_ble_eq_true rfl) ?_
  refine c_X8_within w 0 8 (by omega) (by omega) (by omega) (fun zr1 zzr1 => ?_)
  change AW ev false 6 t_X8_count Q 8 [some (vR 27), some (vI w)] [vI zr1, vR 27] M
  refine AW.go pk_X8_count 5 3 rfl rfl ?_
  refine And.intro (show Inr zr1 from ⟨by omega, by omega⟩) (And.intro (fun zh2 => ?_) (fun zh2 => ?_))
  · replace zh2 : zr1 = (0 : Int) := zh2
    change AW ev false 6 t_X8_count Q 15 [some (vR 27), some (vI w)] [vR 27] M
    refine AW.go pk_X8_count 8 7 rfl rfl ?_
    refine And.intro (show Inr 1 from ⟨by omega, by omega⟩) (And.intro (fun zh3 => ?_) (fun zh3 => ?_))
    · replace zh3 : (1 : Int) ≤ (0 : Int) := zh3
      exfalso; omega
    · replace zh3 : ¬ ((1 : Int) ≤ (0 : Int)) := zh3
      change AW ev false 6 t_X8_count Q 35 [some (vR 27), some (vI w)] [vI 0] (upM M 27 0 1)
      refine AW.go pk_X8_count 18 1 rfl rfl ?_
      refine And.intro rfl ?_
      exact zQ1 (by omega)
  · replace zh2 : ¬ (zr1 = (0 : Int)) := zh2
    change AW ev false 6 t_X8_count Q 16 [some (vR 27), some (vI w)] [vI 0, vR 27] M
    refine AW.go pk_X8_count 9 6 rfl rfl ?_
    refine And.intro (show Inr 0 from ⟨by omega, by omega⟩) (And.intro (fun zh4 => ?_) (fun zh4 => ?_))
    · replace zh4 : (0 : Int) ≤ (0 : Int) := zh4
      change AW ev false 6 t_X8_count Q 30 [some (vR 27), some (vI w)] [] (upM M 27 0 0)
      refine AW.go pk_X8_count 15 3 rfl rfl ?_
      change AW ev false 6 t_X8_count Q 32 [some (vR 27), some (vI w)] [vI w, vR 27] (upM M 27 0 0)
      refine AW.callV (d' := 5) [vI w] [] vm_X8_counted rfl hX8_219 (okP_d pk_X8_count 17 32 (.invokevirtual 219) 3 rfl) (by decide) rfl (Nat.le_of_ble_eq_true rfl) ?_
      refine c_X8_counted w zp0 zp1 zp2 zp3 (by omega) (fun x zc6 => ?_)
      · replace zc6 : (-2147483648 ≤ nmR M w ∧ nmR M w < 2147483648) := zc6
        have zcc := zc6
        change AW ev false 6 t_X8_count Q 35 [some (vR 27), some (vI w)] [vI (nmR M w)] (tkM (upM M 27 0 0) x)
        refine AW.go pk_X8_count 18 1 rfl rfl ?_
        refine And.intro rfl ?_
        exact zQ0 x (by omega)
    · replace zh4 : ¬ ((0 : Int) ≤ (0 : Int)) := zh4
      exfalso; omega
theorem c_X8_told_0 {ev : Ev} {Q : Out → Mem → Prop} {M : Mem}  (s : Int) (zp0 : TJ M) (zp1 : SJ M) (zp2 : KJ M) (zp3 : GJ M) (zp4 : 0 ≤ s ∧ s < M 27 2) (zQ : ∀ (r : Int), r = M 29 s → Q (.inl (some (vI r))) M) : AM ev false 5 t_X8_told [vR 27, vI s, vI 0] M Q := by
  have zs := zp1.1
  refine AM.of mt_X8_told (Nat.le_of_ble_eq_true rfl) ?_
  change AW ev false 5 t_X8_told Q 0 [some (vR 27), some (vI s), some (vI 0)] [] M
  refine AW.go pk_X8_told 0 2 rfl rfl ?_
  refine And.intro (show Inr 0 from ⟨by omega, by omega⟩) ?_
  change AW ev false 5 t_X8_told Q 36 [some (vR 27), some (vI s), some (vI 0)] [] M
  refine AW.go pk_X8_told 2 5 rfl rfl ?_
  refine And.intro (show (0 ≤ s ∧ s < 8) from (by omega)) ?_
  refine And.intro rfl ?_
  exact zQ _ rfl
theorem c_X8_told_1 {ev : Ev} {Q : Out → Mem → Prop} {M : Mem}  (s : Int) (zp0 : TJ M) (zp1 : SJ M) (zp2 : KJ M) (zp3 : GJ M) (zp4 : 0 ≤ s ∧ s < M 27 2) (zQ : ∀ (r : Int), r = M 30 s → Q (.inl (some (vI r))) M) : AM ev false 5 t_X8_told [vR 27, vI s, vI 1] M Q := by
  have zs := zp1.1
  refine AM.of mt_X8_told (Nat.le_of_ble_eq_true rfl) ?_
  change AW ev false 5 t_X8_told Q 0 [some (vR 27), some (vI s), some (vI 1)] [] M
  refine AW.go pk_X8_told 0 2 rfl rfl ?_
  refine And.intro (show Inr 1 from ⟨by omega, by omega⟩) ?_
  change AW ev false 5 t_X8_told Q 43 [some (vR 27), some (vI s), some (vI 1)] [] M
  refine AW.go pk_X8_told 7 5 rfl rfl ?_
  refine And.intro (show (0 ≤ s ∧ s < 8) from (by omega)) ?_
  refine And.intro rfl ?_
  exact zQ _ rfl
theorem c_X8_told_2 {ev : Ev} {Q : Out → Mem → Prop} {M : Mem}  (s : Int) (zp0 : TJ M) (zp1 : SJ M) (zp2 : KJ M) (zp3 : GJ M) (zp4 : 0 ≤ s ∧ s < M 27 2) (zQ : ∀ (r : Int), r = M 31 s → Q (.inl (some (vI r))) M) : AM ev false 5 t_X8_told [vR 27, vI s, vI 2] M Q := by
  have zs := zp1.1
  refine AM.of mt_X8_told (Nat.le_of_ble_eq_true rfl) ?_
  change AW ev false 5 t_X8_told Q 0 [some (vR 27), some (vI s), some (vI 2)] [] M
  refine AW.go pk_X8_told 0 2 rfl rfl ?_
  refine And.intro (show Inr 2 from ⟨by omega, by omega⟩) ?_
  change AW ev false 5 t_X8_told Q 50 [some (vR 27), some (vI s), some (vI 2)] [] M
  refine AW.go pk_X8_told 12 5 rfl rfl ?_
  refine And.intro (show (0 ≤ s ∧ s < 8) from (by omega)) ?_
  refine And.intro rfl ?_
  exact zQ _ rfl
theorem c_X8_told_3 {ev : Ev} {Q : Out → Mem → Prop} {M : Mem}  (s : Int) (zp0 : TJ M) (zp1 : SJ M) (zp2 : KJ M) (zp3 : GJ M) (zp4 : 0 ≤ s ∧ s < M 27 2) (zQ : ∀ (r : Int), r = eyeF (M 28) (M 29) (M 30) s → Q (.inl (some (vI r))) M) : AM ev false 5 t_X8_told [vR 27, vI s, vI 3] M Q := by
  have zs := zp1.1
  refine AM.of mt_X8_told (Nat.le_of_ble_eq_true rfl) ?_
  change AW ev false 5 t_X8_told Q 0 [some (vR 27), some (vI s), some (vI 3)] [] M
  refine AW.go pk_X8_told 0 2 rfl rfl ?_
  refine And.intro (show Inr 3 from ⟨by omega, by omega⟩) ?_
  change AW ev false 5 t_X8_told Q 57 [some (vR 27), some (vI s), some (vI 3)] [] M
  refine AW.go pk_X8_told 17 3 rfl rfl ?_
  change AW ev false 5 t_X8_told Q 59 [some (vR 27), some (vI s), some (vI 3)] [vI s, vR 27] M
  refine AW.callV (d' := 0) [vI s] [] vm_X8_eyeOf rfl hX8_127 (okP_d pk_X8_told 19 59 (.invokevirtual 127) 3 rfl) (by decide) rfl (Nat.le_of_ble_eq_true rfl) ?_
  refine c_X8_eyeOf s zp0 zp1 (by omega) (fun w1 zw1 => ?_)
  change AW ev false 5 t_X8_told Q 62 [some (vR 27), some (vI s), some (vI 3)] [vI w1] M
  refine AW.go pk_X8_told 20 1 rfl rfl ?_
  refine And.intro rfl ?_
  exact zQ w1 zw1.1
theorem c_X8_told_4 {ev : Ev} {Q : Out → Mem → Prop} {M : Mem}  (s : Int) (zp0 : TJ M) (zp1 : SJ M) (zp2 : KJ M) (zp3 : GJ M) (zp4 : 0 ≤ s ∧ s < M 27 2) (zQ : ∀ (r : Int), r = sunT (M 28) (M 29) (M 30) (cvR M) s → Q (.inl (some (vI r))) M) : AM ev false 5 t_X8_told [vR 27, vI s, vI 4] M Q := by
  have zs := zp1.1
  refine AM.of mt_X8_told (Nat.le_of_ble_eq_true rfl) ?_
  change AW ev false 5 t_X8_told Q 0 [some (vR 27), some (vI s), some (vI 4)] [] M
  refine AW.go pk_X8_told 0 2 rfl rfl ?_
  refine And.intro (show Inr 4 from ⟨by omega, by omega⟩) ?_
  change AW ev false 5 t_X8_told Q 63 [some (vR 27), some (vI s), some (vI 4)] [] M
  refine AW.go pk_X8_told 21 3 rfl rfl ?_
  change AW ev false 5 t_X8_told Q 65 [some (vR 27), some (vI s), some (vI 4)] [vI s, vR 27] M
  refine AW.callV (d' := 4) [vI s] [] vm_X8_sunny rfl hX8_222 (okP_d pk_X8_told 23 65 (.invokevirtual 222) 3 rfl) (by decide) rfl (Nat.le_of_ble_eq_true rfl) ?_
  refine c_X8_sunny s zp0 zp1 zp2 (by omega) (fun w1 zw1 => ?_)
  change AW ev false 5 t_X8_told Q 68 [some (vR 27), some (vI s), some (vI 4)] [vI w1] M
  refine AW.go pk_X8_told 24 1 rfl rfl ?_
  refine And.intro rfl ?_
  exact zQ w1 zw1.1
theorem c_X8_told_5 {ev : Ev} {Q : Out → Mem → Prop} {M : Mem}  (s : Int) (zp0 : TJ M) (zp1 : SJ M) (zp2 : KJ M) (zp3 : GJ M) (zp4 : 0 ≤ s ∧ s < M 27 2) (zQ : ∀ (r : Int), r = bzT (fun t => lt0 M (72 * s + t)) 72 0 0 → Q (.inl (some (vI r))) (tkM M (ltA M))) : AM ev false 5 t_X8_told [vR 27, vI s, vI 5] M Q := by
  have zs := zp1.1
  refine AM.of mt_X8_told (Nat.le_of_ble_eq_true rfl) ?_
  change AW ev false 5 t_X8_told Q 0 [some (vR 27), some (vI s), some (vI 5)] [] M
  refine AW.go pk_X8_told 0 2 rfl rfl ?_
  refine And.intro (show Inr 5 from ⟨by omega, by omega⟩) ?_
  change AW ev false 5 t_X8_told Q 69 [some (vR 27), some (vI s), some (vI 5)] [] M
  refine AW.go pk_X8_told 25 2 rfl rfl ?_
  change AW ev false 5 t_X8_told Q 70 [some (vR 27), some (vI s), some (vI 5)] [vR 27] M
  refine AW.callV (d' := 0) [] [] vm_X8_layTurns rfl hX8_171 (okP_d pk_X8_told 26 70 (.invokevirtual 171) 3 rfl) (by decide) rfl (Nat.le_of_ble_eq_true rfl) ?_
  refine c_X8_layTurns  zp3 ?_
  change AW ev false 5 t_X8_told Q 73 [some (vR 27), some (vI s), some (vI 5)] [] (tkM M (ltA M))
  refine AW.go pk_X8_told 27 3 rfl rfl ?_
  change AW ev false 5 t_X8_told Q 75 [some (vR 27), some (vI s), some (vI 5)] [vI s, vR 27] (tkM M (ltA M))
  refine AW.callV (d' := 0) [vI s] [] vm_X8_busyOf rfl hX8_201 (okP_d pk_X8_told 29 75 (.invokevirtual 201) 3 rfl) (by decide) rfl (Nat.le_of_ble_eq_true rfl) ?_
  refine c_X8_busyOf s (by omega) (fun i q0 q1 => ltA_bd zp3.1 q0 q1) (fun w1 zw1 => ?_)
  replace zw1 : w1 = bzT (fun t => ltA M (72 * s + t)) 72 0 0 := zw1
  change AW ev false 5 t_X8_told Q 78 [some (vR 27), some (vI s), some (vI 5)] [vI w1] (tkM M (ltA M))
  refine AW.go pk_X8_told 30 1 rfl rfl ?_
  refine And.intro rfl ?_
  exact zQ w1 (by rw [zw1]; exact bzT_congr _ _ _ (fun j q0 q1 => ltA_0 (by omega) (by omega)))
theorem c_X8_told {ev : Ev} {Q : Out → Mem → Prop} {M : Mem}  (s : Int) (w : Int) (zp0 : TJ M) (zp1 : SJ M) (zp2 : KJ M) (zp3 : GJ M) (zp4 : 0 ≤ s ∧ s < M 27 2) (zp5 : 0 ≤ w ∧ w < 6) (zQ0 : ∀ (x : Int → Int), (-2147483648 ≤ spR M s w ∧ spR M s w < 2147483648) → Q (.inl (some (vI (spR M s w)))) (tkM M x)) : AM ev false 5 t_X8_told [vR 27, vI s, vI w] M Q := by
  have zb := spR_bd zp0 zp1 zp4 w
  have zc : w = 0 ∨ w = 1 ∨ w = 2 ∨ w = 3 ∨ w = 4 ∨ w = 5 := by omega
  rcases zc with rfl | rfl | rfl | rfl | rfl | rfl
  · exact c_X8_told_0 s zp0 zp1 zp2 zp3 zp4 (fun r zr => by rw [show r = spR M s 0 from zr]; exact Eq.mpr (congrArg (Q _) (tk_self M)) (zQ0 _ zb))
  · exact c_X8_told_1 s zp0 zp1 zp2 zp3 zp4 (fun r zr => by rw [show r = spR M s 1 from zr]; exact Eq.mpr (congrArg (Q _) (tk_self M)) (zQ0 _ zb))
  · exact c_X8_told_2 s zp0 zp1 zp2 zp3 zp4 (fun r zr => by rw [show r = spR M s 2 from zr]; exact Eq.mpr (congrArg (Q _) (tk_self M)) (zQ0 _ zb))
  · exact c_X8_told_3 s zp0 zp1 zp2 zp3 zp4 (fun r zr => by rw [show r = spR M s 3 from zr]; exact Eq.mpr (congrArg (Q _) (tk_self M)) (zQ0 _ zb))
  · exact c_X8_told_4 s zp0 zp1 zp2 zp3 zp4 (fun r zr => by rw [show r = spR M s 4 from zr]; exact Eq.mpr (congrArg (Q _) (tk_self M)) (zQ0 _ zb))
  · exact c_X8_told_5 s zp0 zp1 zp2 zp3 zp4 (fun r zr => by rw [show r = spR M s 5 from zr]; exact zQ0 _ zb)
theorem c_X8_station {ev : Ev} {Q : Out → Mem → Prop} {M : Mem}  (s : Int) (w : Int) (zp0 : TJ M) (zp1 : SJ M) (zp2 : KJ M) (zp3 : GJ M) (zp4 : -2147483648 ≤ s ∧ s < 2147483648) (zp5 : -2147483648 ≤ w ∧ w < 2147483648) (zQ0 : ∀ (x : Int → Int), (0 ≤ s ∧ s < M 27 2) ∧ 0 ≤ w ∧ w ≤ 5 → Q (.inl (some (vI (spR M s w)))) (tkM (upM M 27 0 0) x)) (zQ1 : ¬ (0 ≤ s ∧ s < M 27 2) → Q (.inl (some (vI 0))) (upM M 27 0 1)) (zQ2 : (0 ≤ s ∧ s < M 27 2) ∧ ¬ (0 ≤ w ∧ w ≤ 5) → Q (.inl (some (vI 0))) (upM M 27 0 2)) : AM ev false 6 t_X8_station [vR 27, vI s, vI w] M Q := by
  have zs := zp1.1
  refine AM.of mt_X8_station (Nat.le_of_ble_eq_true rfl) ?_
  change AW ev false 6 t_X8_station Q 0 [some (vR 27), some (vI s), some (vI w)] [] M
  refine AW.go pk_X8_station 0 4 rfl rfl ?_
  change AW ev false 6 t_X8_station Q 3 [some (vR 27), some (vI s), some (vI w)] [vI s, vR 27, vR 27] M
  refine AW.callV (d' := 1) [vI s] [vR 27] vm_X8_isStation rfl hX8_158 (okP_d pk_X8_station 3 3 (.invokevirtual 158) 3 rfl) (by decide) rfl (Nat.le_of_ble_eq_true rfl) ?_
  refine c_X8_isStation s (by omega) (by omega) (fun zr1 zzr1 => ?_)
  change AW ev false 6 t_X8_station Q 6 [some (vR 27), some (vI s), some (vI w)] [vI zr1, vR 27] M
  refine AW.go pk_X8_station 4 3 rfl rfl ?_
  refine And.intro (show Inr zr1 from ⟨by omega, by omega⟩) (And.intro (fun zh2 => ?_) (fun zh2 => ?_))
  · replace zh2 : zr1 ≠ (0 : Int) := zh2
    change AW ev false 6 t_X8_station Q 13 [some (vR 27), some (vI s), some (vI w)] [vR 27] M
    refine AW.go pk_X8_station 7 4 rfl rfl ?_
    change AW ev false 6 t_X8_station Q 16 [some (vR 27), some (vI s), some (vI w)] [vI 5, vI 0, vI w, vR 27] M
    refine AW.callS (d' := 0) [vI w, vI 0, vI 5] [vR 27] sm_X8_within hX8_69 (okP_d pk_X8_station 10 16 (.invokestatic 69) 3 rfl) (by decide) rfl (Nat.le_of_ble_eq_true rfl) ?_
    refine c_X8_within w 0 5 (by omega) (by omega) (by omega) (fun zr3 zzr3 => ?_)
    change AW ev false 6 t_X8_station Q 19 [some (vR 27), some (vI s), some (vI w)] [vI zr3, vR 27] M
    refine AW.go pk_X8_station 11 3 rfl rfl ?_
    refine And.intro (show Inr zr3 from ⟨by omega, by omega⟩) (And.intro (fun zh4 => ?_) (fun zh4 => ?_))
    · replace zh4 : zr3 = (0 : Int) := zh4
      change AW ev false 6 t_X8_station Q 26 [some (vR 27), some (vI s), some (vI w)] [vR 27] M
      refine AW.go pk_X8_station 14 7 rfl rfl ?_
      refine And.intro (show Inr 2 from ⟨by omega, by omega⟩) (And.intro (fun zh5 => ?_) (fun zh5 => ?_))
      · replace zh5 : (2 : Int) ≤ (0 : Int) := zh5
        exfalso; omega
      · replace zh5 : ¬ ((2 : Int) ≤ (0 : Int)) := zh5
        change AW ev false 6 t_X8_station Q 47 [some (vR 27), some (vI s), some (vI w)] [vI 0] (upM M 27 0 2)
        refine AW.go pk_X8_station 25 1 rfl rfl ?_
        refine And.intro rfl ?_
        exact zQ2 (by omega)
    · replace zh4 : ¬ (zr3 = (0 : Int)) := zh4
      change AW ev false 6 t_X8_station Q 27 [some (vR 27), some (vI s), some (vI w)] [vI 0, vR 27] M
      refine AW.go pk_X8_station 15 6 rfl rfl ?_
      refine And.intro (show Inr 0 from ⟨by omega, by omega⟩) (And.intro (fun zh6 => ?_) (fun zh6 => ?_))
      · replace zh6 : (0 : Int) ≤ (0 : Int) := zh6
        change AW ev false 6 t_X8_station Q 41 [some (vR 27), some (vI s), some (vI w)] [] (upM M 27 0 0)
        refine AW.go pk_X8_station 21 4 rfl rfl ?_
        change AW ev false 6 t_X8_station Q 44 [some (vR 27), some (vI s), some (vI w)] [vI w, vI s, vR 27] (upM M 27 0 0)
        refine AW.callV (d' := 5) [vI s, vI w] [] vm_X8_told rfl hX8_225 (okP_d pk_X8_station 24 44 (.invokevirtual 225) 3 rfl) (by decide) rfl (Nat.le_of_ble_eq_true rfl) ?_
        refine c_X8_told s w zp0 zp1 zp2 zp3 (show 0 ≤ s ∧ s < (M 27 2) from by omega) (by omega) (fun x zc8 => ?_)
        · replace zc8 : (-2147483648 ≤ spR M s w ∧ spR M s w < 2147483648) := zc8
          change AW ev false 6 t_X8_station Q 47 [some (vR 27), some (vI s), some (vI w)] [vI (spR M s w)] (tkM (upM M 27 0 0) x)
          refine AW.go pk_X8_station 25 1 rfl rfl ?_
          refine And.intro rfl ?_
          exact zQ0 x (by omega)
      · replace zh6 : ¬ ((0 : Int) ≤ (0 : Int)) := zh6
        exfalso; omega
  · replace zh2 : ¬ (zr1 ≠ (0 : Int)) := zh2
    change AW ev false 6 t_X8_station Q 27 [some (vR 27), some (vI s), some (vI w)] [vI 1, vR 27] M
    refine AW.go pk_X8_station 15 6 rfl rfl ?_
    refine And.intro (show Inr 1 from ⟨by omega, by omega⟩) (And.intro (fun zh9 => ?_) (fun zh9 => ?_))
    · replace zh9 : (1 : Int) ≤ (0 : Int) := zh9
      exfalso; omega
    · replace zh9 : ¬ ((1 : Int) ≤ (0 : Int)) := zh9
      change AW ev false 6 t_X8_station Q 47 [some (vR 27), some (vI s), some (vI w)] [vI 0] (upM M 27 0 1)
      refine AW.go pk_X8_station 25 1 rfl rfl ?_
      refine And.intro rfl ?_
      exact zQ1 (by omega)
theorem c_X8_message {ev : Ev} {Q : Out → Mem → Prop} {M : Mem}  (m : Int) (w : Int) (zp0 : GJ M) (zp1 : -2147483648 ≤ m ∧ m < 2147483648) (zp2 : -2147483648 ≤ w ∧ w < 2147483648) (zQ0 : (0 ≤ m ∧ m < M 27 11) ∧ 0 ≤ w ∧ w ≤ 5 → Q (.inl (some (vI (M 36 (6 * m + w))))) (upM M 27 0 0)) (zQ1 : ¬ (0 ≤ m ∧ m < M 27 11) → Q (.inl (some (vI 0))) (upM M 27 0 1)) (zQ2 : (0 ≤ m ∧ m < M 27 11) ∧ ¬ (0 ≤ w ∧ w ≤ 5) → Q (.inl (some (vI 0))) (upM M 27 0 2)) : AM ev false 2 t_X8_message [vR 27, vI m, vI w] M Q := by
  have zs := zp0.1
  refine AM.of mt_X8_message (Nat.le_of_ble_eq_true rfl) ?_
  change AW ev false 2 t_X8_message Q 0 [some (vR 27), some (vI m), some (vI w)] [] M
  refine AW.go pk_X8_message 0 4 rfl rfl ?_
  change AW ev false 2 t_X8_message Q 3 [some (vR 27), some (vI m), some (vI w)] [vI m, vR 27, vR 27] M
  refine AW.callV (d' := 1) [vI m] [vR 27] vm_X8_isMessage rfl hX8_194 (okP_d pk_X8_message 3 3 (.invokevirtual 194) 3 rfl) (by decide) rfl (Nat.le_of_ble_eq_true rfl) ?_
  refine c_X8_isMessage m (by omega) (by omega) (fun zr1 zzr1 => ?_)
  change AW ev false 2 t_X8_message Q 6 [some (vR 27), some (vI m), some (vI w)] [vI zr1, vR 27] M
  refine AW.go pk_X8_message 4 3 rfl rfl ?_
  refine And.intro (show Inr zr1 from ⟨by omega, by omega⟩) (And.intro (fun zh2 => ?_) (fun zh2 => ?_))
  · replace zh2 : zr1 ≠ (0 : Int) := zh2
    change AW ev false 2 t_X8_message Q 13 [some (vR 27), some (vI m), some (vI w)] [vR 27] M
    refine AW.go pk_X8_message 7 4 rfl rfl ?_
    change AW ev false 2 t_X8_message Q 16 [some (vR 27), some (vI m), some (vI w)] [vI 5, vI 0, vI w, vR 27] M
    refine AW.callS (d' := 0) [vI w, vI 0, vI 5] [vR 27] sm_X8_within hX8_69 (okP_d pk_X8_message 10 16 (.invokestatic 69) 3 rfl) (by decide) rfl (Nat.le_of_ble_eq_true rfl) ?_
    refine c_X8_within w 0 5 (by omega) (by omega) (by omega) (fun zr3 zzr3 => ?_)
    change AW ev false 2 t_X8_message Q 19 [some (vR 27), some (vI m), some (vI w)] [vI zr3, vR 27] M
    refine AW.go pk_X8_message 11 3 rfl rfl ?_
    refine And.intro (show Inr zr3 from ⟨by omega, by omega⟩) (And.intro (fun zh4 => ?_) (fun zh4 => ?_))
    · replace zh4 : zr3 = (0 : Int) := zh4
      change AW ev false 2 t_X8_message Q 26 [some (vR 27), some (vI m), some (vI w)] [vR 27] M
      refine AW.go pk_X8_message 14 7 rfl rfl ?_
      refine And.intro (show Inr 2 from ⟨by omega, by omega⟩) (And.intro (fun zh5 => ?_) (fun zh5 => ?_))
      · replace zh5 : (2 : Int) ≤ (0 : Int) := zh5
        exfalso; omega
      · replace zh5 : ¬ ((2 : Int) ≤ (0 : Int)) := zh5
        change AW ev false 2 t_X8_message Q 52 [some (vR 27), some (vI m), some (vI w)] [vI 0] (upM M 27 0 2)
        refine AW.go pk_X8_message 29 1 rfl rfl ?_
        refine And.intro rfl ?_
        first
          | exact QcI (Q := Q) (show (0 : Int) = M 36 (6 * m + w) from by first | rfl | omega) (show (upM M 27 0 2) = (upM M 27 0 0) from by rfl) (zQ0 (by omega))
          | exact QcI (Q := Q) (show (0 : Int) = (0 : Int) from by first | rfl | omega) (show (upM M 27 0 2) = (upM M 27 0 1) from by rfl) (zQ1 (by omega))
          | exact QcI (Q := Q) (show (0 : Int) = (0 : Int) from by first | rfl | omega) (show (upM M 27 0 2) = (upM M 27 0 2) from by rfl) (zQ2 (by omega))
    · replace zh4 : ¬ (zr3 = (0 : Int)) := zh4
      change AW ev false 2 t_X8_message Q 27 [some (vR 27), some (vI m), some (vI w)] [vI 0, vR 27] M
      refine AW.go pk_X8_message 15 6 rfl rfl ?_
      refine And.intro (show Inr 0 from ⟨by omega, by omega⟩) (And.intro (fun zh6 => ?_) (fun zh6 => ?_))
      · replace zh6 : (0 : Int) ≤ (0 : Int) := zh6
        change AW ev false 2 t_X8_message Q 41 [some (vR 27), some (vI m), some (vI w)] [] (upM M 27 0 0)
        refine AW.go pk_X8_message 21 9 rfl rfl ?_
        refine And.intro (show (0 ≤ (6 * m) + w ∧ (6 * m) + w < 120) from (by omega)) ?_
        refine And.intro rfl ?_
        first
          | exact QcI (Q := Q) (show M 36 ((6 * m) + w) = M 36 (6 * m + w) from by first | rfl | omega) (show (upM M 27 0 0) = (upM M 27 0 0) from by rfl) (zQ0 (by omega))
          | exact QcI (Q := Q) (show M 36 ((6 * m) + w) = (0 : Int) from by first | rfl | omega) (show (upM M 27 0 0) = (upM M 27 0 1) from by rfl) (zQ1 (by omega))
          | exact QcI (Q := Q) (show M 36 ((6 * m) + w) = (0 : Int) from by first | rfl | omega) (show (upM M 27 0 0) = (upM M 27 0 2) from by rfl) (zQ2 (by omega))
      · replace zh6 : ¬ ((0 : Int) ≤ (0 : Int)) := zh6
        exfalso; omega
  · replace zh2 : ¬ (zr1 ≠ (0 : Int)) := zh2
    change AW ev false 2 t_X8_message Q 27 [some (vR 27), some (vI m), some (vI w)] [vI 1, vR 27] M
    refine AW.go pk_X8_message 15 6 rfl rfl ?_
    refine And.intro (show Inr 1 from ⟨by omega, by omega⟩) (And.intro (fun zh7 => ?_) (fun zh7 => ?_))
    · replace zh7 : (1 : Int) ≤ (0 : Int) := zh7
      exfalso; omega
    · replace zh7 : ¬ ((1 : Int) ≤ (0 : Int)) := zh7
      change AW ev false 2 t_X8_message Q 52 [some (vR 27), some (vI m), some (vI w)] [vI 0] (upM M 27 0 1)
      refine AW.go pk_X8_message 29 1 rfl rfl ?_
      refine And.intro rfl ?_
      first
        | exact QcI (Q := Q) (show (0 : Int) = M 36 (6 * m + w) from by first | rfl | omega) (show (upM M 27 0 1) = (upM M 27 0 0) from by rfl) (zQ0 (by omega))
        | exact QcI (Q := Q) (show (0 : Int) = (0 : Int) from by first | rfl | omega) (show (upM M 27 0 1) = (upM M 27 0 1) from by rfl) (zQ1 (by omega))
        | exact QcI (Q := Q) (show (0 : Int) = (0 : Int) from by first | rfl | omega) (show (upM M 27 0 1) = (upM M 27 0 2) from by rfl) (zQ2 (by omega))
theorem c_X8_hop {ev : Ev} {Q : Out → Mem → Prop} {M : Mem}  (m : Int) (j : Int) (w : Int) (zp0 : GJ M) (zp1 : -2147483648 ≤ m ∧ m < 2147483648) (zp2 : -2147483648 ≤ j ∧ j < 2147483648) (zp3 : -2147483648 ≤ w ∧ w < 2147483648) (zQ0 : (0 ≤ m ∧ m < M 27 11) ∧ (0 ≤ j ∧ j < M 36 (6 * m + 5)) ∧ 0 ≤ w ∧ w ≤ 2 → Q (.inl (some (vI (M 37 (21 * m + 3 * j + w))))) (upM M 27 0 0)) (zQ1 : ¬ ((0 ≤ m ∧ m < M 27 11) ∧ 0 ≤ j ∧ j < M 36 (6 * m + 5)) → Q (.inl (some (vI 0))) (upM M 27 0 1)) (zQ2 : ((0 ≤ m ∧ m < M 27 11) ∧ 0 ≤ j ∧ j < M 36 (6 * m + 5)) ∧ ¬ (0 ≤ w ∧ w ≤ 2) → Q (.inl (some (vI 0))) (upM M 27 0 2)) : AM ev false 2 t_X8_hop [vR 27, vI m, vI j, vI w] M Q := by
  have zs := zp0.1
  have zma := fun (q : 0 ≤ m ∧ m < M 27 11) => (zp0.2.1 m q.1 q.2).2.2.2.2.2
  refine AM.of mt_X8_hop (Nat.le_of_ble_eq_true rfl) ?_
  change AW ev false 2 t_X8_hop Q 0 [some (vR 27), some (vI m), some (vI j), some (vI w), none] [] M
  refine AW.go pk_X8_hop 0 3 rfl rfl ?_
  change AW ev false 2 t_X8_hop Q 2 [some (vR 27), some (vI m), some (vI j), some (vI w), none] [vI m, vR 27] M
  refine AW.callV (d' := 1) [vI m] [] vm_X8_isMessage rfl hX8_194 (okP_d pk_X8_hop 2 2 (.invokevirtual 194) 3 rfl) (by decide) rfl (Nat.le_of_ble_eq_true rfl) ?_
  refine c_X8_isMessage m (by omega) (by omega) (fun zr1 zzr1 => ?_)
  change AW ev false 2 t_X8_hop Q 5 [some (vR 27), some (vI m), some (vI j), some (vI w), none] [vI zr1] M
  refine AW.go pk_X8_hop 3 14 rfl rfl ?_
  refine And.intro (show Inr zr1 from ⟨by omega, by omega⟩) (And.intro (fun zh2 => ?_) (fun zh2 => ?_))
  · replace zh2 : zr1 = (0 : Int) := zh2
    change AW ev false 2 t_X8_hop Q 33 [some (vR 27), some (vI m), some (vI j), some (vI w), none] [] M
    refine AW.go pk_X8_hop 20 7 rfl rfl ?_
    refine And.intro (show 4 < mL t_X8_hop from (by decide)) ?_
    refine And.intro (show Inr 0 from ⟨by omega, by omega⟩) (And.intro (fun zh3 => ?_) (fun zh3 => ?_))
    · replace zh3 : (0 : Int) ≠ (0 : Int) := zh3
      exfalso; omega
    · replace zh3 : ¬ ((0 : Int) ≠ (0 : Int)) := zh3
      change AW ev false 2 t_X8_hop Q 60 [some (vR 27), some (vI m), some (vI j), some (vI w), some (vI 0)] [vI 1, vR 27] M
      refine AW.go pk_X8_hop 35 6 rfl rfl ?_
      refine And.intro (show Inr 1 from ⟨by omega, by omega⟩) (And.intro (fun zh4 => ?_) (fun zh4 => ?_))
      · replace zh4 : (1 : Int) ≤ (0 : Int) := zh4
        exfalso; omega
      · replace zh4 : ¬ ((1 : Int) ≤ (0 : Int)) := zh4
        change AW ev false 2 t_X8_hop Q 89 [some (vR 27), some (vI m), some (vI j), some (vI w), some (vI 0)] [vI 0] (upM M 27 0 1)
        refine AW.go pk_X8_hop 53 1 rfl rfl ?_
        refine And.intro rfl ?_
        first
          | exact QcI (Q := Q) (show (0 : Int) = M 37 (21 * m + 3 * j + w) from by first | rfl | omega) (show (upM M 27 0 1) = (upM M 27 0 0) from by rfl) (zQ0 (by omega))
          | exact QcI (Q := Q) (show (0 : Int) = (0 : Int) from by first | rfl | omega) (show (upM M 27 0 1) = (upM M 27 0 1) from by rfl) (zQ1 (by omega))
          | exact QcI (Q := Q) (show (0 : Int) = (0 : Int) from by first | rfl | omega) (show (upM M 27 0 1) = (upM M 27 0 2) from by rfl) (zQ2 (by omega))
  · replace zh2 : ¬ (zr1 = (0 : Int)) := zh2
    replace zma := zma (by omega)
    refine And.intro (show (0 ≤ (6 * m) + 5 ∧ (6 * m) + 5 < 120) from (by omega)) ?_
    change AW ev false 2 t_X8_hop Q 23 [some (vR 27), some (vI m), some (vI j), some (vI w), none] [vI ((M 36 ((6 * m) + 5)) - 1), vI 0, vI j] M
    refine AW.callS (d' := 0) [vI j, vI 0, vI ((M 36 ((6 * m) + 5)) - 1)] [] sm_X8_within hX8_69 (okP_d pk_X8_hop 16 23 (.invokestatic 69) 3 rfl) (by decide) rfl (Nat.le_of_ble_eq_true rfl) ?_
    refine c_X8_within j 0 ((M 36 ((6 * m) + 5)) - 1) (by omega) (by omega) (by omega) (fun zr5 zzr5 => ?_)
    change AW ev false 2 t_X8_hop Q 26 [some (vR 27), some (vI m), some (vI j), some (vI w), none] [vI zr5] M
    refine AW.go pk_X8_hop 17 3 rfl rfl ?_
    refine And.intro (show Inr zr5 from ⟨by omega, by omega⟩) (And.intro (fun zh6 => ?_) (fun zh6 => ?_))
    · replace zh6 : zr5 = (0 : Int) := zh6
      change AW ev false 2 t_X8_hop Q 33 [some (vR 27), some (vI m), some (vI j), some (vI w), none] [] M
      refine AW.go pk_X8_hop 20 7 rfl rfl ?_
      refine And.intro (show 4 < mL t_X8_hop from (by decide)) ?_
      refine And.intro (show Inr 0 from ⟨by omega, by omega⟩) (And.intro (fun zh7 => ?_) (fun zh7 => ?_))
      · replace zh7 : (0 : Int) ≠ (0 : Int) := zh7
        exfalso; omega
      · replace zh7 : ¬ ((0 : Int) ≠ (0 : Int)) := zh7
        change AW ev false 2 t_X8_hop Q 60 [some (vR 27), some (vI m), some (vI j), some (vI w), some (vI 0)] [vI 1, vR 27] M
        refine AW.go pk_X8_hop 35 6 rfl rfl ?_
        refine And.intro (show Inr 1 from ⟨by omega, by omega⟩) (And.intro (fun zh8 => ?_) (fun zh8 => ?_))
        · replace zh8 : (1 : Int) ≤ (0 : Int) := zh8
          exfalso; omega
        · replace zh8 : ¬ ((1 : Int) ≤ (0 : Int)) := zh8
          change AW ev false 2 t_X8_hop Q 89 [some (vR 27), some (vI m), some (vI j), some (vI w), some (vI 0)] [vI 0] (upM M 27 0 1)
          refine AW.go pk_X8_hop 53 1 rfl rfl ?_
          refine And.intro rfl ?_
          first
            | exact QcI (Q := Q) (show (0 : Int) = M 37 (21 * m + 3 * j + w) from by first | rfl | omega) (show (upM M 27 0 1) = (upM M 27 0 0) from by rfl) (zQ0 (by omega))
            | exact QcI (Q := Q) (show (0 : Int) = (0 : Int) from by first | rfl | omega) (show (upM M 27 0 1) = (upM M 27 0 1) from by rfl) (zQ1 (by omega))
            | exact QcI (Q := Q) (show (0 : Int) = (0 : Int) from by first | rfl | omega) (show (upM M 27 0 1) = (upM M 27 0 2) from by rfl) (zQ2 (by omega))
    · replace zh6 : ¬ (zr5 = (0 : Int)) := zh6
      change AW ev false 2 t_X8_hop Q 34 [some (vR 27), some (vI m), some (vI j), some (vI w), none] [vI 1] M
      refine AW.go pk_X8_hop 21 6 rfl rfl ?_
      refine And.intro (show 4 < mL t_X8_hop from (by decide)) ?_
      refine And.intro (show Inr 1 from ⟨by omega, by omega⟩) (And.intro (fun zh9 => ?_) (fun zh9 => ?_))
      · replace zh9 : (1 : Int) ≠ (0 : Int) := zh9
        change AW ev false 2 t_X8_hop Q 46 [some (vR 27), some (vI m), some (vI j), some (vI w), some (vI 1)] [vR 27] M
        refine AW.go pk_X8_hop 27 4 rfl rfl ?_
        change AW ev false 2 t_X8_hop Q 49 [some (vR 27), some (vI m), some (vI j), some (vI w), some (vI 1)] [vI 2, vI 0, vI w, vR 27] M
        refine AW.callS (d' := 0) [vI w, vI 0, vI 2] [vR 27] sm_X8_within hX8_69 (okP_d pk_X8_hop 30 49 (.invokestatic 69) 3 rfl) (by decide) rfl (Nat.le_of_ble_eq_true rfl) ?_
        refine c_X8_within w 0 2 (by omega) (by omega) (by omega) (fun zr10 zzr10 => ?_)
        change AW ev false 2 t_X8_hop Q 52 [some (vR 27), some (vI m), some (vI j), some (vI w), some (vI 1)] [vI zr10, vR 27] M
        refine AW.go pk_X8_hop 31 3 rfl rfl ?_
        refine And.intro (show Inr zr10 from ⟨by omega, by omega⟩) (And.intro (fun zh11 => ?_) (fun zh11 => ?_))
        · replace zh11 : zr10 = (0 : Int) := zh11
          change AW ev false 2 t_X8_hop Q 59 [some (vR 27), some (vI m), some (vI j), some (vI w), some (vI 1)] [vR 27] M
          refine AW.go pk_X8_hop 34 7 rfl rfl ?_
          refine And.intro (show Inr 2 from ⟨by omega, by omega⟩) (And.intro (fun zh12 => ?_) (fun zh12 => ?_))
          · replace zh12 : (2 : Int) ≤ (0 : Int) := zh12
            exfalso; omega
          · replace zh12 : ¬ ((2 : Int) ≤ (0 : Int)) := zh12
            change AW ev false 2 t_X8_hop Q 89 [some (vR 27), some (vI m), some (vI j), some (vI w), some (vI 1)] [vI 0] (upM M 27 0 2)
            refine AW.go pk_X8_hop 53 1 rfl rfl ?_
            refine And.intro rfl ?_
            first
              | exact QcI (Q := Q) (show (0 : Int) = M 37 (21 * m + 3 * j + w) from by first | rfl | omega) (show (upM M 27 0 2) = (upM M 27 0 0) from by rfl) (zQ0 (by omega))
              | exact QcI (Q := Q) (show (0 : Int) = (0 : Int) from by first | rfl | omega) (show (upM M 27 0 2) = (upM M 27 0 1) from by rfl) (zQ1 (by omega))
              | exact QcI (Q := Q) (show (0 : Int) = (0 : Int) from by first | rfl | omega) (show (upM M 27 0 2) = (upM M 27 0 2) from by rfl) (zQ2 (by omega))
        · replace zh11 : ¬ (zr10 = (0 : Int)) := zh11
          change AW ev false 2 t_X8_hop Q 60 [some (vR 27), some (vI m), some (vI j), some (vI w), some (vI 1)] [vI 0, vR 27] M
          refine AW.go pk_X8_hop 35 6 rfl rfl ?_
          refine And.intro (show Inr 0 from ⟨by omega, by omega⟩) (And.intro (fun zh13 => ?_) (fun zh13 => ?_))
          · replace zh13 : (0 : Int) ≤ (0 : Int) := zh13
            change AW ev false 2 t_X8_hop Q 74 [some (vR 27), some (vI m), some (vI j), some (vI w), some (vI 1)] [] (upM M 27 0 0)
            refine AW.go pk_X8_hop 41 13 rfl rfl ?_
            refine And.intro (show (0 ≤ ((21 * m) + (3 * j)) + w ∧ ((21 * m) + (3 * j)) + w < 420) from (by omega)) ?_
            refine And.intro rfl ?_
            first
              | exact QcI (Q := Q) (show M 37 (((21 * m) + (3 * j)) + w) = M 37 (21 * m + 3 * j + w) from by first | rfl | omega) (show (upM M 27 0 0) = (upM M 27 0 0) from by rfl) (zQ0 (by omega))
              | exact QcI (Q := Q) (show M 37 (((21 * m) + (3 * j)) + w) = (0 : Int) from by first | rfl | omega) (show (upM M 27 0 0) = (upM M 27 0 1) from by rfl) (zQ1 (by omega))
              | exact QcI (Q := Q) (show M 37 (((21 * m) + (3 * j)) + w) = (0 : Int) from by first | rfl | omega) (show (upM M 27 0 0) = (upM M 27 0 2) from by rfl) (zQ2 (by omega))
          · replace zh13 : ¬ ((0 : Int) ≤ (0 : Int)) := zh13
            exfalso; omega
      · replace zh9 : ¬ ((1 : Int) ≠ (0 : Int)) := zh9
        exfalso; omega
theorem c_X8_busy {ev : Ev} {Q : Out → Mem → Prop} {M : Mem}  (s : Int) (t : Int) (zp0 : GJ M) (zp1 : 0 ≤ M 27 2 ∧ M 27 2 ≤ 8) (zp2 : -2147483648 ≤ s ∧ s < 2147483648) (zp3 : -2147483648 ≤ t ∧ t < 2147483648) (zQ0 : ∀ (x : Int → Int), (0 ≤ s ∧ s < M 27 2) ∧ 0 ≤ t ∧ t ≤ 71 → Q (.inl (some (vI (lt0 M (72 * s + t))))) (tkM (upM M 27 0 0) x)) (zQ1 : ¬ (0 ≤ s ∧ s < M 27 2) → Q (.inl (some (vI 0))) (upM M 27 0 1)) (zQ2 : (0 ≤ s ∧ s < M 27 2) ∧ ¬ (0 ≤ t ∧ t ≤ 71) → Q (.inl (some (vI 0))) (upM M 27 0 2)) : AM ev false 2 t_X8_busy [vR 27, vI s, vI t] M Q := by
  have zs := zp0.1
  refine AM.of mt_X8_busy (Nat.le_of_ble_eq_true rfl) ?_
  change AW ev false 2 t_X8_busy Q 0 [some (vR 27), some (vI s), some (vI t)] [] M
  refine AW.go pk_X8_busy 0 4 rfl rfl ?_
  change AW ev false 2 t_X8_busy Q 3 [some (vR 27), some (vI s), some (vI t)] [vI s, vR 27, vR 27] M
  refine AW.callV (d' := 1) [vI s] [vR 27] vm_X8_isStation rfl hX8_158 (okP_d pk_X8_busy 3 3 (.invokevirtual 158) 3 rfl) (by decide) rfl (Nat.le_of_ble_eq_true rfl) ?_
  refine c_X8_isStation s (by omega) (by omega) (fun zr1 zzr1 => ?_)
  change AW ev false 2 t_X8_busy Q 6 [some (vR 27), some (vI s), some (vI t)] [vI zr1, vR 27] M
  refine AW.go pk_X8_busy 4 3 rfl rfl ?_
  refine And.intro (show Inr zr1 from ⟨by omega, by omega⟩) (And.intro (fun zh2 => ?_) (fun zh2 => ?_))
  · replace zh2 : zr1 ≠ (0 : Int) := zh2
    change AW ev false 2 t_X8_busy Q 13 [some (vR 27), some (vI s), some (vI t)] [vR 27] M
    refine AW.go pk_X8_busy 7 4 rfl rfl ?_
    change AW ev false 2 t_X8_busy Q 17 [some (vR 27), some (vI s), some (vI t)] [vI 71, vI 0, vI t, vR 27] M
    refine AW.callS (d' := 0) [vI t, vI 0, vI 71] [vR 27] sm_X8_within hX8_69 (okP_d pk_X8_busy 10 17 (.invokestatic 69) 3 rfl) (by decide) rfl (Nat.le_of_ble_eq_true rfl) ?_
    refine c_X8_within t 0 71 (by omega) (by omega) (by omega) (fun zr3 zzr3 => ?_)
    change AW ev false 2 t_X8_busy Q 20 [some (vR 27), some (vI s), some (vI t)] [vI zr3, vR 27] M
    refine AW.go pk_X8_busy 11 3 rfl rfl ?_
    refine And.intro (show Inr zr3 from ⟨by omega, by omega⟩) (And.intro (fun zh4 => ?_) (fun zh4 => ?_))
    · replace zh4 : zr3 = (0 : Int) := zh4
      change AW ev false 2 t_X8_busy Q 27 [some (vR 27), some (vI s), some (vI t)] [vR 27] M
      refine AW.go pk_X8_busy 14 7 rfl rfl ?_
      refine And.intro (show Inr 2 from ⟨by omega, by omega⟩) (And.intro (fun zh5 => ?_) (fun zh5 => ?_))
      · replace zh5 : (2 : Int) ≤ (0 : Int) := zh5
        exfalso; omega
      · replace zh5 : ¬ ((2 : Int) ≤ (0 : Int)) := zh5
        refine And.intro rfl ?_
        exact zQ2 (by omega)
    · replace zh4 : ¬ (zr3 = (0 : Int)) := zh4
      change AW ev false 2 t_X8_busy Q 28 [some (vR 27), some (vI s), some (vI t)] [vI 0, vR 27] M
      refine AW.go pk_X8_busy 15 6 rfl rfl ?_
      refine And.intro (show Inr 0 from ⟨by omega, by omega⟩) (And.intro (fun zh6 => ?_) (fun zh6 => ?_))
      · replace zh6 : (0 : Int) ≤ (0 : Int) := zh6
        change AW ev false 2 t_X8_busy Q 40 [some (vR 27), some (vI s), some (vI t)] [] (upM M 27 0 0)
        refine AW.go pk_X8_busy 21 2 rfl rfl ?_
        change AW ev false 2 t_X8_busy Q 41 [some (vR 27), some (vI s), some (vI t)] [vR 27] (upM M 27 0 0)
        refine AW.callV (d' := 0) [] [] vm_X8_layTurns rfl hX8_171 (okP_d pk_X8_busy 22 41 (.invokevirtual 171) 3 rfl) (by decide) rfl (Nat.le_of_ble_eq_true rfl) ?_
        refine c_X8_layTurns  zp0 ?_
        change AW ev false 2 t_X8_busy Q 44 [some (vR 27), some (vI s), some (vI t)] [] (tkM (upM M 27 0 0) (ltA (upM M 27 0 0)))
        refine AW.go pk_X8_busy 23 9 rfl rfl ?_
        refine And.intro (show (0 ≤ (72 * s) + t ∧ (72 * s) + t < 576) from (by omega)) ?_
        refine And.intro rfl ?_
        exact QcI (Q := Q) (show (tkM (upM M 27 0 0) (ltA (upM M 27 0 0))) 41 ((72 * s) + t) = lt0 M (72 * s + t) from ltA_0 (M := upM M 27 0 0) (by omega) (by omega)) rfl (zQ0 _ (by omega))
      · replace zh6 : ¬ ((0 : Int) ≤ (0 : Int)) := zh6
        exfalso; omega
  · replace zh2 : ¬ (zr1 ≠ (0 : Int)) := zh2
    change AW ev false 2 t_X8_busy Q 28 [some (vR 27), some (vI s), some (vI t)] [vI 1, vR 27] M
    refine AW.go pk_X8_busy 15 6 rfl rfl ?_
    refine And.intro (show Inr 1 from ⟨by omega, by omega⟩) (And.intro (fun zh8 => ?_) (fun zh8 => ?_))
    · replace zh8 : (1 : Int) ≤ (0 : Int) := zh8
      exfalso; omega
    · replace zh8 : ¬ ((1 : Int) ≤ (0 : Int)) := zh8
      refine And.intro rfl ?_
      exact zQ1 (by omega)
theorem c_X8_workload {ev : Ev} {Q : Out → Mem → Prop} {M : Mem}   (zp0 : GJ M) (zp1 : 0 ≤ M 27 2 ∧ M 27 2 ≤ 8) (zQ0 : ∀ (x : Int → Int), True → Q (.inl (some (vD (if M 27 2 = 0 then FP.dconst0 else wlD (bzA (lt0 M) (M 27 2).toNat 0 0) (M 27 2))))) (tkM (upM M 27 0 0) x)) : AM ev false 2 t_X8_workload [vR 27] M Q := by
  have zs := zp0.1
  refine AM.of mt_X8_workload (Nat.le_of_ble_eq_true rfl) ?_
  change AW ev false 2 t_X8_workload Q 0 [some (vR 27)] [] M
  refine AW.go pk_X8_workload 0 8 rfl rfl ?_
  refine And.intro (show Inr (M 27 2) from ⟨by omega, by omega⟩) (And.intro (fun zh1 => ?_) (fun zh1 => ?_))
  · replace zh1 : M 27 2 ≠ (0 : Int) := zh1
    change AW ev false 2 t_X8_workload Q 16 [some (vR 27)] [] (upM M 27 0 0)
    refine AW.go pk_X8_workload 8 3 rfl rfl ?_
    change AW ev false 2 t_X8_workload Q 18 [some (vR 27)] [vR 27, vD FP.dconst1] (upM M 27 0 0)
    refine AW.callV (d' := 1) [] [vD FP.dconst1] vm_X8_busyAll rfl hX8_213 (okP_d pk_X8_workload 10 18 (.invokevirtual 213) 3 rfl) (by decide) rfl (Nat.le_of_ble_eq_true rfl) ?_
    refine c_X8_busyAll  zp0 zp1 (fun w1 zw1 => ?_)
    replace zw1 : w1 = bzA (lt0 M) (M 27 2).toNat 0 0 := zw1
    have zb := bzA_bd (lt0 M) (M 27 2).toNat 0 0
    have zwl := wl_at (b := w1) (n := M 27 2) (by omega) (by omega) (by omega) (by omega)
    change AW ev false 2 t_X8_workload Q 21 [some (vR 27)] [vI w1, vD FP.dconst1] (tkM (upM M 27 0 0) (ltA (upM M 27 0 0)))
    refine AW.go pk_X8_workload 11 9 rfl rfl ?_
    refine And.intro (show vf_n64 (FP.dmul FP.dconst1 (FP.i2d (Int32.ofInt w1))) from (by exact zwl.2.2.1)) ?_
    refine And.intro (show vf_n64 (FP.ddiv (FP.dmul FP.dconst1 (FP.i2d (Int32.ofInt w1))) (FP.i2d (Int32.ofInt (72 * (M 27 2))))) from (by show vf_n64 (FP.ddiv (FP.dmul FP.dconst1 (FP.i2d (Int32.ofInt w1))) _); rw [zwl.2.1]; exact zwl.1)) ?_
    refine And.intro rfl ?_
    have zz := zQ0 (ltA (upM M 27 0 0)) trivial
    rw [if_neg (show ¬ M 27 2 = 0 from by omega), ← zw1] at zz
    have ze : FP.ddiv (FP.dmul FP.dconst1 (FP.i2d (Int32.ofInt w1))) (FP.i2d (Int32.ofInt (72 * M 27 2))) = wlD w1 (M 27 2) := by rw [zwl.2.1]; rfl
    exact Eq.mpr (congrArg (fun zx => Q (.inl (some (vD zx))) _) ze) zz
  · replace zh1 : ¬ (M 27 2 ≠ (0 : Int)) := zh1
    change AW ev false 2 t_X8_workload Q 32 [some (vR 27)] [vD FP.dconst0] (upM M 27 0 0)
    refine AW.go pk_X8_workload 19 1 rfl rfl ?_
    refine And.intro rfl ?_
    have zz := zQ0 (M 41) trivial
    rw [if_pos (show M 27 2 = 0 from by omega)] at zz
    exact Eq.mpr (congrArg (Q _) (tk_self (upM M 27 0 0))) zz
theorem lz_drop1 {ev : Ev} {Q : Out → Mem → Prop} {M : Mem}  (m : Int) (zp0 : GJ M) (zp1 : 0 ≤ m ∧ m < M 27 11) (zX : AW ev false 0 t_X8_drop Q 47 [some (vR 27), some (vI m), some (vI (6 * (M 27 11 - 1)))] [] (shM (upM M 27 11 (M 27 11 - 1)) 36 (6 * m) (6 * (M 27 11 - 1)) 6)) : ∀ (n : Nat) (i : Int), i + n = 6 * (M 27 11 - 1) → (6 * m ≤ i) → AW ev false 0 t_X8_drop Q 15 [some (vR 27), some (vI m), some (vI i)] [] (shM (upM M 27 11 (M 27 11 - 1)) 36 (6 * m) (i) 6) := by
  intro n
  induction n with
  | zero =>
    intro i zn zv0
    have zs := zp0.1
    refine AW.go pk_X8_drop 10 18 rfl rfl ?_
    refine And.intro (show Inr i ∧ Inr (6 * (M 27 11 - 1)) from ⟨⟨by omega, by omega⟩, ⟨by omega, by omega⟩⟩) (And.intro (fun zh1 => ?_) (fun zh1 => ?_))
    · replace zh1 : 6 * (M 27 11 - 1) ≤ i := zh1
      change AW ev false 0 t_X8_drop Q 47 [some (vR 27), some (vI m), some (vI i)] [] (shM (upM M 27 11 (M 27 11 - 1)) 36 (6 * m) (i) 6)
      have zi : i = 6 * (M 27 11 - 1) := by omega
      subst zi
      exact zX
    · replace zh1 : ¬ (6 * (M 27 11 - 1) ≤ i) := zh1
      exfalso; omega
  | succ n zih =>
    intro i zn zv0
    have zs := zp0.1
    refine AW.go pk_X8_drop 10 18 rfl rfl ?_
    refine And.intro (show Inr i ∧ Inr (6 * (M 27 11 - 1)) from ⟨⟨by omega, by omega⟩, ⟨by omega, by omega⟩⟩) (And.intro (fun zh1 => ?_) (fun zh1 => ?_))
    · replace zh1 : 6 * (M 27 11 - 1) ≤ i := zh1
      exfalso; omega
    · replace zh1 : ¬ (6 * (M 27 11 - 1) ≤ i) := zh1
      refine And.intro (show (0 ≤ i + 6 ∧ i + 6 < 120) from (by omega)) ?_
      refine And.intro (show ((0 ≤ i ∧ i < 120) ∧ ((0 : Nat) = 0 ∨ (shM (upM M 27 11 (M 27 11 - 1)) 36 (6 * m) (i) 6) 36 (i + 6) = 0 ∨ (shM (upM M 27 11 (M 27 11 - 1)) 36 (6 * m) (i) 6) 36 (i + 6) = 1)) from ⟨by omega, Or.inl rfl⟩) ?_
      refine And.intro (show 2 < mL t_X8_drop from (by decide)) ?_
      change AW ev false 0 t_X8_drop Q 15 [some (vR 27), some (vI m), some (vI (i + 1))] [] (upM (shM (upM M 27 11 (M 27 11 - 1)) 36 (6 * m) (i) 6) 36 i ((shM (upM M 27 11 (M 27 11 - 1)) 36 (6 * m) (i) 6) 36 (i + 6)))
      exact AW.mem (show (upM (shM (upM M 27 11 (M 27 11 - 1)) 36 (6 * m) (i) 6) 36 i ((shM (upM M 27 11 (M 27 11 - 1)) 36 (6 * m) (i) 6) 36 (i + 6))) = (shM (upM M 27 11 (M 27 11 - 1)) 36 (6 * m) ((i + 1)) 6) from by exact sh_s (by omega) (by omega)) (zih (i + 1) (by omega) (by omega))
theorem lz_drop2 {ev : Ev} {Q : Out → Mem → Prop} {M : Mem}  (m : Int) (zp0 : GJ M) (zp1 : 0 ≤ m ∧ m < M 27 11) (zQ : Q (.inl none) (shM (shM (upM M 27 11 (M 27 11 - 1)) 36 (6 * m) (6 * (M 27 11 - 1)) 6) 37 (21 * m) (21 * (M 27 11 - 1)) 21)) : ∀ (n : Nat) (i : Int), i + n = 21 * (M 27 11 - 1) → (21 * m ≤ i) → AW ev false 0 t_X8_drop Q 52 [some (vR 27), some (vI m), some (vI i)] [] (shM (shM (upM M 27 11 (M 27 11 - 1)) 36 (6 * m) (6 * (M 27 11 - 1)) 6) 37 (21 * m) (i) 21) := by
  intro n
  induction n with
  | zero =>
    intro i zn zv0
    have zs := zp0.1
    refine AW.go pk_X8_drop 32 18 rfl rfl ?_
    refine And.intro (show Inr i ∧ Inr (21 * (M 27 11 - 1)) from ⟨⟨by omega, by omega⟩, ⟨by omega, by omega⟩⟩) (And.intro (fun zh1 => ?_) (fun zh1 => ?_))
    · replace zh1 : 21 * (M 27 11 - 1) ≤ i := zh1
      change AW ev false 0 t_X8_drop Q 84 [some (vR 27), some (vI m), some (vI i)] [] (shM (shM (upM M 27 11 (M 27 11 - 1)) 36 (6 * m) (6 * (M 27 11 - 1)) 6) 37 (21 * m) (i) 21)
      refine AW.go pk_X8_drop 50 1 rfl rfl ?_
      refine And.intro rfl ?_
      exact QcV (Q := Q) (show (shM (shM (upM M 27 11 (M 27 11 - 1)) 36 (6 * m) (6 * (M 27 11 - 1)) 6) 37 (21 * m) (i) 21) = shM (shM (upM M 27 11 (M 27 11 - 1)) 36 (6 * m) (6 * (M 27 11 - 1)) 6) 37 (21 * m) (21 * (M 27 11 - 1)) 21 from by rw [show i = 21 * (M 27 11 - 1) from by omega]) zQ
    · replace zh1 : ¬ (21 * (M 27 11 - 1) ≤ i) := zh1
      exfalso; omega
  | succ n zih =>
    intro i zn zv0
    have zs := zp0.1
    refine AW.go pk_X8_drop 32 18 rfl rfl ?_
    refine And.intro (show Inr i ∧ Inr (21 * (M 27 11 - 1)) from ⟨⟨by omega, by omega⟩, ⟨by omega, by omega⟩⟩) (And.intro (fun zh1 => ?_) (fun zh1 => ?_))
    · replace zh1 : 21 * (M 27 11 - 1) ≤ i := zh1
      exfalso; omega
    · replace zh1 : ¬ (21 * (M 27 11 - 1) ≤ i) := zh1
      refine And.intro (show (0 ≤ i + 21 ∧ i + 21 < 420) from (by omega)) ?_
      refine And.intro (show ((0 ≤ i ∧ i < 420) ∧ ((0 : Nat) = 0 ∨ (shM (shM (upM M 27 11 (M 27 11 - 1)) 36 (6 * m) (6 * (M 27 11 - 1)) 6) 37 (21 * m) (i) 21) 37 (i + 21) = 0 ∨ (shM (shM (upM M 27 11 (M 27 11 - 1)) 36 (6 * m) (6 * (M 27 11 - 1)) 6) 37 (21 * m) (i) 21) 37 (i + 21) = 1)) from ⟨by omega, Or.inl rfl⟩) ?_
      refine And.intro (show 2 < mL t_X8_drop from (by decide)) ?_
      change AW ev false 0 t_X8_drop Q 52 [some (vR 27), some (vI m), some (vI (i + 1))] [] (upM (shM (shM (upM M 27 11 (M 27 11 - 1)) 36 (6 * m) (6 * (M 27 11 - 1)) 6) 37 (21 * m) (i) 21) 37 i ((shM (shM (upM M 27 11 (M 27 11 - 1)) 36 (6 * m) (6 * (M 27 11 - 1)) 6) 37 (21 * m) (i) 21) 37 (i + 21)))
      exact AW.mem (show (upM (shM (shM (upM M 27 11 (M 27 11 - 1)) 36 (6 * m) (6 * (M 27 11 - 1)) 6) 37 (21 * m) (i) 21) 37 i ((shM (shM (upM M 27 11 (M 27 11 - 1)) 36 (6 * m) (6 * (M 27 11 - 1)) 6) 37 (21 * m) (i) 21) 37 (i + 21))) = (shM (shM (upM M 27 11 (M 27 11 - 1)) 36 (6 * m) (6 * (M 27 11 - 1)) 6) 37 (21 * m) ((i + 1)) 21) from by exact sh_s (by omega) (by omega)) (zih (i + 1) (by omega) (by omega))
theorem c_X8_drop {ev : Ev} {Q : Out → Mem → Prop} {M : Mem}  (m : Int) (zp0 : GJ M) (zp1 : 0 ≤ m ∧ m < M 27 11) (zQ : Q (.inl none) (shM (shM (upM M 27 11 (M 27 11 - 1)) 36 (6 * m) (6 * (M 27 11 - 1)) 6) 37 (21 * m) (21 * (M 27 11 - 1)) 21)) : AM ev false 0 t_X8_drop [vR 27, vI m] M Q := by
  have zs := zp0.1
  refine AM.of mt_X8_drop (Nat.le_of_ble_eq_true rfl) ?_
  change AW ev false 0 t_X8_drop Q 0 [some (vR 27), some (vI m), none] [] M
  refine AW.go pk_X8_drop 0 10 rfl rfl ?_
  refine And.intro (show 2 < mL t_X8_drop from (by decide)) ?_
  change AW ev false 0 t_X8_drop Q 15 [some (vR 27), some (vI m), some (vI (6 * m))] [] (upM M 27 11 ((M 27 11) - 1))
  refine AW.mem (sh_0 _ 36 (6 * m) 6) (lz_drop1 m zp0 zp1 ?_ (6 * (M 27 11 - 1) - 6 * m).toNat (6 * m) (by omega) (by omega))
  change AW ev false 0 t_X8_drop Q 47 [some (vR 27), some (vI m), some (vI (6 * (M 27 11 - 1)))] [] (shM (upM M 27 11 (M 27 11 - 1)) 36 (6 * m) (6 * (M 27 11 - 1)) 6)
  refine AW.go pk_X8_drop 28 4 rfl rfl ?_
  refine And.intro (show 2 < mL t_X8_drop from (by decide)) ?_
  change AW ev false 0 t_X8_drop Q 52 [some (vR 27), some (vI m), some (vI (21 * m))] [] (shM (upM M 27 11 (M 27 11 - 1)) 36 (6 * m) (6 * (M 27 11 - 1)) 6)
  exact AW.mem (sh_0 _ 37 (21 * m) 21) (lz_drop2 m zp0 zp1 zQ (21 * (M 27 11 - 1) - 21 * m).toNat (21 * m) (by omega) (by omega))
theorem c_X8_cancel {ev : Ev} {Q : Out → Mem → Prop} {M : Mem}  (m : Int) (zp0 : GJ M) (zp1 : -2147483648 ≤ m ∧ m < 2147483648) (zQ0 : 0 ≤ m ∧ m < M 27 11 → Q (.inl (some (vI (M 27 11 - 1)))) (shM (shM (upM (upM M 27 0 0) 27 11 (M 27 11 - 1)) 36 (6 * m) (6 * (M 27 11 - 1)) 6) 37 (21 * m) (21 * (M 27 11 - 1)) 21)) (zQ1 : ¬ (0 ≤ m ∧ m < M 27 11) → Q (.inl (some (vI 0))) (upM M 27 0 1)) : AM ev false 2 t_X8_cancel [vR 27, vI m] M Q := by
  have zs := zp0.1
  refine AM.of mt_X8_cancel (Nat.le_of_ble_eq_true rfl) ?_
  change AW ev false 2 t_X8_cancel Q 0 [some (vR 27), some (vI m)] [] M
  refine AW.go pk_X8_cancel 0 4 rfl rfl ?_
  change AW ev false 2 t_X8_cancel Q 3 [some (vR 27), some (vI m)] [vI m, vR 27, vR 27] M
  refine AW.callV (d' := 1) [vI m] [vR 27] vm_X8_isMessage rfl hX8_194 (okP_d pk_X8_cancel 3 3 (.invokevirtual 194) 3 rfl) (by decide) rfl (Nat.le_of_ble_eq_true rfl) ?_
  refine c_X8_isMessage m (by omega) (by omega) (fun zr1 zzr1 => ?_)
  change AW ev false 2 t_X8_cancel Q 6 [some (vR 27), some (vI m)] [vI zr1, vR 27] M
  refine AW.go pk_X8_cancel 4 3 rfl rfl ?_
  refine And.intro (show Inr zr1 from ⟨by omega, by omega⟩) (And.intro (fun zh2 => ?_) (fun zh2 => ?_))
  · replace zh2 : zr1 = (0 : Int) := zh2
    change AW ev false 2 t_X8_cancel Q 13 [some (vR 27), some (vI m)] [vR 27] M
    refine AW.go pk_X8_cancel 7 7 rfl rfl ?_
    refine And.intro (show Inr 1 from ⟨by omega, by omega⟩) (And.intro (fun zh3 => ?_) (fun zh3 => ?_))
    · replace zh3 : (1 : Int) ≤ (0 : Int) := zh3
      exfalso; omega
    · replace zh3 : ¬ ((1 : Int) ≤ (0 : Int)) := zh3
      refine And.intro rfl ?_
      first
        | exact QcI (Q := Q) (show (0 : Int) = M 27 11 - 1 from by first | rfl | omega) (show (upM M 27 0 1) = (shM (shM (upM (upM M 27 0 0) 27 11 (M 27 11 - 1)) 36 (6 * m) (6 * (M 27 11 - 1)) 6) 37 (21 * m) (21 * (M 27 11 - 1)) 21) from by rfl) (zQ0 (by omega))
        | exact QcI (Q := Q) (show (0 : Int) = (0 : Int) from by first | rfl | omega) (show (upM M 27 0 1) = (upM M 27 0 1) from by rfl) (zQ1 (by omega))
  · replace zh2 : ¬ (zr1 = (0 : Int)) := zh2
    change AW ev false 2 t_X8_cancel Q 14 [some (vR 27), some (vI m)] [vI 0, vR 27] M
    refine AW.go pk_X8_cancel 8 6 rfl rfl ?_
    refine And.intro (show Inr 0 from ⟨by omega, by omega⟩) (And.intro (fun zh4 => ?_) (fun zh4 => ?_))
    · replace zh4 : (0 : Int) ≤ (0 : Int) := zh4
      change AW ev false 2 t_X8_cancel Q 26 [some (vR 27), some (vI m)] [] (upM M 27 0 0)
      refine AW.go pk_X8_cancel 14 3 rfl rfl ?_
      change AW ev false 2 t_X8_cancel Q 28 [some (vR 27), some (vI m)] [vI m, vR 27] (upM M 27 0 0)
      refine AW.callV (d' := 0) [vI m] [] vm_X8_drop rfl hX8_197 (okP_d pk_X8_cancel 16 28 (.invokevirtual 197) 3 rfl) (by decide) rfl (Nat.le_of_ble_eq_true rfl) ?_
      refine c_X8_drop m zp0 (show 0 ≤ m ∧ m < (M 27 11) from by omega) ?_
      change AW ev false 2 t_X8_cancel Q 31 [some (vR 27), some (vI m)] [] (shM (shM (upM (upM M 27 0 0) 27 11 ((upM M 27 0 0) 27 11 - 1)) 36 (6 * m) (6 * ((upM M 27 0 0) 27 11 - 1)) 6) 37 (21 * m) (21 * ((upM M 27 0 0) 27 11 - 1)) 21)
      refine AW.go pk_X8_cancel 17 3 rfl rfl ?_
      refine And.intro rfl ?_
      exact zQ0 (by omega)
    · replace zh4 : ¬ ((0 : Int) ≤ (0 : Int)) := zh4
      exfalso; omega
