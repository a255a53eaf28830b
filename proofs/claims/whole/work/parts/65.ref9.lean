theorem lz_re1 {ev : Ev} {Q : Out → Mem → Prop} {M : Mem}   (zp0 : TJ M) (zp1 : SJ M) (zp2 : KJ M) (zp3 : GJ M) (zp4 : SV M) (c l m : Int) (A : Int → Int) (zc : 0 ≤ c ∧ c < 20) (zm : 0 ≤ m ∧ m < M 27 11) (zX : AW ev false 8 t_X8_reorder Q 84 [some (vR 27), some (vI (M 27 11)), some (vI c), some (vI l), some (vI m), some (vI 4)] [] (aqM (upM M 27 0 0) (cpA A (M 36) c m 4))) : ∀ (n : Nat) (e : Int), e + n = 4 → (0 ≤ e) → AW ev false 8 t_X8_reorder Q 48 [some (vR 27), some (vI (M 27 11)), some (vI c), some (vI l), some (vI m), some (vI e)] [] (aqM (upM M 27 0 0) (cpA A (M 36) c m e)) := by
  intro n
  induction n with
  | zero =>
    intro e zn zv0
    have zs := zp1.1
    have zg := zp3.1
    refine AW.go pk_X8_reorder 30 21 rfl rfl ?_
    refine And.intro (show Inr e ∧ Inr 4 from ⟨⟨by omega, by omega⟩, ⟨by omega, by omega⟩⟩) (And.intro (fun zh1 => ?_) (fun zh1 => ?_))
    · replace zh1 : (4 : Int) ≤ e := zh1
      change AW ev false 8 t_X8_reorder Q 84 [some (vR 27), some (vI (M 27 11)), some (vI c), some (vI l), some (vI m), some (vI e)] [] (aqM (upM M 27 0 0) (cpA A (M 36) c m e))
      have ze : e = 4 := by omega
      rw [ze]
      exact zX
    · replace zh1 : ¬ ((4 : Int) ≤ e) := zh1
      exfalso; omega
  | succ n zih =>
    intro e zn zv0
    have zs := zp1.1
    have zg := zp3.1
    refine AW.go pk_X8_reorder 30 21 rfl rfl ?_
    refine And.intro (show Inr e ∧ Inr 4 from ⟨⟨by omega, by omega⟩, ⟨by omega, by omega⟩⟩) (And.intro (fun zh1 => ?_) (fun zh1 => ?_))
    · replace zh1 : (4 : Int) ≤ e := zh1
      exfalso; omega
    · replace zh1 : ¬ ((4 : Int) ≤ e) := zh1
      refine And.intro (show (0 ≤ (6 * m) + e ∧ (6 * m) + e < 120) from (by omega)) ?_
      refine And.intro (show ((0 ≤ (4 * c) + e ∧ (4 * c) + e < 80) ∧ ((0 : Nat) = 0 ∨ M 36 ((6 * m) + e) = 0 ∨ M 36 ((6 * m) + e) = 1)) from ⟨by omega, Or.inl rfl⟩) ?_
      refine And.intro (show 5 < mL t_X8_reorder from (by decide)) ?_
      change AW ev false 8 t_X8_reorder Q 48 [some (vR 27), some (vI (M 27 11)), some (vI c), some (vI l), some (vI m), some (vI (e + 1))] [] (upM (aqM (upM M 27 0 0) (cpA A (M 36) c m e)) 45 ((4 * c) + e) (M 36 ((6 * m) + e)))
      exact AW.mem (show (upM (aqM (upM M 27 0 0) (cpA A (M 36) c m e)) 45 ((4 * c) + e) (M 36 ((6 * m) + e))) = (aqM (upM M 27 0 0) (cpA A (M 36) c m (e + 1))) from by (rw [aq_put]; exact congrArg (aqM (upM M 27 0 0)) (cpA_s (by omega)))) (zih (e + 1) (by omega) (by omega))
theorem lz_re2 {ev : Ev} {Q : Out → Mem → Prop} {M : Mem}   (zp0 : TJ M) (zp1 : SJ M) (zp2 : KJ M) (zp3 : GJ M) (zp4 : SV M) (l : Int) (zl : 1 ≤ l ∧ l ≤ 6) (rest : Nat) : ∀ (n : Nat) (m : Int) (c : Int) (A : Int → Int) (Ls : List Rq), m + n = M 27 11 → (0 ≤ m) → (c = Ls.length) → (aOK A Ls) → (c + (rqL (rqR (M 36)) l n m).length + rest ≤ 20) → (∀ (A2 : Int → Int) (c2 m2 : Int), aOK A2 (Ls ++ rqL (rqR (M 36)) l n m) → c2 = (Ls ++ rqL (rqR (M 36)) l n m).length → AW ev false 8 t_X8_reorder Q 93 [some (vR 27), some (vI (M 27 11)), some (vI c2), some (vI l), some (vI m2), none] [] (aqM (upM M 27 0 0) A2)) → AW ev false 8 t_X8_reorder Q 23 [some (vR 27), some (vI (M 27 11)), some (vI c), some (vI l), some (vI m), none] [] (aqM (upM M 27 0 0) A) := by
  intro n
  induction n with
  | zero =>
    intro m c A Ls zn zv0 zv1 zv2 zv3 zv4
    have zs := zp1.1
    have zg := zp3.1
    have zmm := fun (q : m < M 27 11) => zp3.2.1 m (by omega) q
    refine AW.go pk_X8_reorder 15 15 rfl rfl ?_
    refine And.intro (show Inr m ∧ Inr (M 27 11) from ⟨⟨by omega, by omega⟩, ⟨by omega, by omega⟩⟩) (And.intro (fun zh1 => ?_) (fun zh1 => ?_))
    · replace zh1 : M 27 11 ≤ m := zh1
      change AW ev false 8 t_X8_reorder Q 93 [some (vR 27), some (vI (M 27 11)), some (vI c), some (vI l), some (vI m), none] [] (aqM (upM M 27 0 0) A)
      exact zv4 A c m (by simp only [rqL, List.append_nil]; exact zv2) (by simp only [rqL, List.append_nil]; exact zv1)
    · replace zh1 : ¬ (M 27 11 ≤ m) := zh1
      exfalso; omega
  | succ n zih =>
    intro m c A Ls zn zv0 zv1 zv2 zv3 zv4
    have zs := zp1.1
    have zg := zp3.1
    have zmm := fun (q : m < M 27 11) => zp3.2.1 m (by omega) q
    refine AW.go pk_X8_reorder 15 15 rfl rfl ?_
    refine And.intro (show Inr m ∧ Inr (M 27 11) from ⟨⟨by omega, by omega⟩, ⟨by omega, by omega⟩⟩) (And.intro (fun zh1 => ?_) (fun zh1 => ?_))
    · replace zh1 : M 27 11 ≤ m := zh1
      exfalso; omega
    · replace zh1 : ¬ (M 27 11 ≤ m) := zh1
      replace zmm := zmm (by omega)
      refine And.intro (show (0 ≤ (6 * m) + 2 ∧ (6 * m) + 2 < 120) from (by omega)) ?_
      refine And.intro (show Inr (M 36 ((6 * m) + 2)) ∧ Inr l from ⟨⟨by omega, by omega⟩, ⟨by omega, by omega⟩⟩) (And.intro (fun zh2 => ?_) (fun zh2 => ?_))
      · replace zh2 : M 36 ((6 * m) + 2) ≠ l := zh2
        change AW ev false 8 t_X8_reorder Q 87 [some (vR 27), some (vI (M 27 11)), some (vI c), some (vI l), some (vI m), none] [] (aqM (upM M 27 0 0) A)
        refine AW.go pk_X8_reorder 52 2 rfl rfl ?_
        refine And.intro (show 4 < mL t_X8_reorder from (by decide)) ?_
        change AW ev false 8 t_X8_reorder Q 23 [some (vR 27), some (vI (M 27 11)), some (vI c), some (vI l), some (vI (m + 1)), none] [] (aqM (upM M 27 0 0) A)
        exact zih (m + 1) c A Ls (by omega) (by omega) zv1 zv2 (by rw [rqL_n (by rw [rqR_at _ _ 2 (by omega) (by omega)]; omega)] at zv3; exact zv3) (by rw [rqL_n (by rw [rqR_at _ _ 2 (by omega) (by omega)]; omega)] at zv4; exact zv4)
      · replace zh2 : ¬ (M 36 ((6 * m) + 2) ≠ l) := zh2
        refine And.intro (show 5 < mL t_X8_reorder from (by decide)) ?_
        change AW ev false 8 t_X8_reorder Q 48 [some (vR 27), some (vI (M 27 11)), some (vI c), some (vI l), some (vI m), some (vI 0)] [] (aqM (upM M 27 0 0) A)
        have zun : rqL (rqR (M 36)) l (n + 1) m = (M 36 (6 * m), M 36 (6 * m + 1), M 36 (6 * m + 2), M 36 (6 * m + 3)) :: rqL (rqR (M 36)) l n (m + 1) := by
          rw [rqL_y (by rw [rqR_at _ _ 2 (by omega) (by omega)]; omega), rqR_0, rqR_at _ _ 1 (by omega) (by omega), rqR_at _ _ 2 (by omega) (by omega), rqR_at _ _ 3 (by omega) (by omega)]
        rw [zun] at zv3 zv4
        rw [List.length_cons] at zv3
        rw [show Ls ++ (M 36 (6 * m), M 36 (6 * m + 1), M 36 (6 * m + 2), M 36 (6 * m + 3)) :: rqL (rqR (M 36)) l n (m + 1) = Ls ++ [(M 36 (6 * m), M 36 (6 * m + 1), M 36 (6 * m + 2), M 36 (6 * m + 3))] ++ rqL (rqR (M 36)) l n (m + 1) from by rw [List.append_assoc]; rfl] at zv4
        refine AW.mem (congrArg (aqM (upM M 27 0 0)) (cpA_0 A (M 36) c m)) (lz_re1 zp0 zp1 zp2 zp3 zp4 c l m A (by omega) (by omega) ?_ 4 0 (by omega) (by omega))
        refine AW.go pk_X8_reorder 51 3 rfl rfl ?_
        refine And.intro (show 2 < mL t_X8_reorder from (by decide)) ?_
        refine And.intro (show 4 < mL t_X8_reorder from (by decide)) ?_
        change AW ev false 8 t_X8_reorder Q 23 [some (vR 27), some (vI (M 27 11)), some (vI (c + 1)), some (vI l), some (vI (m + 1)), some (vI 4)] [] (aqM (upM M 27 0 0) (cpA A (M 36) c m 4))
        refine AW.sub [some (vR 27), some (vI (M 27 11)), some (vI (c + 1)), some (vI l), some (vI (m + 1)), none] (by simp [lsub]) ?_
        exact zih (m + 1) (c + 1) (cpA A (M 36) c m 4) (Ls ++ [(M 36 (6 * m), M 36 (6 * m + 1), M 36 (6 * m + 2), M 36 (6 * m + 3))]) (by omega) (by omega) (by rw [List.length_append, List.length_singleton]; omega) (zv2.app zv1) (by omega) zv4
theorem lz_re3 {ev : Ev} {Q : Out → Mem → Prop} {M : Mem}   (zp0 : TJ M) (zp1 : SJ M) (zp2 : KJ M) (zp3 : GJ M) (zp4 : SV M)  : ∀ (n : Nat) (l : Int) (c : Int) (A : Int → Int) (Ls : List Rq), l + n = 7 → (1 ≤ l) → (c = Ls.length) → (aOK A Ls) → (c + (rqA (rqR (M 36)) (M 27 11).toNat n l).length ≤ 20) → (∀ (A2 : Int → Int) (c2 l2 : Int), aOK A2 (Ls ++ rqA (rqR (M 36)) (M 27 11).toNat n l) → AW ev false 8 t_X8_reorder Q 99 [some (vR 27), some (vI (M 27 11)), some (vI c2), some (vI l2), none, none] [] (aqM (upM M 27 0 0) A2)) → AW ev false 8 t_X8_reorder Q 14 [some (vR 27), some (vI (M 27 11)), some (vI c), some (vI l), none, none] [] (aqM (upM M 27 0 0) A) := by
  intro n
  induction n with
  | zero =>
    intro l c A Ls zn zv0 zv1 zv2 zv3 zv4
    have zs := zp1.1
    have zg := zp3.1
    refine AW.go pk_X8_reorder 10 5 rfl rfl ?_
    refine And.intro (show Inr l ∧ Inr 6 from ⟨⟨by omega, by omega⟩, ⟨by omega, by omega⟩⟩) (And.intro (fun zh1 => ?_) (fun zh1 => ?_))
    · replace zh1 : (6 : Int) < l := zh1
      change AW ev false 8 t_X8_reorder Q 99 [some (vR 27), some (vI (M 27 11)), some (vI c), some (vI l), none, none] [] (aqM (upM M 27 0 0) A)
      exact zv4 A c l (by simp only [rqA, List.append_nil]; exact zv2)
    · replace zh1 : ¬ ((6 : Int) < l) := zh1
      exfalso; omega
  | succ n zih =>
    intro l c A Ls zn zv0 zv1 zv2 zv3 zv4
    have zs := zp1.1
    have zg := zp3.1
    refine AW.go pk_X8_reorder 10 5 rfl rfl ?_
    refine And.intro (show Inr l ∧ Inr 6 from ⟨⟨by omega, by omega⟩, ⟨by omega, by omega⟩⟩) (And.intro (fun zh1 => ?_) (fun zh1 => ?_))
    · replace zh1 : (6 : Int) < l := zh1
      exfalso; omega
    · replace zh1 : ¬ ((6 : Int) < l) := zh1
      refine And.intro (show 4 < mL t_X8_reorder from (by decide)) ?_
      change AW ev false 8 t_X8_reorder Q 23 [some (vR 27), some (vI (M 27 11)), some (vI c), some (vI l), some (vI 0), none] [] (aqM (upM M 27 0 0) A)
      rw [rqA, List.length_append] at zv3
      rw [show rqA (rqR (M 36)) (M 27 11).toNat (n + 1) l = rqL (rqR (M 36)) l (M 27 11).toNat 0 ++ rqA (rqR (M 36)) (M 27 11).toNat n (l + 1) from rfl, ← List.append_assoc] at zv4
      refine lz_re2 zp0 zp1 zp2 zp3 zp4 l (by omega) (rqA (rqR (M 36)) (M 27 11).toNat n (l + 1)).length (M 27 11).toNat 0 c A Ls (by omega) (by omega) zv1 zv2 (by omega) (fun A2 c2 m2 y1 y2 => ?_)
      refine AW.go pk_X8_reorder 54 2 rfl rfl ?_
      refine And.intro (show 3 < mL t_X8_reorder from (by decide)) ?_
      change AW ev false 8 t_X8_reorder Q 14 [some (vR 27), some (vI (M 27 11)), some (vI c2), some (vI (l + 1)), some (vI m2), none] [] (aqM (upM M 27 0 0) A2)
      refine AW.sub [some (vR 27), some (vI (M 27 11)), some (vI c2), some (vI (l + 1)), none, none] (by simp [lsub]) ?_
      have y3 : ((Ls ++ rqL (rqR (M 36)) l (M 27 11).toNat 0).length : Int) = Ls.length + (rqL (rqR (M 36)) l (M 27 11).toNat 0).length := by rw [List.length_append]; omega
      exact zih (l + 1) c2 A2 (Ls ++ rqL (rqR (M 36)) l (M 27 11).toNat 0) (by omega) (by omega) y2 y1 (by omega) zv4
theorem lz_re4 {ev : Ev} {Q : Out → Mem → Prop} {M : Mem}   (zp0 : TJ M) (zp1 : SJ M) (zp2 : KJ M) (zp3 : GJ M) (zp4 : SV M) (c : Int) (A : Int → Int) : ∀ (n : Nat) (k : Int) (ag : Int) (X : Mem) (qs : List Rq), k + n = M 27 11 → (0 ≤ k) → (NPJ X) → (X 27 2 = M 27 2) → (X 45 = A) → (ag = X 27 11 ∧ 0 ≤ X 27 11) → (X 27 11 + n ≤ 20) → (aRest A k qs ∧ qs.length = n) → (∀ q ∈ qs, rqO (M 27 2) q) → (∀ W : Mem, SCh qs X W → Q (.inl (some (vI (W 27 11)))) W) → AW ev false 8 t_X8_reorder Q 109 [some (vR 27), some (vI (M 27 11)), some (vI c), some (vI ag), some (vI k), none] [] X := by
  intro n
  induction n with
  | zero =>
    intro k ag X qs zn zv0 zv1 zv2 zv3 zv4 zv5 zv6 zv7 zv8
    have zs := zp1.1
    have zg := zp3.1
    refine AW.go pk_X8_reorder 63 36 rfl rfl ?_
    refine And.intro (show Inr k ∧ Inr (M 27 11) from ⟨⟨by omega, by omega⟩, ⟨by omega, by omega⟩⟩) (And.intro (fun zh1 => ?_) (fun zh1 => ?_))
    · replace zh1 : M 27 11 ≤ k := zh1
      change AW ev false 8 t_X8_reorder Q 178 [some (vR 27), some (vI (M 27 11)), some (vI c), some (vI ag), some (vI k), none] [] X
      refine AW.go pk_X8_reorder 107 2 rfl rfl ?_
      refine And.intro rfl ?_
      have zqn : qs = [] := List.eq_nil_of_length_eq_zero zv6.2
      subst zqn
      rw [zv4.1]
      exact zv8 X rfl
    · replace zh1 : ¬ (M 27 11 ≤ k) := zh1
      exfalso; omega
  | succ n zih =>
    intro k ag X qs zn zv0 zv1 zv2 zv3 zv4 zv5 zv6 zv7 zv8
    have zs := zp1.1
    have zg := zp3.1
    obtain ⟨zar, zln⟩ := zv6
    cases qs with
    | nil => exact absurd zln (by simp)
    | cons q qs =>
    rw [List.length_cons] at zln
    have zqo := zv7 q List.mem_cons_self
    unfold rqO at zqo
    have ze0 : X 45 (4 * k) = q.1 := by rw [zv3]; exact zar.hd.1
    have ze1 : X 45 (4 * k + 1) = q.2.1 := by rw [zv3]; exact zar.hd.2.1
    have ze2 : X 45 (4 * k + 2) = q.2.2.1 := by rw [zv3]; exact zar.hd.2.2.1
    have ze3 : X 45 (4 * k + 3) = q.2.2.2 := by rw [zv3]; exact zar.hd.2.2.2
    refine AW.go pk_X8_reorder 63 36 rfl rfl ?_
    refine And.intro (show Inr k ∧ Inr (M 27 11) from ⟨⟨by omega, by omega⟩, ⟨by omega, by omega⟩⟩) (And.intro (fun zh1 => ?_) (fun zh1 => ?_))
    · replace zh1 : M 27 11 ≤ k := zh1
      exfalso; omega
    · replace zh1 : ¬ (M 27 11 ≤ k) := zh1
      refine And.intro (show (0 ≤ 4 * k ∧ 4 * k < 80) from (by omega)) ?_
      refine And.intro (show (0 ≤ (4 * k) + 1 ∧ (4 * k) + 1 < 80) from (by omega)) ?_
      refine And.intro (show (0 ≤ (4 * k) + 2 ∧ (4 * k) + 2 < 80) from (by omega)) ?_
      refine And.intro (show (0 ≤ (4 * k) + 3 ∧ (4 * k) + 3 < 80) from (by omega)) ?_
      change AW ev false 8 t_X8_reorder Q 159 [some (vR 27), some (vI (M 27 11)), some (vI c), some (vI ag), some (vI k), none] [vI (X 45 ((4 * k) + 3)), vI (X 45 ((4 * k) + 2)), vI (X 45 ((4 * k) + 1)), vI (X 45 (4 * k)), vR 27, vI ag] X
      refine AW.callV (d' := 7) [vI (X 45 (4 * k)), vI (X 45 ((4 * k) + 1)), vI (X 45 ((4 * k) + 2)), vI (X 45 ((4 * k) + 3))] [vI ag] vm_X8_sends rfl hX8_190 (okP_d pk_X8_reorder 98 159 (.invokevirtual 190) 3 rfl) (by decide) rfl (Nat.le_of_ble_eq_true rfl) ?_
      refine c_X8_sends (X 45 (4 * k)) (X 45 ((4 * k) + 1)) (X 45 ((4 * k) + 2)) (X 45 ((4 * k) + 3)) zv1.1 zv1.2.1 zv1.2.2.1 zv1.2.2.2 (by rw [ze0, zv2]; omega) (by rw [ze1, zv2]; omega) (by rw [ze0, ze1]; exact zqo.2.2.1) (by rw [ze2]; omega) (by rw [ze3]; omega) (by omega) (fun w1 Y zw1 => ?_)
      rw [ze0, ze1, ze2, ze3] at zw1
      obtain ⟨zk1, zk2, zk3, zk4⟩ := PostS.keep zw1 zv1 (by omega) (by rw [zv2]; omega) (by rw [zv2]; omega) (by omega) (by omega)
      change AW ev false 8 t_X8_reorder Q 162 [some (vR 27), some (vI (M 27 11)), some (vI c), some (vI ag), some (vI k), none] [vI w1, vI ag] Y
      refine AW.go pk_X8_reorder 99 3 rfl rfl ?_
      refine And.intro (show Inr w1 from ⟨by omega, by omega⟩) (And.intro (fun zh2 => ?_) (fun zh2 => ?_))
      · replace zh2 : w1 = (0 : Int) := zh2
        change AW ev false 8 t_X8_reorder Q 169 [some (vR 27), some (vI (M 27 11)), some (vI c), some (vI ag), some (vI k), none] [vI ag] Y
        refine AW.go pk_X8_reorder 102 5 rfl rfl ?_
        refine And.intro (show 3 < mL t_X8_reorder from (by decide)) ?_
        refine And.intro (show 4 < mL t_X8_reorder from (by decide)) ?_
        change AW ev false 8 t_X8_reorder Q 109 [some (vR 27), some (vI (M 27 11)), some (vI c), some (vI (ag + 0)), some (vI (k + 1)), none] [] Y
        exact zih (k + 1) (ag + 0) Y qs (by omega) (by omega) zk1 (by rw [zk3 2 (by decide)]; exact zv2) (by rw [zk2 45 (by decide) (by decide) (by decide) (by decide) (by decide) (by decide) (by decide)]; exact zv3) (by omega) (by omega) ⟨zar.tl, by omega⟩ (fun q2 y => zv7 q2 (List.mem_cons_of_mem _ y)) (fun W y => zv8 W ⟨w1, Y, zw1, y⟩)
      · replace zh2 : ¬ (w1 = (0 : Int)) := zh2
        change AW ev false 8 t_X8_reorder Q 170 [some (vR 27), some (vI (M 27 11)), some (vI c), some (vI ag), some (vI k), none] [vI 1, vI ag] Y
        refine AW.go pk_X8_reorder 103 4 rfl rfl ?_
        refine And.intro (show 3 < mL t_X8_reorder from (by decide)) ?_
        refine And.intro (show 4 < mL t_X8_reorder from (by decide)) ?_
        change AW ev false 8 t_X8_reorder Q 109 [some (vR 27), some (vI (M 27 11)), some (vI c), some (vI (ag + 1)), some (vI (k + 1)), none] [] Y
        exact zih (k + 1) (ag + 1) Y qs (by omega) (by omega) zk1 (by rw [zk3 2 (by decide)]; exact zv2) (by rw [zk2 45 (by decide) (by decide) (by decide) (by decide) (by decide) (by decide) (by decide)]; exact zv3) (by omega) (by omega) ⟨zar.tl, by omega⟩ (fun q2 y => zv7 q2 (List.mem_cons_of_mem _ y)) (fun W y => zv8 W ⟨w1, Y, zw1, y⟩)
theorem c_X8_reorder {ev : Ev} {Q : Out → Mem → Prop} {M : Mem}   (zp0 : TJ M) (zp1 : SJ M) (zp2 : KJ M) (zp3 : GJ M) (zp4 : SV M) (zQ : ∀ (r : Int) (M' : Mem), (∃ A : Int → Int, SCh (rqA (rqR (M 36)) (M 27 11).toNat 6 1) (reM M A) M') ∧ r = M' 27 11 → Q (.inl (some (vI r))) M') : AM ev false 8 t_X8_reorder [vR 27] M Q := by
  have zs := zp1.1
  have zg := zp3.1
  refine AM.of mt_X8_reorder (Nat.le_of_ble_eq_true rfl) ?_
  change AW ev false 8 t_X8_reorder Q 0 [some (vR 27), none, none, none, none, none] [] M
  refine AW.go pk_X8_reorder 0 10 rfl rfl ?_
  refine And.intro (show 1 < mL t_X8_reorder from (by decide)) ?_
  refine And.intro (show 2 < mL t_X8_reorder from (by decide)) ?_
  refine And.intro (show 3 < mL t_X8_reorder from (by decide)) ?_
  change AW ev false 8 t_X8_reorder Q 14 [some (vR 27), some (vI (M 27 11)), some (vI 0), some (vI 1), none, none] [] (upM M 27 0 0)
  have zln := rqA_len (rqR (M 36)) (M 27 11).toNat
  refine AW.mem (aq_self (upM M 27 0 0)) (lz_re3 zp0 zp1 zp2 zp3 zp4 6 1 0 (M 45) [] (by omega) (by omega) rfl (fun i q y => by cases y) (by omega) (fun A2 c2 l2 zok => ?_))
  rw [List.nil_append] at zok
  change AW ev false 8 t_X8_reorder Q 99 [some (vR 27), some (vI (M 27 11)), some (vI c2), some (vI l2), none, none] [] (aqM (upM M 27 0 0) A2)
  refine AW.go pk_X8_reorder 56 7 rfl rfl ?_
  refine And.intro (show 3 < mL t_X8_reorder from (by decide)) ?_
  refine And.intro (show 4 < mL t_X8_reorder from (by decide)) ?_
  change AW ev false 8 t_X8_reorder Q 109 [some (vR 27), some (vI (M 27 11)), some (vI c2), some (vI 0), some (vI 0), none] [] (upM (aqM (upM M 27 0 0) A2) 27 11 0)
  have zle : (rqA (rqR (M 36)) (M 27 11).toNat 6 1).length = (M 27 11).toNat := rqA_lene _ _ (fun j q0 q1 => by rw [rqR_at _ _ 2 (by omega) (by omega)]; exact (zp3.2.1 j q0 (by omega)).2.2.1)
  exact lz_re4 zp0 zp1 zp2 zp3 zp4 c2 A2 (M 27 11).toNat 0 0 (reM M A2) (rqA (rqR (M 36)) (M 27 11).toNat 6 1) (by omega) (by omega) (re_np ⟨zp0, zp1, zp2, zp3⟩ A2) rfl rfl ⟨rfl, Int.le_refl 0⟩ (by show (0 : Int) + _ ≤ 20; omega) ⟨zok.rest, zle⟩ (fun q y => rqO_all zp3 zp4 q y) (fun W y => zQ _ W ⟨⟨A2, y⟩, rfl⟩)
