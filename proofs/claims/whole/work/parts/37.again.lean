theorem c_X3_postR {ev : Ev} {Q : Out → Mem → Prop} {M : Mem}  (a : Int) (b : Int) (l : Int) (t : Int) (zp0 : SInv M) (zp1 : 0 ≤ a ∧ a < M 7 3) (zp2 : 0 ≤ b ∧ b < M 7 3) (zp3 : a ≠ b) (zp4 : 1 ≤ l ∧ l ≤ 6) (zp5 : 0 ≤ t ∧ t ≤ 71) (zp6 : BKI M) (zp7 : ∀ u, 0 ≤ u → u < M 7 3 → ∀ s, 0 ≤ s → s ≤ 72 → EE (M 23) (M 21) l u u s = -1) (zp8 : 0 ≤ M 19 2 ∧ M 19 2 < 20) (zQ : ∀ (r : Int) (M' : Mem), PostR M a b l t r M' → Q (.inl (some (vI r))) M') : AM ev false 5 t_X3_post [vR 22, vI a, vI b, vI l, vI t] M Q :=
  c_X3_post a b l t (M 19 2) zp0 zp1 zp2 zp3 zp4 zp5 zp6 zp7 rfl zp8 (fun f zc => zQ _ _ (Or.inl ⟨f, zc, rfl, rfl⟩)) (fun f g p zc => zQ _ _ (Or.inr ⟨f, g, p, zc, rfl, rfl⟩))
theorem lz_againIn {ev : Ev} {Q : Out → Mem → Prop} {M : Mem}  (H : Int → Int) (R : Int → Int) (ns : Int) (k : Int) (zp0 : GInv M) (zp1 : M 19 2 = k) (zp2 : RI H R ns (fillM (upM (rqM M k 0) 19 2 0) 21 576 (-1))) (zp3 : rqV R ns k) (zp4 : ∀ l, 1 ≤ l → l ≤ 6 → ∀ u, 0 ≤ u → u < ns → ∀ s, 0 ≤ s → s ≤ 72 → ∀ B : Int → Int, EE H B l u u s = -1) (l : Int) (zl : 1 ≤ l ∧ l ≤ 6) (rest : Nat) : ∀ (n : Nat) (c : Int) (i : Int) (X : Mem), i + n = k → (0 ≤ i) → (c = 4 * i) → (RI H R ns X) → (0 ≤ X 19 2 ∧ X 19 2 + (rqL R l n i).length + rest ≤ 20) → (∀ (Z : Mem) (c2 : Int), PCh (rqL R l n i) X Z → RI H R ns Z → 0 ≤ Z 19 2 ∧ Z 19 2 + rest ≤ 20 → AW ev false 6 t_X3_postAllAgain Q 77 [some (vR 22), some (vI k), some (vI l), some (vI c2)] [] Z) → AW ev false 6 t_X3_postAllAgain Q 22 [some (vR 22), some (vI k), some (vI l), some (vI c)] [] X := by
  intro n
  induction n with
  | zero =>
    intro c i X zn zv0 zv1 zv2 zv3 zv4
    have zs := zp0.1
    refine AW.go pk_X3_postAllAgain 13 34 rfl rfl ?_
    refine And.intro (show Inr c ∧ Inr (4 * k) from ⟨⟨by omega, by omega⟩, ⟨by omega, by omega⟩⟩) (And.intro (fun zh1 => ?_) (fun zh1 => ?_))
    · replace zh1 : 4 * k ≤ c := zh1
      change AW ev false 6 t_X3_postAllAgain Q 77 [some (vR 22), some (vI k), some (vI l), some (vI c)] [] X
      exact zv4 X c rfl zv2 (by simp only [rqL, List.length_nil] at zv3; omega)
    · replace zh1 : ¬ (4 * k ≤ c) := zh1
      exfalso; omega
  | succ n zih =>
    intro c i X zn zv0 zv1 zv2 zv3 zv4
    have zs := zp0.1
    have ze0 : X 26 (c + 0) = R (4 * i) := by rw [zv2.2.2.1, zv1]; congr 1; omega
    have ze1 : X 26 (c + 1) = R (4 * i + 1) := by rw [zv2.2.2.1, zv1]
    have ze2 : X 26 (c + 2) = R (4 * i + 2) := by rw [zv2.2.2.1, zv1]
    have ze3 : X 26 (c + 3) = R (4 * i + 3) := by rw [zv2.2.2.1, zv1]
    have zv := zp3 i (by omega) (by omega)
    refine AW.go pk_X3_postAllAgain 13 34 rfl rfl ?_
    refine And.intro (show Inr c ∧ Inr (4 * k) from ⟨⟨by omega, by omega⟩, ⟨by omega, by omega⟩⟩) (And.intro (fun zh1 => ?_) (fun zh1 => ?_))
    · replace zh1 : 4 * k ≤ c := zh1
      exfalso; omega
    · replace zh1 : ¬ (4 * k ≤ c) := zh1
      refine And.intro (show (0 ≤ c + 2 ∧ c + 2 < 80) from (by omega)) ?_
      refine And.intro (show Inr (X 26 (c + 2)) ∧ Inr l from ⟨⟨by omega, by omega⟩, ⟨by omega, by omega⟩⟩) (And.intro (fun zh2 => ?_) (fun zh2 => ?_))
      · replace zh2 : X 26 (c + 2) ≠ l := zh2
        have zun : rqL R l (n + 1) i = rqL R l n (i + 1) := by
          (conv => lhs; unfold rqL); rw [if_neg (by omega)]
        rw [zun] at zv3 zv4
        change AW ev false 6 t_X3_postAllAgain Q 71 [some (vR 22), some (vI k), some (vI l), some (vI c)] [] X
        refine AW.go pk_X3_postAllAgain 48 2 rfl rfl ?_
        refine And.intro (show 3 < mL t_X3_postAllAgain from (by decide)) ?_
        change AW ev false 6 t_X3_postAllAgain Q 22 [some (vR 22), some (vI k), some (vI l), some (vI (c + 4))] [] X
        exact zih (c + 4) (i + 1) X (by omega) (by omega) (by omega) zv2 zv3 zv4
      · replace zh2 : ¬ (X 26 (c + 2) ≠ l) := zh2
        have zun : rqL R l (n + 1) i = (R (4 * i), R (4 * i + 1), l, R (4 * i + 3)) :: rqL R l n (i + 1) := by
          (conv => lhs; unfold rqL); rw [if_pos (by omega)]
        rw [zun] at zv3 zv4
        rw [List.length_cons] at zv3
        refine And.intro (show (0 ≤ c + 0 ∧ c + 0 < 80) from (by omega)) ?_
        refine And.intro (show (0 ≤ c + 1 ∧ c + 1 < 80) from (by omega)) ?_
        refine And.intro (show (0 ≤ c + 3 ∧ c + 3 < 80) from (by omega)) ?_
        change AW ev false 6 t_X3_postAllAgain Q 67 [some (vR 22), some (vI k), some (vI l), some (vI c)] [vI (X 26 (c + 3)), vI l, vI (X 26 (c + 1)), vI (X 26 (c + 0)), vR 22] X
        refine AW.callV (d' := 5) [vI (X 26 (c + 0)), vI (X 26 (c + 1)), vI l, vI (X 26 (c + 3))] [] vm_X3_post rfl hX3_111 (okP_d pk_X3_postAllAgain 46 67 (.invokevirtual 111) 3 rfl) (by decide) rfl (Nat.le_of_ble_eq_true rfl) ?_
        refine c_X3_postR (X 26 (c + 0)) (X 26 (c + 1)) l (X 26 (c + 3)) zv2.1 (by rw [ze0, zv2.2.2.2.2]; omega) (by rw [ze1, zv2.2.2.2.2]; omega) (by omega) (by omega) (by omega) zv2.2.1 (show ∀ u, 0 ≤ u → u < X 7 3 → ∀ s, 0 ≤ s → s ≤ 72 → EE (X 23) (X 21) l u u s = -1 from fun u q0 q1 s q2 q3 => by rw [zv2.2.2.2.1]; exact zp4 l (by omega) (by omega) u q0 (by rw [← zv2.2.2.2.2]; exact q1) s q2 q3 _) (by omega) (fun w1 Y zw1 => ?_)
        obtain ⟨zri, zr0, zr1⟩ := zv2.post zw1 (by omega)
        change AW ev false 6 t_X3_postAllAgain Q 70 [some (vR 22), some (vI k), some (vI l), some (vI c)] [vI w1] Y
        refine AW.go pk_X3_postAllAgain 47 3 rfl rfl ?_
        refine And.intro (show 3 < mL t_X3_postAllAgain from (by decide)) ?_
        change AW ev false 6 t_X3_postAllAgain Q 22 [some (vR 22), some (vI k), some (vI l), some (vI (c + 4))] [] Y
        exact zih (c + 4) (i + 1) Y (by omega) (by omega) (by omega) zri (by omega) (fun Z c2 q1 q2 q3 => zv4 Z c2 ⟨w1, Y, by show PostR X (R (4 * i)) (R (4 * i + 1)) l (R (4 * i + 3)) w1 Y; rw [← ze0, ← ze1, ← ze3]; exact zw1, q1⟩ q2 q3)
theorem lz_again {ev : Ev} {Q : Out → Mem → Prop} {M : Mem}  (H : Int → Int) (R : Int → Int) (ns : Int) (k : Int) (zp0 : GInv M) (zp1 : M 19 2 = k) (zp2 : RI H R ns (fillM (upM (rqM M k 0) 19 2 0) 21 576 (-1))) (zp3 : rqV R ns k) (zp4 : ∀ l, 1 ≤ l → l ≤ 6 → ∀ u, 0 ≤ u → u < ns → ∀ s, 0 ≤ s → s ≤ 72 → ∀ B : Int → Int, EE H B l u u s = -1)  : ∀ (n : Nat) (l : Int) (X : Mem), l + n = 7 → (1 ≤ l) → (RI H R ns X) → (0 ≤ X 19 2 ∧ X 19 2 + (rqA R k.toNat n l).length ≤ 20) → (∀ W : Mem, PCh (rqA R k.toNat n l) X W → Q (.inl none) W) → AW ev false 6 t_X3_postAllAgain Q 14 [some (vR 22), some (vI k), some (vI l), none] [] X := by
  intro n
  induction n with
  | zero =>
    intro l X zn zv0 zv1 zv2 zv3
    have zs := zp0.1
    refine AW.go pk_X3_postAllAgain 8 5 rfl rfl ?_
    refine And.intro (show Inr l ∧ Inr 6 from ⟨⟨by omega, by omega⟩, ⟨by omega, by omega⟩⟩) (And.intro (fun zh1 => ?_) (fun zh1 => ?_))
    · replace zh1 : (6 : Int) < l := zh1
      change AW ev false 6 t_X3_postAllAgain Q 83 [some (vR 22), some (vI k), some (vI l), none] [] X
      refine AW.go pk_X3_postAllAgain 52 1 rfl rfl ?_
      refine And.intro rfl ?_
      exact zv3 X rfl
    · replace zh1 : ¬ ((6 : Int) < l) := zh1
      exfalso; omega
  | succ n zih =>
    intro l X zn zv0 zv1 zv2 zv3
    have zs := zp0.1
    refine AW.go pk_X3_postAllAgain 8 5 rfl rfl ?_
    refine And.intro (show Inr l ∧ Inr 6 from ⟨⟨by omega, by omega⟩, ⟨by omega, by omega⟩⟩) (And.intro (fun zh1 => ?_) (fun zh1 => ?_))
    · replace zh1 : (6 : Int) < l := zh1
      exfalso; omega
    · replace zh1 : ¬ ((6 : Int) < l) := zh1
      refine And.intro (show 3 < mL t_X3_postAllAgain from (by decide)) ?_
      change AW ev false 6 t_X3_postAllAgain Q 22 [some (vR 22), some (vI k), some (vI l), some (vI 0)] [] X
      rw [rqA, List.length_append] at zv2
      refine lz_againIn H R ns k zp0 zp1 zp2 zp3 zp4 l (by omega) (rqA R k.toNat n (l + 1)).length k.toNat 0 0 X (by omega) (by omega) (by omega) zv1 (by omega) (fun Z c2 q1 q2 q3 => ?_)
      refine AW.go pk_X3_postAllAgain 50 2 rfl rfl ?_
      refine And.intro (show 2 < mL t_X3_postAllAgain from (by decide)) ?_
      change AW ev false 6 t_X3_postAllAgain Q 14 [some (vR 22), some (vI k), some (vI (l + 1)), some (vI c2)] [] Z
      refine AW.sub [some (vR 22), some (vI k), some (vI (l + 1)), none] (by simp [lsub]) ?_
      exact zih (l + 1) Z (by omega) (by omega) q2 (by omega) (fun W q4 => zv3 W (PCh.app q1 q4))
theorem c_X3_postAllAgain {ev : Ev} {Q : Out → Mem → Prop} {M : Mem}  (H : Int → Int) (R : Int → Int) (ns : Int) (k : Int) (zp0 : GInv M) (zp1 : M 19 2 = k) (zp2 : RI H R ns (fillM (upM (rqM M k 0) 19 2 0) 21 576 (-1))) (zp3 : rqV R ns k) (zp4 : ∀ l, 1 ≤ l → l ≤ 6 → ∀ u, 0 ≤ u → u < ns → ∀ s, 0 ≤ s → s ≤ 72 → ∀ B : Int → Int, EE H B l u u s = -1) (zQ : ∀ (M' : Mem), PCh (rqA R k.toNat 6 1) (fillM (upM (rqM M k 0) 19 2 0) 21 576 (-1)) M' → Q (.inl none) M') : AM ev false 6 t_X3_postAllAgain [vR 22] M Q := by
  have zs := zp0.1
  refine AM.of mt_X3_postAllAgain (Nat.le_of_ble_eq_true rfl) ?_
  change AW ev false 6 t_X3_postAllAgain Q 0 [some (vR 22), none, none, none] [] M
  refine AW.go pk_X3_postAllAgain 0 2 rfl rfl ?_
  change AW ev false 6 t_X3_postAllAgain Q 1 [some (vR 22), none, none, none] [vR 22] M
  refine AW.callV (d' := 2) [] [] vm_X3_takeRequests rfl hX3_105 (okP_d pk_X3_postAllAgain 1 1 (.invokevirtual 105) 3 rfl) (by decide) rfl (Nat.le_of_ble_eq_true rfl) ?_
  refine c_X3_takeRequests  zp0 (fun w1 zw1 => ?_)
  change AW ev false 6 t_X3_postAllAgain Q 4 [some (vR 22), none, none, none] [vI w1] (rqM M (M 19 2) 0)
  refine AW.go pk_X3_postAllAgain 2 4 rfl rfl ?_
  refine And.intro (show 1 < mL t_X3_postAllAgain from (by decide)) ?_
  change AW ev false 6 t_X3_postAllAgain Q 9 [some (vR 22), some (vI w1), none, none] [vR 19] (rqM M (M 19 2) 0)
  refine AW.callV (d' := 1) [] [] vm_X6_clear rfl hX3_108 (okP_d pk_X3_postAllAgain 5 9 (.invokevirtual 108) 3 rfl) (by decide) rfl (Nat.le_of_ble_eq_true rfl) ?_
  refine c_X6_clear   ?_
  change AW ev false 6 t_X3_postAllAgain Q 12 [some (vR 22), some (vI w1), none, none] [] (fillM (upM (rqM M (M 19 2) 0) 19 2 0) 21 576 (-1))
  refine AW.go pk_X3_postAllAgain 6 2 rfl rfl ?_
  refine And.intro (show 2 < mL t_X3_postAllAgain from (by decide)) ?_
  change AW ev false 6 t_X3_postAllAgain Q 14 [some (vR 22), some (vI w1), some (vI 1), none] [] (fillM (upM (rqM M (M 19 2) 0) 19 2 0) 21 576 (-1))
  rw [show w1 = k from by omega]
  refine AW.mem (show (fillM (upM (rqM M (M 19 2) 0) 19 2 0) 21 576 (-1)) = (fillM (upM (rqM M k 0) 19 2 0) 21 576 (-1)) from by rw [zp1]) ?_
  exact lz_again H R ns k zp0 zp1 zp2 zp3 zp4 6 1 (fillM (upM (rqM M k 0) 19 2 0) 21 576 (-1)) (by omega) (by omega) zp2 (by have := rqA_len R k.toNat; show 0 ≤ (0 : Int) ∧ (0 : Int) + _ ≤ 20; omega) zQ
