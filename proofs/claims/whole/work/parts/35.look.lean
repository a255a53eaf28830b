theorem lz_lookIn {ev : Ev} {Q : Out → Mem → Prop} {M : Mem}   (zp0 : TInv M) (zp1 : SInv M) (zp2 : KInv M) (a sun : Int) (za : 0 ≤ a ∧ a < M 7 3) (zsu : sun = shT (fun hr => snF (M 2) (M 8 a) (eyeF (M 2) (M 8) (M 9) a) hr (cvC M (M 8 a) hr) = 0) 12 6 0) (zX : AW ev false 6 t_X3_lookAtLinks Q 71 [some (vR 22), some (vI a), some (vI sun), some (vI (M 7 3))] [] (lkM M (hpC M) (M 7 3) a (M 7 3))) : ∀ (n : Nat) (b : Int), b + n = M 7 3 → (0 ≤ b) → AW ev false 6 t_X3_lookAtLinks Q 24 [some (vR 22), some (vI a), some (vI sun), some (vI b)] [] (lkM M (hpC M) (M 7 3) a b) := by
  intro n
  induction n with
  | zero =>
    intro b zn zv0
    have zs := zp1.1
    refine AW.go pk_X3_lookAtLinks 14 4 rfl rfl ?_
    change AW ev false 6 t_X3_lookAtLinks Q 29 [some (vR 22), some (vI a), some (vI sun), some (vI b)] [vR 7, vI b] (lkM M (hpC M) (M 7 3) a b)
    refine AW.callV (d' := 0) [] [vI b] vm_X4_size rfl hX3_36 (okP_d pk_X3_lookAtLinks 17 29 (.invokevirtual 36) 3 rfl) (by decide) rfl (Nat.le_of_ble_eq_true rfl) ?_
    refine c_X4_size   (fun w1 zw1 => ?_)
    replace zw1 : w1 = (M 7 3) := zw1
    change AW ev false 6 t_X3_lookAtLinks Q 32 [some (vR 22), some (vI a), some (vI sun), some (vI b)] [vI w1, vI b] (lkM M (hpC M) (M 7 3) a b)
    refine AW.go pk_X3_lookAtLinks 18 13 rfl rfl ?_
    refine And.intro (show Inr b ∧ Inr w1 from ⟨⟨by omega, by omega⟩, ⟨by omega, by omega⟩⟩) (And.intro (fun zh1 => ?_) (fun zh1 => ?_))
    · replace zh1 : w1 ≤ b := zh1
      change AW ev false 6 t_X3_lookAtLinks Q 71 [some (vR 22), some (vI a), some (vI sun), some (vI b)] [] (lkM M (hpC M) (M 7 3) a b)
      have zbe : b = M 7 3 := by omega
      rw [zbe]
      exact zX
    · replace zh1 : ¬ (w1 ≤ b) := zh1
      exfalso; omega
  | succ n zih =>
    intro b zn zv0
    have zs := zp1.1
    refine AW.go pk_X3_lookAtLinks 14 4 rfl rfl ?_
    change AW ev false 6 t_X3_lookAtLinks Q 29 [some (vR 22), some (vI a), some (vI sun), some (vI b)] [vR 7, vI b] (lkM M (hpC M) (M 7 3) a b)
    refine AW.callV (d' := 0) [] [vI b] vm_X4_size rfl hX3_36 (okP_d pk_X3_lookAtLinks 17 29 (.invokevirtual 36) 3 rfl) (by decide) rfl (Nat.le_of_ble_eq_true rfl) ?_
    refine c_X4_size   (fun w1 zw1 => ?_)
    replace zw1 : w1 = (M 7 3) := zw1
    change AW ev false 6 t_X3_lookAtLinks Q 32 [some (vR 22), some (vI a), some (vI sun), some (vI b)] [vI w1, vI b] (lkM M (hpC M) (M 7 3) a b)
    refine AW.go pk_X3_lookAtLinks 18 13 rfl rfl ?_
    refine And.intro (show Inr b ∧ Inr w1 from ⟨⟨by omega, by omega⟩, ⟨by omega, by omega⟩⟩) (And.intro (fun zh1 => ?_) (fun zh1 => ?_))
    · replace zh1 : w1 ≤ b := zh1
      exfalso; omega
    · replace zh1 : ¬ (w1 ≤ b) := zh1
      refine And.intro (show Inr b ∧ Inr a from ⟨⟨by omega, by omega⟩, ⟨by omega, by omega⟩⟩) (And.intro (fun zh2 => ?_) (fun zh2 => ?_))
      · replace zh2 : b ≠ a := zh2
        change AW ev false 6 t_X3_lookAtLinks Q 54 [some (vR 22), some (vI a), some (vI sun), some (vI b)] [vI ((8 * a) + b), vR 23] (lkM M (hpC M) (M 7 3) a b)
        refine AW.go pk_X3_lookAtLinks 31 6 rfl rfl ?_
        change AW ev false 6 t_X3_lookAtLinks Q 61 [some (vR 22), some (vI a), some (vI sun), some (vI b)] [vI sun, vI b, vI a, vR 18, vI ((8 * a) + b), vR 23] (lkM M (hpC M) (M 7 3) a b)
        refine AW.callV (d' := 5) [vI a, vI b, vI sun] [vI ((8 * a) + b), vR 23] vm_X2_signalHours rfl hX3_48 (okP_d pk_X3_lookAtLinks 36 61 (.invokevirtual 48) 3 rfl) (by decide) rfl (Nat.le_of_ble_eq_true rfl) ?_
        refine c_X2_signalHours a b sun zp0 zp1 (show 0 ≤ a ∧ a < (M 7 3) from by omega) (show 0 ≤ b ∧ b < (M 7 3) from by omega) (by omega) (fun w2 zw2 => ?_)
        replace zw2 : w2 = (if betF (M 2) (M 8) (M 9) a b ≠ -1 then 0 else shT (fun hr => bitP sun hr ∧ thrP (M 2) (M 8) (M 9) (M 10) a b hr) 12 6 0) ∧ (-2147483648 ≤ w2 ∧ w2 < 2147483648) := zw2
        have zhp : hpC M a b = w2 := by unfold hpC; rw [if_neg (by omega), zw2.1, zsu]
        change AW ev false 6 t_X3_lookAtLinks Q 64 [some (vR 22), some (vI a), some (vI sun), some (vI b)] [vI w2, vI ((8 * a) + b), vR 23] (lkM M (hpC M) (M 7 3) a b)
        refine AW.go pk_X3_lookAtLinks 37 3 rfl rfl ?_
        refine And.intro (show ((0 ≤ (8 * a) + b ∧ (8 * a) + b < 64) ∧ ((0 : Nat) = 0 ∨ w2 = 0 ∨ w2 = 1)) from ⟨by omega, Or.inl rfl⟩) ?_
        refine And.intro (show 3 < mL t_X3_lookAtLinks from (by decide)) ?_
        change AW ev false 6 t_X3_lookAtLinks Q 24 [some (vR 22), some (vI a), some (vI sun), some (vI (b + 1))] [] (upM (lkM M (hpC M) (M 7 3) a b) 23 ((8 * a) + b) w2)
        exact AW.mem (show (upM (lkM M (hpC M) (M 7 3) a b) 23 ((8 * a) + b) w2) = (lkM M (hpC M) (M 7 3) a (b + 1)) from by first | (have zhp0 : hpC M a b = 0 := by { unfold hpC; rw [if_pos (by omega)] }; rw [← zhp0]; exact lk_s (by omega) (by omega) (by omega)) | (rw [← zhp]; exact lk_s (by omega) (by omega) (by omega))) (zih (b + 1) (by omega) (by omega))
      · replace zh2 : ¬ (b ≠ a) := zh2
        change AW ev false 6 t_X3_lookAtLinks Q 64 [some (vR 22), some (vI a), some (vI sun), some (vI b)] [vI 0, vI ((8 * a) + b), vR 23] (lkM M (hpC M) (M 7 3) a b)
        refine AW.go pk_X3_lookAtLinks 37 3 rfl rfl ?_
        refine And.intro (show ((0 ≤ (8 * a) + b ∧ (8 * a) + b < 64) ∧ ((0 : Nat) = 0 ∨ (0 : Int) = 0 ∨ (0 : Int) = 1)) from ⟨by omega, Or.inl rfl⟩) ?_
        refine And.intro (show 3 < mL t_X3_lookAtLinks from (by decide)) ?_
        change AW ev false 6 t_X3_lookAtLinks Q 24 [some (vR 22), some (vI a), some (vI sun), some (vI (b + 1))] [] (upM (lkM M (hpC M) (M 7 3) a b) 23 ((8 * a) + b) 0)
        exact AW.mem (show (upM (lkM M (hpC M) (M 7 3) a b) 23 ((8 * a) + b) 0) = (lkM M (hpC M) (M 7 3) a (b + 1)) from by first | (have zhp0 : hpC M a b = 0 := by { unfold hpC; rw [if_pos (by omega)] }; rw [← zhp0]; exact lk_s (by omega) (by omega) (by omega)) | (rw [← zhp]; exact lk_s (by omega) (by omega) (by omega))) (zih (b + 1) (by omega) (by omega))
theorem lz_look {ev : Ev} {Q : Out → Mem → Prop} {M : Mem}   (zp0 : TInv M) (zp1 : SInv M) (zp2 : KInv M) (zQ : Q (.inl none) (lkM M (hpC M) (M 7 3) (M 7 3) 0)) : ∀ (n : Nat) (a : Int), a + n = M 7 3 → (0 ≤ a) → AW ev false 6 t_X3_lookAtLinks Q 2 [some (vR 22), some (vI a), none, none] [] (lkM M (hpC M) (M 7 3) a 0) := by
  intro n
  induction n with
  | zero =>
    intro a zn zv0
    have zs := zp1.1
    refine AW.go pk_X3_lookAtLinks 2 4 rfl rfl ?_
    change AW ev false 6 t_X3_lookAtLinks Q 7 [some (vR 22), some (vI a), none, none] [vR 7, vI a] (lkM M (hpC M) (M 7 3) a 0)
    refine AW.callV (d' := 0) [] [vI a] vm_X4_size rfl hX3_36 (okP_d pk_X3_lookAtLinks 5 7 (.invokevirtual 36) 3 rfl) (by decide) rfl (Nat.le_of_ble_eq_true rfl) ?_
    refine c_X4_size   (fun w1 zw1 => ?_)
    replace zw1 : w1 = (M 7 3) := zw1
    change AW ev false 6 t_X3_lookAtLinks Q 10 [some (vR 22), some (vI a), none, none] [vI w1, vI a] (lkM M (hpC M) (M 7 3) a 0)
    refine AW.go pk_X3_lookAtLinks 6 5 rfl rfl ?_
    refine And.intro (show Inr a ∧ Inr w1 from ⟨⟨by omega, by omega⟩, ⟨by omega, by omega⟩⟩) (And.intro (fun zh1 => ?_) (fun zh1 => ?_))
    · replace zh1 : w1 ≤ a := zh1
      change AW ev false 6 t_X3_lookAtLinks Q 77 [some (vR 22), some (vI a), none, none] [] (lkM M (hpC M) (M 7 3) a 0)
      refine AW.go pk_X3_lookAtLinks 42 1 rfl rfl ?_
      refine And.intro rfl ?_
      exact Eq.mpr (congrArg (Q _) (show (lkM M (hpC M) (M 7 3) a 0) = (lkM M (hpC M) (M 7 3) (M 7 3) 0) from by rw [show a = M 7 3 from by omega])) (zQ)
    · replace zh1 : ¬ (w1 ≤ a) := zh1
      exfalso; omega
  | succ n zih =>
    intro a zn zv0
    have zs := zp1.1
    refine AW.go pk_X3_lookAtLinks 2 4 rfl rfl ?_
    change AW ev false 6 t_X3_lookAtLinks Q 7 [some (vR 22), some (vI a), none, none] [vR 7, vI a] (lkM M (hpC M) (M 7 3) a 0)
    refine AW.callV (d' := 0) [] [vI a] vm_X4_size rfl hX3_36 (okP_d pk_X3_lookAtLinks 5 7 (.invokevirtual 36) 3 rfl) (by decide) rfl (Nat.le_of_ble_eq_true rfl) ?_
    refine c_X4_size   (fun w1 zw1 => ?_)
    replace zw1 : w1 = (M 7 3) := zw1
    change AW ev false 6 t_X3_lookAtLinks Q 10 [some (vR 22), some (vI a), none, none] [vI w1, vI a] (lkM M (hpC M) (M 7 3) a 0)
    refine AW.go pk_X3_lookAtLinks 6 5 rfl rfl ?_
    refine And.intro (show Inr a ∧ Inr w1 from ⟨⟨by omega, by omega⟩, ⟨by omega, by omega⟩⟩) (And.intro (fun zh1 => ?_) (fun zh1 => ?_))
    · replace zh1 : w1 ≤ a := zh1
      exfalso; omega
    · replace zh1 : ¬ (w1 ≤ a) := zh1
      change AW ev false 6 t_X3_lookAtLinks Q 18 [some (vR 22), some (vI a), none, none] [vI a, vR 18] (lkM M (hpC M) (M 7 3) a 0)
      refine AW.callV (d' := 4) [vI a] [] vm_X2_sunHours rfl hX3_42 (okP_d pk_X3_lookAtLinks 10 18 (.invokevirtual 42) 3 rfl) (by decide) rfl (Nat.le_of_ble_eq_true rfl) ?_
      refine c_X2_sunHours a zp0 zp1 zp2 (show 0 ≤ a ∧ a < (M 7 3) from by omega) (fun sun zsun => ?_)
      replace zsun : sun = shT (fun hr => snF (M 2) (M 8 a) (eyeF (M 2) (M 8) (M 9) a) hr (cvC M (M 8 a) hr) = 0) 12 6 0 ∧ (-2147483648 ≤ sun ∧ sun < 2147483648) := zsun
      change AW ev false 6 t_X3_lookAtLinks Q 21 [some (vR 22), some (vI a), none, none] [vI sun] (lkM M (hpC M) (M 7 3) a 0)
      refine AW.go pk_X3_lookAtLinks 11 3 rfl rfl ?_
      refine And.intro (show 2 < mL t_X3_lookAtLinks from (by decide)) ?_
      refine And.intro (show 3 < mL t_X3_lookAtLinks from (by decide)) ?_
      change AW ev false 6 t_X3_lookAtLinks Q 24 [some (vR 22), some (vI a), some (vI sun), some (vI 0)] [] (lkM M (hpC M) (M 7 3) a 0)
      refine lz_lookIn zp0 zp1 zp2 a sun (by omega) zsun.1 ?_ (M 7 3).toNat 0 (by omega) (by omega)
      refine AW.go pk_X3_lookAtLinks 40 2 rfl rfl ?_
      refine And.intro (show 1 < mL t_X3_lookAtLinks from (by decide)) ?_
      change AW ev false 6 t_X3_lookAtLinks Q 2 [some (vR 22), some (vI (a + 1)), some (vI sun), some (vI (M 7 3))] [] (lkM M (hpC M) (M 7 3) a (M 7 3))
      refine AW.sub [some (vR 22), some (vI (a + 1)), none, none] (by simp [lsub]) ?_
      exact AW.mem (lk_r (by omega) (by omega)) (zih (a + 1) (by omega) (by omega))
theorem c_X3_lookAtLinks {ev : Ev} {Q : Out → Mem → Prop} {M : Mem}   (zp0 : TInv M) (zp1 : SInv M) (zp2 : KInv M) (zQ : Q (.inl none) (lkM M (hpC M) (M 7 3) (M 7 3) 0)) : AM ev false 6 t_X3_lookAtLinks [vR 22] M Q := by
  have zs := zp1.1
  refine AM.of mt_X3_lookAtLinks (Nat.le_of_ble_eq_true rfl) ?_
  change AW ev false 6 t_X3_lookAtLinks Q 0 [some (vR 22), none, none, none] [] M
  refine AW.go pk_X3_lookAtLinks 0 2 rfl rfl ?_
  refine And.intro (show 1 < mL t_X3_lookAtLinks from (by decide)) ?_
  change AW ev false 6 t_X3_lookAtLinks Q 2 [some (vR 22), some (vI 0), none, none] [] M
  exact AW.mem (lk_0 M (hpC M) (M 7 3)) (lz_look zp0 zp1 zp2 zQ (M 7 3).toNat 0 (by omega) (by omega))
theorem lz_takeIn {ev : Ev} {Q : Out → Mem → Prop} {M : Mem}   (zp0 : GInv M) (m : Int) (zm : 0 ≤ m ∧ m < M 19 2) (zX : AW ev false 2 t_X3_takeRequests Q 52 [some (vR 22), some (vI (M 19 2)), some (vI m), some (vI 4)] [] (rqM M m 4)) : ∀ (n : Nat) (w : Int), w + n = 4 → (0 ≤ w) → AW ev false 2 t_X3_takeRequests Q 22 [some (vR 22), some (vI (M 19 2)), some (vI m), some (vI w)] [] (rqM M m w) := by
  intro n
  induction n with
  | zero =>
    intro w zn zv0
    have zs := zp0.1
    refine AW.go pk_X3_takeRequests 13 15 rfl rfl ?_
    refine And.intro (show Inr w ∧ Inr 4 from ⟨⟨by omega, by omega⟩, ⟨by omega, by omega⟩⟩) (And.intro (fun zh1 => ?_) (fun zh1 => ?_))
    · replace zh1 : (4 : Int) ≤ w := zh1
      change AW ev false 2 t_X3_takeRequests Q 52 [some (vR 22), some (vI (M 19 2)), some (vI m), some (vI w)] [] (rqM M m w)
      have zwe : w = 4 := by omega
      rw [zwe]
      exact zX
    · replace zh1 : ¬ ((4 : Int) ≤ w) := zh1
      exfalso; omega
  | succ n zih =>
    intro w zn zv0
    have zs := zp0.1
    refine AW.go pk_X3_takeRequests 13 15 rfl rfl ?_
    refine And.intro (show Inr w ∧ Inr 4 from ⟨⟨by omega, by omega⟩, ⟨by omega, by omega⟩⟩) (And.intro (fun zh1 => ?_) (fun zh1 => ?_))
    · replace zh1 : (4 : Int) ≤ w := zh1
      exfalso; omega
    · replace zh1 : ¬ ((4 : Int) ≤ w) := zh1
      change AW ev false 2 t_X3_takeRequests Q 42 [some (vR 22), some (vI (M 19 2)), some (vI m), some (vI w)] [vI w, vI m, vR 19, vI ((4 * m) + w), vR 26] (rqM M m w)
      refine AW.callV (d' := 1) [vI m, vI w] [vI ((4 * m) + w), vR 26] vm_X6_property rfl hX3_121 (okP_d pk_X3_takeRequests 27 42 (.invokevirtual 121) 3 rfl) (by decide) rfl (Nat.le_of_ble_eq_true rfl) ?_
      refine c_X6_property m w (show 0 ≤ m ∧ m < (M 19 2) from by omega) (show (M 19 2) ≤ 20 from by omega) (by omega) (fun w3 zw3 => ?_)
      replace zw3 : w3 = (M 20 (27 * m + w)) := zw3
      change AW ev false 2 t_X3_takeRequests Q 45 [some (vR 22), some (vI (M 19 2)), some (vI m), some (vI w)] [vI w3, vI ((4 * m) + w), vR 26] (rqM M m w)
      refine AW.go pk_X3_takeRequests 28 3 rfl rfl ?_
      refine And.intro (show ((0 ≤ (4 * m) + w ∧ (4 * m) + w < 80) ∧ ((0 : Nat) = 0 ∨ w3 = 0 ∨ w3 = 1)) from ⟨by omega, Or.inl rfl⟩) ?_
      refine And.intro (show 3 < mL t_X3_takeRequests from (by decide)) ?_
      change AW ev false 2 t_X3_takeRequests Q 22 [some (vR 22), some (vI (M 19 2)), some (vI m), some (vI (w + 1))] [] (upM (rqM M m w) 26 ((4 * m) + w) w3)
      exact AW.mem (show (upM (rqM M m w) 26 ((4 * m) + w) w3) = (rqM M m (w + 1)) from by (rw [zw3]; exact rq_s (by omega) (by omega))) (zih (w + 1) (by omega) (by omega))
theorem lz_take {ev : Ev} {Q : Out → Mem → Prop} {M : Mem}   (zp0 : GInv M) (zQ : ∀ (r : Int), r = M 19 2 → Q (.inl (some (vI r))) (rqM M (M 19 2) 0)) : ∀ (n : Nat) (m : Int), m + n = M 19 2 → (0 ≤ m) → AW ev false 2 t_X3_takeRequests Q 15 [some (vR 22), some (vI (M 19 2)), some (vI m), none] [] (rqM M m 0) := by
  intro n
  induction n with
  | zero =>
    intro m zn zv0
    have zs := zp0.1
    refine AW.go pk_X3_takeRequests 8 5 rfl rfl ?_
    refine And.intro (show Inr m ∧ Inr (M 19 2) from ⟨⟨by omega, by omega⟩, ⟨by omega, by omega⟩⟩) (And.intro (fun zh1 => ?_) (fun zh1 => ?_))
    · replace zh1 : M 19 2 ≤ m := zh1
      change AW ev false 2 t_X3_takeRequests Q 58 [some (vR 22), some (vI (M 19 2)), some (vI m), none] [] (rqM M m 0)
      refine AW.go pk_X3_takeRequests 33 2 rfl rfl ?_
      refine And.intro rfl ?_
      exact Eq.mpr (congrArg (Q _) (show (rqM M m 0) = (rqM M (M 19 2) 0) from by rw [show m = M 19 2 from by omega])) (zQ (M 19 2) (by first | rfl | omega))
    · replace zh1 : ¬ (M 19 2 ≤ m) := zh1
      exfalso; omega
  | succ n zih =>
    intro m zn zv0
    have zs := zp0.1
    refine AW.go pk_X3_takeRequests 8 5 rfl rfl ?_
    refine And.intro (show Inr m ∧ Inr (M 19 2) from ⟨⟨by omega, by omega⟩, ⟨by omega, by omega⟩⟩) (And.intro (fun zh1 => ?_) (fun zh1 => ?_))
    · replace zh1 : M 19 2 ≤ m := zh1
      exfalso; omega
    · replace zh1 : ¬ (M 19 2 ≤ m) := zh1
      refine And.intro (show 3 < mL t_X3_takeRequests from (by decide)) ?_
      change AW ev false 2 t_X3_takeRequests Q 22 [some (vR 22), some (vI (M 19 2)), some (vI m), some (vI 0)] [] (rqM M m 0)
      refine lz_takeIn zp0 m (by omega) ?_ 4 0 (by omega) (by omega)
      refine AW.go pk_X3_takeRequests 31 2 rfl rfl ?_
      refine And.intro (show 2 < mL t_X3_takeRequests from (by decide)) ?_
      change AW ev false 2 t_X3_takeRequests Q 15 [some (vR 22), some (vI (M 19 2)), some (vI (m + 1)), some (vI 4)] [] (rqM M m 4)
      refine AW.sub [some (vR 22), some (vI (M 19 2)), some (vI (m + 1)), none] (by simp [lsub]) ?_
      exact AW.mem (rq_r (by omega)) (zih (m + 1) (by omega) (by omega))
theorem c_X3_takeRequests {ev : Ev} {Q : Out → Mem → Prop} {M : Mem}   (zp0 : GInv M) (zQ : ∀ (r : Int), r = M 19 2 → Q (.inl (some (vI r))) (rqM M (M 19 2) 0)) : AM ev false 2 t_X3_takeRequests [vR 22] M Q := by
  have zs := zp0.1
  refine AM.of mt_X3_takeRequests (Nat.le_of_ble_eq_true rfl) ?_
  change AW ev false 2 t_X3_takeRequests Q 0 [some (vR 22), none, none, none] [] M
  refine AW.go pk_X3_takeRequests 0 3 rfl rfl ?_
  change AW ev false 2 t_X3_takeRequests Q 4 [some (vR 22), none, none, none] [vR 19] M
  refine AW.callV (d' := 0) [] [] vm_X6_size rfl hX3_115 (okP_d pk_X3_takeRequests 2 4 (.invokevirtual 115) 3 rfl) (by decide) rfl (Nat.le_of_ble_eq_true rfl) ?_
  refine c_X6_size   (fun w1 zw1 => ?_)
  change AW ev false 2 t_X3_takeRequests Q 7 [some (vR 22), none, none, none] [vI w1] M
  refine AW.go pk_X3_takeRequests 3 2 rfl rfl ?_
  change AW ev false 2 t_X3_takeRequests Q 9 [some (vR 22), none, none, none] [vI 20, vI w1] M
  refine AW.mmin (bm 461 _ (by decide +kernel) (by decide +kernel)) (okP_d pk_X3_takeRequests 4 9 (.invokestatic 116) 3 rfl) (by decide) (Nat.le_of_ble_eq_true rfl) ⟨by omega, by omega⟩ ⟨by omega, by omega⟩ (fun w2 zw2 => ?_)
  change AW ev false 2 t_X3_takeRequests Q 12 [some (vR 22), none, none, none] [vI w2] M
  refine AW.go pk_X3_takeRequests 5 3 rfl rfl ?_
  refine And.intro (show 1 < mL t_X3_takeRequests from (by decide)) ?_
  refine And.intro (show 2 < mL t_X3_takeRequests from (by decide)) ?_
  change AW ev false 2 t_X3_takeRequests Q 15 [some (vR 22), some (vI w2), some (vI 0), none] [] M
  rw [show w2 = M 19 2 from by omega]
  exact AW.mem (rq_0 M) (lz_take zp0 zQ (M 19 2).toNat 0 (by omega) (by omega))
