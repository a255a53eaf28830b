theorem lz_post {ev : Ev} {Q : Out → Mem → Prop} {M : Mem}  (a : Int) (b : Int) (l : Int) (t : Int) (m : Int) (zp0 : SInv M) (zp1 : 0 ≤ a ∧ a < M 7 3) (zp2 : 0 ≤ b ∧ b < M 7 3) (zp3 : a ≠ b) (zp4 : 1 ≤ l ∧ l ≤ 6) (zp5 : 0 ≤ t ∧ t ≤ 71) (zp6 : ∀ i, 0 ≤ i → i < 576 → -1 ≤ M 21 i ∧ M 21 i < 20) (zp7 : ∀ u, 0 ≤ u → u < M 7 3 → ∀ s, 0 ≤ s → s ≤ 72 → EE (M 23) (M 21) l u u s = -1) (zp8 : M 19 2 = m) (zp9 : 0 ≤ m ∧ m < 20) (v p : Int) (zpp : 0 ≤ p) : ∀ (n : Nat) (q : Int) (X : Mem), q + n = 8 → (p < q) → (SInv X) → (X 19 2 = m + 1) → (X 20 (27 * m + 5) = q - p - 1) → (X 20 (27 * m + 2) = l) → (∀ j, p < j → j ≤ 7 → (0 ≤ X 25 j ∧ X 25 j < X 7 3) ∧ (0 ≤ X 25 (j - 1) ∧ X 25 (j - 1) < X 7 3) ∧ l ≤ X 24 (X 25 j) ∧ X 24 (X 25 j) ≤ 72) → (Q (.inl (some (vI v))) (hpT m l n q (q - p - 1) X)) → AW ev false 5 t_X3_post Q 51 [some (vR 22), some (vI a), some (vI b), some (vI l), some (vI t), some (vI v), some (vI p), some (vI q), none] [] X := by
  intro n
  induction n with
  | zero =>
    intro q X zn zv0 zv1 zv2 zv3 zv4 zv5 zv6
    have zs := zv1.1
    have zj := fun (w : q ≤ 7) => zv5 q (by omega) w
    refine AW.go pk_X3_post 31 20 rfl rfl ?_
    refine And.intro (show Inr q ∧ Inr 8 from ⟨⟨by omega, by omega⟩, ⟨by omega, by omega⟩⟩) (And.intro (fun zh1 => ?_) (fun zh1 => ?_))
    · replace zh1 : (8 : Int) ≤ q := zh1
      change AW ev false 5 t_X3_post Q 99 [some (vR 22), some (vI a), some (vI b), some (vI l), some (vI t), some (vI v), some (vI p), some (vI q), none] [] X
      refine AW.go pk_X3_post 56 2 rfl rfl ?_
      refine And.intro rfl ?_
      exact zv6
    · replace zh1 : ¬ ((8 : Int) ≤ q) := zh1
      exfalso; omega
  | succ n zih =>
    intro q X zn zv0 zv1 zv2 zv3 zv4 zv5 zv6
    have zs := zv1.1
    have zj := fun (w : q ≤ 7) => zv5 q (by omega) w
    replace zj := zj (by omega)
    refine AW.go pk_X3_post 31 20 rfl rfl ?_
    refine And.intro (show Inr q ∧ Inr 8 from ⟨⟨by omega, by omega⟩, ⟨by omega, by omega⟩⟩) (And.intro (fun zh1 => ?_) (fun zh1 => ?_))
    · replace zh1 : (8 : Int) ≤ q := zh1
      exfalso; omega
    · replace zh1 : ¬ ((8 : Int) ≤ q) := zh1
      refine And.intro (show (0 ≤ q ∧ q < 8) from (by omega)) ?_
      refine And.intro (show 8 < mL t_X3_post from (by decide)) ?_
      refine And.intro (show (0 ≤ q - 1 ∧ q - 1 < 8) from (by omega)) ?_
      change AW ev false 5 t_X3_post Q 85 [some (vR 22), some (vI a), some (vI b), some (vI l), some (vI t), some (vI v), some (vI p), some (vI q), some (vI (X 25 q))] [vI (X 25 q), vR 22, vI (X 25 q), vI (X 25 (q - 1)), vR 19] X
      refine AW.callV (d' := 1) [vI (X 25 q)] [vI (X 25 q), vI (X 25 (q - 1)), vR 19] vm_X3_arrivalAt rfl hX3_73 (okP_d pk_X3_post 50 85 (.invokevirtual 73) 3 rfl) (by decide) rfl (Nat.le_of_ble_eq_true rfl) ?_
      refine c_X3_arrivalAt (X 25 q) zv1 (show 0 ≤ (X 25 q) ∧ (X 25 q) < (X 7 3) from by omega) (fun w3 zw3 => ?_)
      replace zw3 : w3 = (X 24 (X 25 q)) := zw3
      change AW ev false 5 t_X3_post Q 88 [some (vR 22), some (vI a), some (vI b), some (vI l), some (vI t), some (vI v), some (vI p), some (vI q), some (vI (X 25 q))] [vI w3, vI (X 25 q), vI (X 25 (q - 1)), vR 19] X
      rw [zw3]
      change AW ev false 5 t_X3_post Q 88 [some (vR 22), some (vI a), some (vI b), some (vI l), some (vI t), some (vI v), some (vI p), some (vI q), some (vI (X 25 q))] [vI (X 24 (X 25 q)), vI (X 25 q), vI (X 25 (q - 1)), vR 19] X
      refine AW.go pk_X3_post 51 3 rfl rfl ?_
      change AW ev false 5 t_X3_post Q 90 [some (vR 22), some (vI a), some (vI b), some (vI l), some (vI t), some (vI v), some (vI p), some (vI q), some (vI (X 25 q))] [vI ((X 24 (X 25 q)) - l), vI (X 25 q), vI (X 25 (q - 1)), vR 19] X
      refine AW.callV (d' := 3) [vI (X 25 (q - 1)), vI (X 25 q), vI ((X 24 (X 25 q)) - l)] [] vm_X6_addHop rfl hX3_99 (okP_d pk_X3_post 53 90 (.invokevirtual 99) 3 rfl) (by decide) rfl (Nat.le_of_ble_eq_true rfl) ?_
      refine c_X6_addHop (X 25 (q - 1)) (X 25 q) (X 24 (X 25 q) - l) m (q - p - 1) l zv2 (by omega) zv3 (by omega) zv4 (by omega) (by omega) (by omega) (by omega) ?_
      change AW ev false 5 t_X3_post Q 93 [some (vR 22), some (vI a), some (vI b), some (vI l), some (vI t), some (vI v), some (vI p), some (vI q), some (vI (X 25 q))] [] (bkM (bkM (upM (upM (upM (upM X 20 (27 * m + 6 + 3 * (q - p - 1)) (X 25 (q - 1))) 20 (27 * m + 6 + 3 * (q - p - 1) + 1) (X 25 q)) 20 (27 * m + 6 + 3 * (q - p - 1) + 2) (X 24 (X 25 q) - l)) 20 (27 * m + 5) ((q - p - 1) + 1)) 21 (X 25 (q - 1)) (X 24 (X 25 q) - l) ((X 24 (X 25 q) - l) + l) m) 21 (X 25 q) (X 24 (X 25 q) - l) ((X 24 (X 25 q) - l) + l) m)
      refine AW.go pk_X3_post 54 2 rfl rfl ?_
      refine And.intro (show 7 < mL t_X3_post from (by decide)) ?_
      change AW ev false 5 t_X3_post Q 51 [some (vR 22), some (vI a), some (vI b), some (vI l), some (vI t), some (vI v), some (vI p), some (vI (q + 1)), some (vI (X 25 q))] [] (bkM (bkM (upM (upM (upM (upM X 20 (27 * m + 6 + 3 * (q - p - 1)) (X 25 (q - 1))) 20 (27 * m + 6 + 3 * (q - p - 1) + 1) (X 25 q)) 20 (27 * m + 6 + 3 * (q - p - 1) + 2) (X 24 (X 25 q) - l)) 20 (27 * m + 5) ((q - p - 1) + 1)) 21 (X 25 (q - 1)) (X 24 (X 25 q) - l) ((X 24 (X 25 q) - l) + l) m) 21 (X 25 q) (X 24 (X 25 q) - l) ((X 24 (X 25 q) - l) + l) m)
      refine AW.sub [some (vR 22), some (vI a), some (vI b), some (vI l), some (vI t), some (vI v), some (vI p), some (vI (q + 1)), none] (by simp [lsub]) ?_
      exact AW.mem (show (bkM (bkM (upM (upM (upM (upM X 20 (27 * m + 6 + 3 * (q - p - 1)) (X 25 (q - 1))) 20 (27 * m + 6 + 3 * (q - p - 1) + 1) (X 25 q)) 20 (27 * m + 6 + 3 * (q - p - 1) + 2) (X 24 (X 25 q) - l)) 20 (27 * m + 5) ((q - p - 1) + 1)) 21 (X 25 (q - 1)) (X 24 (X 25 q) - l) ((X 24 (X 25 q) - l) + l) m) 21 (X 25 q) (X 24 (X 25 q) - l) ((X 24 (X 25 q) - l) + l) m) = (hopE X m (q - p - 1) (X 25 (q - 1)) (X 25 q) (X 24 (X 25 q) - l) l) from by rfl) (zih (q + 1) (hopE X m (q - p - 1) (X 25 (q - 1)) (X 25 q) (X 24 (X 25 q) - l) l) (by omega) (by omega) zv1 zv2 (by rw [hop_f1]; omega) (by rw [hop_f2 _ _ _ _ _ _ (by omega)]; exact zv4) zv5 (by rw [show q + 1 - p - 1 = q - p - 1 + 1 from by omega]; exact zv6))
theorem c_X3_post {ev : Ev} {Q : Out → Mem → Prop} {M : Mem}  (a : Int) (b : Int) (l : Int) (t : Int) (m : Int) (zp0 : SInv M) (zp1 : 0 ≤ a ∧ a < M 7 3) (zp2 : 0 ≤ b ∧ b < M 7 3) (zp3 : a ≠ b) (zp4 : 1 ≤ l ∧ l ≤ 6) (zp5 : 0 ≤ t ∧ t ≤ 71) (zp6 : ∀ i, 0 ≤ i → i < 576 → -1 ≤ M 21 i ∧ M 21 i < 20) (zp7 : ∀ u, 0 ≤ u → u < M 7 3 → ∀ s, 0 ≤ s → s ≤ 72 → EE (M 23) (M 21) l u u s = -1) (zp8 : M 19 2 = m) (zp9 : 0 ≤ m ∧ m < 20) (zQ0 : ∀ (f : Int → Int), (ArrOK (fun u v s => EE (M 23) (M 21) l u v s) (M 7 3) a t f ∧ f b = -1) → Q (.inl (some (vI (-1)))) (arM (upM M 22 7 l) f)) (zQ1 : ∀ (f : Int → Int) (g : Int → Int) (p : Int), (ArrOK (fun u v s => EE (M 23) (M 21) l u v s) (M 7 3) a t f ∧ f b ≠ -1 ∧ RT (M 7 3) a b (fun u v s => EE (M 23) (M 21) l u v s) f g p) → Q (.inl (some (vI (f b)))) (hpT m l (7 - p).toNat (p + 1) 0 (entE (rtM (arM (upM M 22 7 l) f) g) m a b l t (f b)))) : AM ev false 5 t_X3_post [vR 22, vI a, vI b, vI l, vI t] M Q := by
  have zs := zp0.1
  refine AM.of mt_X3_post (Nat.le_of_ble_eq_true rfl) ?_
  change AW ev false 5 t_X3_post Q 0 [some (vR 22), some (vI a), some (vI b), some (vI l), some (vI t), none, none, none, none] [] M
  refine AW.go pk_X3_post 0 5 rfl rfl ?_
  change AW ev false 5 t_X3_post Q 5 [some (vR 22), some (vI a), some (vI b), some (vI l), some (vI t), none, none, none, none] [vI t, vI l, vI a, vR 22] M
  refine AW.callV (d' := 4) [vI a, vI l, vI t] [] vm_X3_findArrivals rfl hX3_88 (okP_d pk_X3_post 4 5 (.invokevirtual 88) 3 rfl) (by decide) rfl (Nat.le_of_ble_eq_true rfl) ?_
  refine c_X3_findArrivals a l t zp0 (by omega) (by omega) (by omega) zp6 zp7 (fun f zc2 => ?_)
  · replace zc2 : ArrOK (fun u v s => EE (M 23) (M 21) l u v s) (M 7 3) a t f := zc2
    have zfb := zc2.2.1 b (by omega) (by omega)
    have zac := zc2
    change AW ev false 5 t_X3_post Q 8 [some (vR 22), some (vI a), some (vI b), some (vI l), some (vI t), none, none, none, none] [] (arM (upM M 22 7 l) f)
    refine AW.go pk_X3_post 5 3 rfl rfl ?_
    change AW ev false 5 t_X3_post Q 10 [some (vR 22), some (vI a), some (vI b), some (vI l), some (vI t), none, none, none, none] [vI b, vR 22] (arM (upM M 22 7 l) f)
    refine AW.callV (d' := 1) [vI b] [] vm_X3_arrivalAt rfl hX3_73 (okP_d pk_X3_post 7 10 (.invokevirtual 73) 3 rfl) (by decide) rfl (Nat.le_of_ble_eq_true rfl) ?_
    refine c_X3_arrivalAt b zp0 (show 0 ≤ b ∧ b < (M 7 3) from by omega) (fun w1 zw1 => ?_)
    replace zw1 : w1 = (f b) := zw1
    change AW ev false 5 t_X3_post Q 13 [some (vR 22), some (vI a), some (vI b), some (vI l), some (vI t), none, none, none, none] [vI w1] (arM (upM M 22 7 l) f)
    refine AW.go pk_X3_post 8 6 rfl rfl ?_
    refine And.intro (show 5 < mL t_X3_post from (by decide)) ?_
    refine And.intro (show Inr w1 ∧ Inr (-1) from ⟨⟨by omega, by omega⟩, ⟨by omega, by omega⟩⟩) (And.intro (fun zh3 => ?_) (fun zh3 => ?_))
    · replace zh3 : w1 ≠ (-1 : Int) := zh3
      change AW ev false 5 t_X3_post Q 23 [some (vR 22), some (vI a), some (vI b), some (vI l), some (vI t), some (vI w1), none, none, none] [] (arM (upM M 22 7 l) f)
      refine AW.go pk_X3_post 14 4 rfl rfl ?_
      change AW ev false 5 t_X3_post Q 26 [some (vR 22), some (vI a), some (vI b), some (vI l), some (vI t), some (vI w1), none, none, none] [vI b, vI a, vR 22] (arM (upM M 22 7 l) f)
      refine AW.callV (d' := 4) [vI a, vI b] [] vm_X3_traceRoute rfl hX3_92 (okP_d pk_X3_post 17 26 (.invokevirtual 92) 3 rfl) (by decide) rfl (Nat.le_of_ble_eq_true rfl) ?_
      refine c_X3_traceRoute a b l t zp0 (show 0 ≤ a ∧ a < (M 7 3) from by omega) (show 0 ≤ b ∧ b < (M 7 3) from by omega) rfl (by omega) (by omega) zac zp6 (show f b ≠ -1 from by omega) (fun g p zc5 => ?_)
      · skip
        have zrt : RT (M 7 3) a b (fun u v s => EE (M 23) (M 21) l u v s) f g p := zc5
        change AW ev false 5 t_X3_post Q 29 [some (vR 22), some (vI a), some (vI b), some (vI l), some (vI t), some (vI w1), none, none, none] [vI p] (rtM (arM (upM M 22 7 l) f) g)
        refine AW.go pk_X3_post 18 9 rfl rfl ?_
        refine And.intro (show 6 < mL t_X3_post from (by decide)) ?_
        change AW ev false 5 t_X3_post Q 42 [some (vR 22), some (vI a), some (vI b), some (vI l), some (vI t), some (vI w1), some (vI p), none, none] [vI w1, vI t, vI l, vI b, vI a, vR 19] (rtM (arM (upM M 22 7 l) f) g)
        refine AW.callV (d' := 0) [vI a, vI b, vI l, vI t, vI w1] [] vm_X6_enter rfl hX3_95 (okP_d pk_X3_post 26 42 (.invokevirtual 95) 3 rfl) (by decide) rfl (Nat.le_of_ble_eq_true rfl) ?_
        refine c_X6_enter a b l t w1 m zp8 (by omega) ?_
        change AW ev false 5 t_X3_post Q 45 [some (vR 22), some (vI a), some (vI b), some (vI l), some (vI t), some (vI w1), some (vI p), none, none] [] (upM (upM (upM (upM (upM (upM (upM (rtM (arM (upM M 22 7 l) f) g) 20 (27 * m + 0) a) 20 (27 * m + 1) b) 20 (27 * m + 2) l) 20 (27 * m + 3) t) 20 (27 * m + 4) w1) 20 (27 * m + 5) 0) 19 2 (m + 1))
        refine AW.go pk_X3_post 27 4 rfl rfl ?_
        refine And.intro (show 7 < mL t_X3_post from (by decide)) ?_
        change AW ev false 5 t_X3_post Q 51 [some (vR 22), some (vI a), some (vI b), some (vI l), some (vI t), some (vI w1), some (vI p), some (vI (p + 1)), none] [] (upM (upM (upM (upM (upM (upM (upM (rtM (arM (upM M 22 7 l) f) g) 20 (27 * m + 0) a) 20 (27 * m + 1) b) 20 (27 * m + 2) l) 20 (27 * m + 3) t) 20 (27 * m + 4) w1) 20 (27 * m + 5) 0) 19 2 (m + 1))
        have zjj : ∀ j, p < j → j ≤ 7 → (0 ≤ g j ∧ g j < M 7 3) ∧ (0 ≤ g (j - 1) ∧ g (j - 1) < M 7 3) ∧ l ≤ f (g j) ∧ f (g j) ≤ 72 := fun j q0 q1 => by
          obtain ⟨⟨y1, y2, y3⟩, y4, y5, y6⟩ := zrt.2.2.2 j q0 q1
          have y7 := zac.2.1 (g (j - 1)) (by omega) (by omega)
          have y8 : EE (M 23) (M 21) l (g (j - 1)) (g j) (f (g (j - 1))) = f (g j) := y5.2
          have y9 := eeT_bd (okC (M 23) (M 21) (g (j - 1)) (g j)) (l := l) (by omega) (72 - f (g (j - 1))).toNat (f (g (j - 1))) 0 (by omega) (by omega)
          have y10 : f (g j) = -1 ∨ (f (g (j - 1)) + (l - 0) ≤ f (g j) ∧ f (g j) ≤ f (g (j - 1)) + ((72 - f (g (j - 1))).toNat : Int)) := by rw [← y8]; exact y9
          have y11 := y5.1
          omega
        have zpr := zrt.1
        rw [zw1]
        refine AW.mem (show (upM (upM (upM (upM (upM (upM (upM (rtM (arM (upM M 22 7 l) f) g) 20 (27 * m + 0) a) 20 (27 * m + 1) b) 20 (27 * m + 2) l) 20 (27 * m + 3) t) 20 (27 * m + 4) (f b)) 20 (27 * m + 5) 0) 19 2 (m + 1)) = (entE (rtM (arM (upM M 22 7 l) f) g) m a b l t (f b)) from rfl) ?_
        exact lz_post a b l t m zp0 zp1 zp2 zp3 zp4 zp5 zp6 zp7 zp8 zp9 (f b) p (by omega) (7 - p).toNat (p + 1) (entE (rtM (arM (upM M 22 7 l) f) g) m a b l t (f b)) (by omega) (by omega) zp0 rfl (by rw [ent_f1]; omega) (ent_f2 _ _ _ _ _ _ _) zjj (by rw [show p + 1 - p - 1 = (0 : Int) from by omega]; exact zQ1 f g p ⟨zac, by omega, zrt⟩)
    · replace zh3 : ¬ (w1 ≠ (-1 : Int)) := zh3
      refine And.intro rfl ?_
      exact zQ0 f ⟨zac, by omega⟩
