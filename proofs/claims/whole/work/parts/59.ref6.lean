theorem c_X8_mix {ev : Ev} {Q : Out → Mem → Prop} {M : Mem}  (v : Int) (h : Int) (zp0 : M 27 26 = h) (zQ0 : True → Q (.inl none) (upM M 27 26 (hsh h v))) : AM ev false 0 t_X8_mix [vR 27, vL v] M Q := by
  refine AM.of mt_X8_mix (Nat.le_of_ble_eq_true rfl) ?_
  change AW ev false 0 t_X8_mix Q 0 [some (vR 27), some (vL v), none] [] M
  refine AW.go pk_X8_mix 0 9 rfl rfl ?_
  refine And.intro rfl ?_
  exact QcV (Q := Q) (show (upM M 27 26 ((31 * (M 27 26)) + v)) = (upM M 27 26 (hsh h v)) from by rw [zp0]) (zQ0 (by trivial))
theorem lz_mp1 {ev : Ev} {Q : Out → Mem → Prop} {M : Mem}  (h0 : Int) (zp0 : TJ M) (zp1 : SJ M) (zp2 : KJ M) (zp3 : M 27 26 = h0) (k u v h : Int) (zu : 0 ≤ u ∧ u < M 27 2) (zv : 0 ≤ v ∧ v < M 27 2) (zuv : u ≠ v) : ∀ (n : Nat) (hr : Int) (s : Int), hr + n = 18 → (6 ≤ hr) → (∀ a2 i2 : Int, a2 = itT (fun hr s => if lnkF (M 28) (M 29) (M 30) (M 31) (cvR M) u v hr = 0 then s + 1 else s) n hr s → AW ev false 5 t_X8_mixPairs Q 75 [some (vR 27), some (vI k), some (vI u), some (vI v), some (vI a2), some (vI i2)] [] (upM M 27 26 h)) → AW ev false 5 t_X8_mixPairs Q 41 [some (vR 27), some (vI k), some (vI u), some (vI v), some (vI s), some (vI hr)] [] (upM M 27 26 h) := by
  intro n
  induction n with
  | zero =>
    intro hr s zn zv0 zv1
    refine AW.go pk_X8_mixPairs 26 9 rfl rfl ?_
    refine And.intro (show Inr hr ∧ Inr 17 from ⟨⟨by omega, by omega⟩, ⟨by omega, by omega⟩⟩) (And.intro (fun zh1 => ?_) (fun zh1 => ?_))
    · replace zh1 : (17 : Int) < hr := zh1
      change AW ev false 5 t_X8_mixPairs Q 75 [some (vR 27), some (vI k), some (vI u), some (vI v), some (vI s), some (vI hr)] [] (upM M 27 26 h)
      exact zv1 s hr rfl
    · replace zh1 : ¬ ((17 : Int) < hr) := zh1
      exfalso; omega
  | succ n zih =>
    intro hr s zn zv0 zv1
    refine AW.go pk_X8_mixPairs 26 9 rfl rfl ?_
    refine And.intro (show Inr hr ∧ Inr 17 from ⟨⟨by omega, by omega⟩, ⟨by omega, by omega⟩⟩) (And.intro (fun zh1 => ?_) (fun zh1 => ?_))
    · replace zh1 : (17 : Int) < hr := zh1
      exfalso; omega
    · replace zh1 : ¬ ((17 : Int) < hr) := zh1
      change AW ev false 5 t_X8_mixPairs Q 55 [some (vR 27), some (vI k), some (vI u), some (vI v), some (vI s), some (vI hr)] [vI hr, vI v, vI u, vR 27, vI s] (upM M 27 26 h)
      refine AW.callV (d' := 4) [vI u, vI v, vI hr] [vI s] vm_X8_linkOf rfl hX8_164 (okP_d pk_X8_mixPairs 34 55 (.invokevirtual 164) 3 rfl) (by decide) rfl (Nat.le_of_ble_eq_true rfl) ?_
      refine c_X8_linkOf u v hr zp0 zp1 zp2 (show 0 ≤ u ∧ u < (M 27 2) from by omega) (show 0 ≤ v ∧ v < (M 27 2) from by omega) (by omega) (by omega) (fun w1 zw1 => ?_)
      replace zw1 : w1 = lnkF (M 28) (M 29) (M 30) (M 31) (cvR M) u v hr ∧ (0 ≤ w1 ∧ w1 ≤ 5) := zw1
      change AW ev false 5 t_X8_mixPairs Q 58 [some (vR 27), some (vI k), some (vI u), some (vI v), some (vI s), some (vI hr)] [vI w1, vI s] (upM M 27 26 h)
      refine AW.go pk_X8_mixPairs 35 3 rfl rfl ?_
      refine And.intro (show Inr w1 from ⟨by omega, by omega⟩) (And.intro (fun zh2 => ?_) (fun zh2 => ?_))
      · replace zh2 : w1 ≠ (0 : Int) := zh2
        change AW ev false 5 t_X8_mixPairs Q 65 [some (vR 27), some (vI k), some (vI u), some (vI v), some (vI s), some (vI hr)] [vI s] (upM M 27 26 h)
        refine AW.go pk_X8_mixPairs 38 5 rfl rfl ?_
        refine And.intro (show 4 < mL t_X8_mixPairs from (by decide)) ?_
        refine And.intro (show 5 < mL t_X8_mixPairs from (by decide)) ?_
        change AW ev false 5 t_X8_mixPairs Q 41 [some (vR 27), some (vI k), some (vI u), some (vI v), some (vI (s + 0)), some (vI (hr + 1))] [] (upM M 27 26 h)
        exact zih (hr + 1) (s + 0) (by omega) (by omega) (fun a2 i2 zr => zv1 a2 i2 (itT_step (show (if lnkF (M 28) (M 29) (M 30) (M 31) (cvR M) u v hr = 0 then s + 1 else s) = s + 0 from by rw [if_neg (by omega), Int.add_zero]) zr))
      · replace zh2 : ¬ (w1 ≠ (0 : Int)) := zh2
        change AW ev false 5 t_X8_mixPairs Q 66 [some (vR 27), some (vI k), some (vI u), some (vI v), some (vI s), some (vI hr)] [vI 1, vI s] (upM M 27 26 h)
        refine AW.go pk_X8_mixPairs 39 4 rfl rfl ?_
        refine And.intro (show 4 < mL t_X8_mixPairs from (by decide)) ?_
        refine And.intro (show 5 < mL t_X8_mixPairs from (by decide)) ?_
        change AW ev false 5 t_X8_mixPairs Q 41 [some (vR 27), some (vI k), some (vI u), some (vI v), some (vI (s + 1)), some (vI (hr + 1))] [] (upM M 27 26 h)
        exact zih (hr + 1) (s + 1) (by omega) (by omega) (fun a2 i2 zr => zv1 a2 i2 (itT_step (show (if lnkF (M 28) (M 29) (M 30) (M 31) (cvR M) u v hr = 0 then s + 1 else s) = s + 1 from by rw [if_pos (by omega)]) zr))
theorem lz_mp2 {ev : Ev} {Q : Out → Mem → Prop} {M : Mem}  (h0 : Int) (zp0 : TJ M) (zp1 : SJ M) (zp2 : KJ M) (zp3 : M 27 26 = h0)  : ∀ (n : Nat) (k : Int) (h : Int), k + n = M 27 2 * M 27 2 → (0 ≤ k) → (Q (.inl none) (upM M 27 26 (itT (prR M) n k h))) → AW ev false 5 t_X8_mixPairs Q 2 [some (vR 27), some (vI k), none, none, none, none] [] (upM M 27 26 h) := by
  intro n
  induction n with
  | zero =>
    intro k h zn zv0 zv1
    have zs := zp1.1
    refine AW.go pk_X8_mixPairs 2 24 rfl rfl ?_
    refine And.intro (show Inr k ∧ Inr ((M 27 2) * (M 27 2)) from ⟨(by have zsi : 0 ≤ M 27 2 * M 27 2 ∧ M 27 2 * M 27 2 ≤ 64 := sq_b zs; exact ⟨by omega, by omega⟩), (by have zsi : 0 ≤ M 27 2 * M 27 2 ∧ M 27 2 * M 27 2 ≤ 64 := sq_b zs; exact ⟨by omega, by omega⟩)⟩) (And.intro (fun zh1 => ?_) (fun zh1 => ?_))
    · replace zh1 : (M 27 2) * (M 27 2) ≤ k := zh1
      change AW ev false 5 t_X8_mixPairs Q 99 [some (vR 27), some (vI k), none, none, none, none] [] (upM M 27 26 h)
      refine AW.go pk_X8_mixPairs 56 1 rfl rfl ?_
      refine And.intro rfl ?_
      exact zv1
    · replace zh1 : ¬ ((M 27 2) * (M 27 2) ≤ k) := zh1
      exfalso; omega
  | succ n zih =>
    intro k h zn zv0 zv1
    have zs := zp1.1
    refine AW.go pk_X8_mixPairs 2 24 rfl rfl ?_
    refine And.intro (show Inr k ∧ Inr ((M 27 2) * (M 27 2)) from ⟨(by have zsi : 0 ≤ M 27 2 * M 27 2 ∧ M 27 2 * M 27 2 ≤ 64 := sq_b zs; exact ⟨by omega, by omega⟩), (by have zsi : 0 ≤ M 27 2 * M 27 2 ∧ M 27 2 * M 27 2 ≤ 64 := sq_b zs; exact ⟨by omega, by omega⟩)⟩) (And.intro (fun zh1 => ?_) (fun zh1 => ?_))
    · replace zh1 : (M 27 2) * (M 27 2) ≤ k := zh1
      exfalso; omega
    · replace zh1 : ¬ ((M 27 2) * (M 27 2) ≤ k) := zh1
      have zsi : 0 ≤ M 27 2 * M 27 2 ∧ M 27 2 * M 27 2 ≤ 64 := sq_b zs
      obtain ⟨zq1, zq2, zq3⟩ := sq_f (k := k) (ns := M 27 2) (by omega) (by omega) (by omega)
      refine And.intro (show ((0 ≤ k ∧ k < 2147483648) ∧ 0 < M 27 2 ∧ M 27 2 < 2147483648) from (by omega)) ?_
      refine And.intro (show 2 < mL t_X8_mixPairs from (by decide)) ?_
      refine And.intro (show ((0 ≤ k ∧ k < 2147483648) ∧ 0 < M 27 2 ∧ M 27 2 < 2147483648) from (by omega)) ?_
      refine And.intro (show 3 < mL t_X8_mixPairs from (by decide)) ?_
      refine And.intro (show Inr (k / (M 27 2)) ∧ Inr (k % (M 27 2)) from ⟨⟨by omega, by omega⟩, ⟨by omega, by omega⟩⟩) (And.intro (fun zh2 => ?_) (fun zh2 => ?_))
      · replace zh2 : k / (M 27 2) = k % (M 27 2) := zh2
        change AW ev false 5 t_X8_mixPairs Q 93 [some (vR 27), some (vI k), some (vI (k / (M 27 2))), some (vI (k % (M 27 2))), none, none] [] (upM M 27 26 h)
        refine AW.go pk_X8_mixPairs 54 2 rfl rfl ?_
        refine And.intro (show 1 < mL t_X8_mixPairs from (by decide)) ?_
        change AW ev false 5 t_X8_mixPairs Q 2 [some (vR 27), some (vI (k + 1)), some (vI (k / (M 27 2))), some (vI (k % (M 27 2))), none, none] [] (upM M 27 26 h)
        refine AW.sub [some (vR 27), some (vI (k + 1)), none, none, none, none] (by simp [lsub]) ?_
        exact zih (k + 1) h (by omega) (by omega) (by rw [itT_s, show prR M k h = h from by unfold prR prS; rw [if_pos (by omega)]] at zv1; exact zv1)
      · replace zh2 : ¬ (k / (M 27 2) = k % (M 27 2)) := zh2
        refine And.intro (show 4 < mL t_X8_mixPairs from (by decide)) ?_
        refine And.intro (show 5 < mL t_X8_mixPairs from (by decide)) ?_
        change AW ev false 5 t_X8_mixPairs Q 41 [some (vR 27), some (vI k), some (vI (k / (M 27 2))), some (vI (k % (M 27 2))), some (vI 0), some (vI 6)] [] (upM M 27 26 h)
        refine lz_mp1 h0 zp0 zp1 zp2 zp3 k (k / M 27 2) (k % M 27 2) h zq2 zq3 (by omega) 12 6 0 (by omega) (by omega) (fun a2 i2 zr => ?_)
        have zab : a2 = hrR M (k / M 27 2) (k % M 27 2) := zr
        have zac := hrR_bd M (k / M 27 2) (k % M 27 2)
        rw [← zab] at zac
        change AW ev false 5 t_X8_mixPairs Q 75 [some (vR 27), some (vI k), some (vI (k / (M 27 2))), some (vI (k % (M 27 2))), some (vI a2), some (vI i2)] [] (upM M 27 26 h)
        refine AW.go pk_X8_mixPairs 43 5 rfl rfl ?_
        change AW ev false 5 t_X8_mixPairs Q 79 [some (vR 27), some (vI k), some (vI (k / (M 27 2))), some (vI (k % (M 27 2))), some (vI a2), some (vI i2)] [vI (k % (M 27 2)), vI (k / (M 27 2)), vR 27, vR 27] (upM M 27 26 h)
        refine AW.callV (d' := 3) [vI (k / (M 27 2)), vI (k % (M 27 2))] [vR 27] vm_X8_between rfl hX8_149 (okP_d pk_X8_mixPairs 47 79 (.invokevirtual 149) 3 rfl) (by decide) rfl (Nat.le_of_ble_eq_true rfl) ?_
        refine c_X8_between (k / (M 27 2)) (k % (M 27 2)) zp0 zp1 (show 0 ≤ (k / ((M 27 2))) ∧ (k / ((M 27 2))) < (M 27 2) from by omega) (show 0 ≤ (k % ((M 27 2))) ∧ (k % ((M 27 2))) < (M 27 2) from by omega) (by omega) (fun w2 zw2 => ?_)
        replace zw2 : w2 = betF (M 28) (M 29) (M 30) (k / M 27 2) (k % M 27 2) ∧ (-1 ≤ w2 ∧ w2 < 144) := zw2
        change AW ev false 5 t_X8_mixPairs Q 82 [some (vR 27), some (vI k), some (vI (k / (M 27 2))), some (vI (k % (M 27 2))), some (vI a2), some (vI i2)] [vI w2, vR 27] (upM M 27 26 h)
        refine AW.go pk_X8_mixPairs 48 2 rfl rfl ?_
        refine And.intro (show Inr w2 from ⟨by omega, by omega⟩) ?_
        change AW ev false 5 t_X8_mixPairs Q 83 [some (vR 27), some (vI k), some (vI (k / (M 27 2))), some (vI (k % (M 27 2))), some (vI a2), some (vI i2)] [vL w2, vR 27] (upM M 27 26 h)
        refine AW.callV (d' := 0) [vL w2] [] vm_X8_mix rfl hX8_243 (okP_d pk_X8_mixPairs 49 83 (.invokevirtual 243) 3 rfl) (by decide) rfl (Nat.le_of_ble_eq_true rfl) ?_
        refine c_X8_mix w2 h rfl (fun zc4 => ?_)
        · replace zc4 : True := zc4
          change AW ev false 5 t_X8_mixPairs Q 86 [some (vR 27), some (vI k), some (vI (k / (M 27 2))), some (vI (k % (M 27 2))), some (vI a2), some (vI i2)] [] (upM (upM M 27 26 h) 27 26 (hsh h w2))
          refine AW.go pk_X8_mixPairs 50 4 rfl rfl ?_
          refine And.intro (show Inr a2 from ⟨by omega, by omega⟩) ?_
          change AW ev false 5 t_X8_mixPairs Q 90 [some (vR 27), some (vI k), some (vI (k / (M 27 2))), some (vI (k % (M 27 2))), some (vI a2), some (vI i2)] [vL a2, vR 27] (upM (upM M 27 26 h) 27 26 (hsh h w2))
          refine AW.callV (d' := 0) [vL a2] [] vm_X8_mix rfl hX8_243 (okP_d pk_X8_mixPairs 53 90 (.invokevirtual 243) 3 rfl) (by decide) rfl (Nat.le_of_ble_eq_true rfl) ?_
          refine c_X8_mix a2 (hsh h w2) rfl (fun zc6 => ?_)
          · replace zc6 : True := zc6
            change AW ev false 5 t_X8_mixPairs Q 93 [some (vR 27), some (vI k), some (vI (k / (M 27 2))), some (vI (k % (M 27 2))), some (vI a2), some (vI i2)] [] (upM (upM (upM M 27 26 h) 27 26 (hsh h w2)) 27 26 (hsh (hsh h w2) a2))
            refine AW.go pk_X8_mixPairs 54 2 rfl rfl ?_
            refine And.intro (show 1 < mL t_X8_mixPairs from (by decide)) ?_
            change AW ev false 5 t_X8_mixPairs Q 2 [some (vR 27), some (vI (k + 1)), some (vI (k / (M 27 2))), some (vI (k % (M 27 2))), some (vI a2), some (vI i2)] [] (upM (upM (upM M 27 26 h) 27 26 (hsh h w2)) 27 26 (hsh (hsh h w2) a2))
            refine AW.sub [some (vR 27), some (vI (k + 1)), none, none, none, none] (by simp [lsub]) ?_
            exact AW.mem (show (upM (upM (upM M 27 26 h) 27 26 (hsh h w2)) 27 26 (hsh (hsh h w2) a2)) = (upM M 27 26 (hsh (hsh h w2) a2)) from by first | rfl | (rw [up_up, up_up])) (zih (k + 1) (hsh (hsh h w2) a2) (by omega) (by omega) (by rw [itT_s, show prR M k h = hsh (hsh h w2) a2 from by unfold prR prS; rw [if_neg (by omega), ← zab, ← zw2.1]] at zv1; exact zv1))
theorem c_X8_mixPairs {ev : Ev} {Q : Out → Mem → Prop} {M : Mem}  (h0 : Int) (zp0 : TJ M) (zp1 : SJ M) (zp2 : KJ M) (zp3 : M 27 26 = h0) (zQ0 : True → Q (.inl none) (upM M 27 26 (itT (prR M) (M 27 2 * M 27 2).toNat 0 h0))) : AM ev false 5 t_X8_mixPairs [vR 27] M Q := by
  have zs := zp1.1
  refine AM.of mt_X8_mixPairs (Nat.le_of_ble_eq_true rfl) ?_
  change AW ev false 5 t_X8_mixPairs Q 0 [some (vR 27), none, none, none, none, none] [] M
  refine AW.go pk_X8_mixPairs 0 2 rfl rfl ?_
  refine And.intro (show 1 < mL t_X8_mixPairs from (by decide)) ?_
  change AW ev false 5 t_X8_mixPairs Q 2 [some (vR 27), some (vI 0), none, none, none, none] [] M
  have zsi : 0 ≤ M 27 2 * M 27 2 ∧ M 27 2 * M 27 2 ≤ 64 := sq_b zs
  exact AW.mem (show M = upM M 27 26 h0 from by rw [← zp3]; funext zk zj; simp only [upM]; grind) (lz_mp2 h0 zp0 zp1 zp2 zp3 (M 27 2 * M 27 2).toNat 0 h0 (by omega) (by omega) (zQ0 trivial))
theorem lz_d1 {ev : Ev} {Q : Out → Mem → Prop} {M : Mem}   (zp0 : TJ M) (zp1 : SJ M) (zp2 : KJ M) (zp3 : GJ M) (zp4 : 0 ≤ M 27 14 ∧ M 27 14 ≤ 40) (zp5 : ∀ i, 0 ≤ i → i < M 27 14 → 33 ≤ M 38 i ∧ M 38 i ≤ 126)  : ∀ (n : Nat) (i : Int) (h : Int) (x : Int → Int), i + n = 9 → (0 ≤ i) → (∀ (h2 : Int) (x2 : Int → Int) (i2 : Int), h2 = itT (fun w h => hsh h (nmR M w)) n i h → AW ev false 6 t_X8_digest Q 36 [some (vR 27), some (vI i2), none] [] (upM (tkM (upM M 27 0 0) x2) 27 26 h2)) → AW ev false 6 t_X8_digest Q 14 [some (vR 27), some (vI i), none] [] (upM (tkM (upM M 27 0 0) x) 27 26 h) := by
  intro n
  induction n with
  | zero =>
    intro i h x zn zv0 zv1
    refine AW.go pk_X8_digest 8 7 rfl rfl ?_
    refine And.intro (show Inr i ∧ Inr 9 from ⟨⟨by omega, by omega⟩, ⟨by omega, by omega⟩⟩) (And.intro (fun zh1 => ?_) (fun zh1 => ?_))
    · replace zh1 : (9 : Int) ≤ i := zh1
      change AW ev false 6 t_X8_digest Q 36 [some (vR 27), some (vI i), none] [] (upM (tkM (upM M 27 0 0) x) 27 26 h)
      exact zv1 h x i rfl
    · replace zh1 : ¬ ((9 : Int) ≤ i) := zh1
      exfalso; omega
  | succ n zih =>
    intro i h x zn zv0 zv1
    refine AW.go pk_X8_digest 8 7 rfl rfl ?_
    refine And.intro (show Inr i ∧ Inr 9 from ⟨⟨by omega, by omega⟩, ⟨by omega, by omega⟩⟩) (And.intro (fun zh1 => ?_) (fun zh1 => ?_))
    · replace zh1 : (9 : Int) ≤ i := zh1
      exfalso; omega
    · replace zh1 : ¬ ((9 : Int) ≤ i) := zh1
      change AW ev false 6 t_X8_digest Q 23 [some (vR 27), some (vI i), none] [vI i, vR 27, vR 27] (upM (tkM (upM M 27 0 0) x) 27 26 h)
      refine AW.callV (d' := 5) [vI i] [vR 27] vm_X8_counted rfl hX8_219 (okP_d pk_X8_digest 14 23 (.invokevirtual 219) 3 rfl) (by decide) rfl (Nat.le_of_ble_eq_true rfl) ?_
      refine c_X8_counted i zp0 zp1 zp2 zp3 (by omega) (fun y zc3 => ?_)
      · replace zc3 : (-2147483648 ≤ nmR M i ∧ nmR M i < 2147483648) := zc3
        have zcb : -2147483648 ≤ nmR M i ∧ nmR M i < 2147483648 := zc3
        change AW ev false 6 t_X8_digest Q 26 [some (vR 27), some (vI i), none] [vI (nmR M i), vR 27] (tkM (upM (tkM (upM M 27 0 0) x) 27 26 h) y)
        refine AW.go pk_X8_digest 15 2 rfl rfl ?_
        refine And.intro (show Inr (nmR M i) from ⟨by omega, by omega⟩) ?_
        change AW ev false 6 t_X8_digest Q 27 [some (vR 27), some (vI i), none] [vL (nmR M i), vR 27] (tkM (upM (tkM (upM M 27 0 0) x) 27 26 h) y)
        refine AW.callV (d' := 0) [vL (nmR M i)] [] vm_X8_mix rfl hX8_243 (okP_d pk_X8_digest 16 27 (.invokevirtual 243) 3 rfl) (by decide) rfl (Nat.le_of_ble_eq_true rfl) ?_
        refine c_X8_mix (nmR M i) h rfl (fun zc5 => ?_)
        · replace zc5 : True := zc5
          change AW ev false 6 t_X8_digest Q 30 [some (vR 27), some (vI i), none] [] (upM (tkM (upM (tkM (upM M 27 0 0) x) 27 26 h) y) 27 26 (hsh h (nmR M i)))
          refine AW.go pk_X8_digest 17 2 rfl rfl ?_
          refine And.intro (show 1 < mL t_X8_digest from (by decide)) ?_
          change AW ev false 6 t_X8_digest Q 14 [some (vR 27), some (vI (i + 1)), none] [] (upM (tkM (upM (tkM (upM M 27 0 0) x) 27 26 h) y) 27 26 (hsh h (nmR M i)))
          exact AW.mem (show (upM (tkM (upM (tkM (upM M 27 0 0) x) 27 26 h) y) 27 26 (hsh h (nmR M i))) = (upM (tkM (upM M 27 0 0) y) 27 26 (hsh h (nmR M i))) from by rw [dg_tk, up_up]) (zih (i + 1) (hsh h (nmR M i)) y (by omega) (by omega) (fun h2 x2 i2 zr => zv1 h2 x2 i2 (itT_step (rfl) zr)))
theorem lz_d2 {ev : Ev} {Q : Out → Mem → Prop} {M : Mem}   (zp0 : TJ M) (zp1 : SJ M) (zp2 : KJ M) (zp3 : GJ M) (zp4 : 0 ≤ M 27 14 ∧ M 27 14 ≤ 40) (zp5 : ∀ i, 0 ≤ i → i < M 27 14 → 33 ≤ M 38 i ∧ M 38 i ≤ 126)  : ∀ (n : Nat) (i : Int) (h : Int) (x : Int → Int), i + n = 144 → (0 ≤ i) → (∀ (h2 : Int) (x2 : Int → Int) (i2 : Int), h2 = itT (fun c h => hsh h (M 28 c)) n i h → AW ev false 6 t_X8_digest Q 62 [some (vR 27), some (vI i2), none] [] (upM (tkM (upM M 27 0 0) x2) 27 26 h2)) → AW ev false 6 t_X8_digest Q 38 [some (vR 27), some (vI i), none] [] (upM (tkM (upM M 27 0 0) x) 27 26 h) := by
  intro n
  induction n with
  | zero =>
    intro i h x zn zv0 zv1
    refine AW.go pk_X8_digest 21 10 rfl rfl ?_
    refine And.intro (show Inr i ∧ Inr 144 from ⟨⟨by omega, by omega⟩, ⟨by omega, by omega⟩⟩) (And.intro (fun zh1 => ?_) (fun zh1 => ?_))
    · replace zh1 : (144 : Int) ≤ i := zh1
      change AW ev false 6 t_X8_digest Q 62 [some (vR 27), some (vI i), none] [] (upM (tkM (upM M 27 0 0) x) 27 26 h)
      exact zv1 h x i rfl
    · replace zh1 : ¬ ((144 : Int) ≤ i) := zh1
      exfalso; omega
  | succ n zih =>
    intro i h x zn zv0 zv1
    refine AW.go pk_X8_digest 21 10 rfl rfl ?_
    refine And.intro (show Inr i ∧ Inr 144 from ⟨⟨by omega, by omega⟩, ⟨by omega, by omega⟩⟩) (And.intro (fun zh1 => ?_) (fun zh1 => ?_))
    · replace zh1 : (144 : Int) ≤ i := zh1
      exfalso; omega
    · replace zh1 : ¬ ((144 : Int) ≤ i) := zh1
      refine And.intro (show (0 ≤ i ∧ i < 144) from (by omega)) ?_
      have zf2 := zp0 i (by omega) (by omega)
      refine And.intro (show Inr (M 28 i) from ⟨by omega, by omega⟩) ?_
      change AW ev false 6 t_X8_digest Q 53 [some (vR 27), some (vI i), none] [vL (M 28 i), vR 27] (upM (tkM (upM M 27 0 0) x) 27 26 h)
      refine AW.callV (d' := 0) [vL (M 28 i)] [] vm_X8_mix rfl hX8_243 (okP_d pk_X8_digest 30 53 (.invokevirtual 243) 3 rfl) (by decide) rfl (Nat.le_of_ble_eq_true rfl) ?_
      refine c_X8_mix (M 28 i) h rfl (fun zc4 => ?_)
      · replace zc4 : True := zc4
        change AW ev false 6 t_X8_digest Q 56 [some (vR 27), some (vI i), none] [] (upM (upM (tkM (upM M 27 0 0) x) 27 26 h) 27 26 (hsh h (M 28 i)))
        refine AW.go pk_X8_digest 31 2 rfl rfl ?_
        refine And.intro (show 1 < mL t_X8_digest from (by decide)) ?_
        change AW ev false 6 t_X8_digest Q 38 [some (vR 27), some (vI (i + 1)), none] [] (upM (upM (tkM (upM M 27 0 0) x) 27 26 h) 27 26 (hsh h (M 28 i)))
        exact AW.mem (show (upM (upM (tkM (upM M 27 0 0) x) 27 26 h) 27 26 (hsh h (M 28 i))) = (upM (tkM (upM M 27 0 0) x) 27 26 (hsh h (M 28 i))) from by rw [up_up]) (zih (i + 1) (hsh h (M 28 i)) x (by omega) (by omega) (fun h2 x2 i2 zr => zv1 h2 x2 i2 (itT_step (rfl) zr)))
theorem lz_d3 {ev : Ev} {Q : Out → Mem → Prop} {M : Mem}   (zp0 : TJ M) (zp1 : SJ M) (zp2 : KJ M) (zp3 : GJ M) (zp4 : 0 ≤ M 27 14 ∧ M 27 14 ≤ 40) (zp5 : ∀ i, 0 ≤ i → i < M 27 14 → 33 ≤ M 38 i ∧ M 38 i ≤ 126)  : ∀ (n : Nat) (i : Int) (h : Int) (x : Int → Int), i + n = 6 * M 27 2 → (0 ≤ i) → (∀ (h2 : Int) (x2 : Int → Int) (i2 : Int), h2 = itT (fun k h => hsh h (spR M (k / 6) (k % 6))) n i h → AW ev false 6 t_X8_digest Q 98 [some (vR 27), some (vI i2), none] [] (upM (tkM (upM M 27 0 0) x2) 27 26 h2)) → AW ev false 6 t_X8_digest Q 64 [some (vR 27), some (vI i), none] [] (upM (tkM (upM M 27 0 0) x) 27 26 h) := by
  intro n
  induction n with
  | zero =>
    intro i h x zn zv0 zv1
    have zs := zp1.1
    refine AW.go pk_X8_digest 35 15 rfl rfl ?_
    refine And.intro (show Inr i ∧ Inr (6 * (M 27 2)) from ⟨⟨by omega, by omega⟩, ⟨by omega, by omega⟩⟩) (And.intro (fun zh1 => ?_) (fun zh1 => ?_))
    · replace zh1 : 6 * (M 27 2) ≤ i := zh1
      change AW ev false 6 t_X8_digest Q 98 [some (vR 27), some (vI i), none] [] (upM (tkM (upM M 27 0 0) x) 27 26 h)
      exact zv1 h x i rfl
    · replace zh1 : ¬ (6 * (M 27 2) ≤ i) := zh1
      exfalso; omega
  | succ n zih =>
    intro i h x zn zv0 zv1
    have zs := zp1.1
    refine AW.go pk_X8_digest 35 15 rfl rfl ?_
    refine And.intro (show Inr i ∧ Inr (6 * (M 27 2)) from ⟨⟨by omega, by omega⟩, ⟨by omega, by omega⟩⟩) (And.intro (fun zh1 => ?_) (fun zh1 => ?_))
    · replace zh1 : 6 * (M 27 2) ≤ i := zh1
      exfalso; omega
    · replace zh1 : ¬ (6 * (M 27 2) ≤ i) := zh1
      refine And.intro (show ((0 ≤ i ∧ i < 2147483648) ∧ 0 < (6 : Int) ∧ (6 : Int) < 2147483648) from (by omega)) ?_
      refine And.intro (show ((0 ≤ i ∧ i < 2147483648) ∧ 0 < (6 : Int) ∧ (6 : Int) < 2147483648) from (by omega)) ?_
      change AW ev false 6 t_X8_digest Q 85 [some (vR 27), some (vI i), none] [vI (i % 6), vI (i / 6), vR 27, vR 27] (upM (tkM (upM M 27 0 0) x) 27 26 h)
      refine AW.callV (d' := 5) [vI (i / 6), vI (i % 6)] [vR 27] vm_X8_told rfl hX8_225 (okP_d pk_X8_digest 49 85 (.invokevirtual 225) 3 rfl) (by decide) rfl (Nat.le_of_ble_eq_true rfl) ?_
      refine c_X8_told (i / 6) (i % 6) zp0 zp1 zp2 zp3 (show 0 ≤ (i / 6) ∧ (i / 6) < (M 27 2) from by omega) (by omega) (fun y zc3 => ?_)
      · replace zc3 : (-2147483648 ≤ spR M (i / 6) (i % 6) ∧ spR M (i / 6) (i % 6) < 2147483648) := zc3
        have zcb : -2147483648 ≤ spR M (i / 6) (i % 6) ∧ spR M (i / 6) (i % 6) < 2147483648 := zc3
        change AW ev false 6 t_X8_digest Q 88 [some (vR 27), some (vI i), none] [vI (spR M (i / 6) (i % 6)), vR 27] (tkM (upM (tkM (upM M 27 0 0) x) 27 26 h) y)
        refine AW.go pk_X8_digest 50 2 rfl rfl ?_
        refine And.intro (show Inr (spR M (i / 6) (i % 6)) from ⟨by omega, by omega⟩) ?_
        change AW ev false 6 t_X8_digest Q 89 [some (vR 27), some (vI i), none] [vL (spR M (i / 6) (i % 6)), vR 27] (tkM (upM (tkM (upM M 27 0 0) x) 27 26 h) y)
        refine AW.callV (d' := 0) [vL (spR M (i / 6) (i % 6))] [] vm_X8_mix rfl hX8_243 (okP_d pk_X8_digest 51 89 (.invokevirtual 243) 3 rfl) (by decide) rfl (Nat.le_of_ble_eq_true rfl) ?_
        refine c_X8_mix (spR M (i / 6) (i % 6)) h rfl (fun zc5 => ?_)
        · replace zc5 : True := zc5
          change AW ev false 6 t_X8_digest Q 92 [some (vR 27), some (vI i), none] [] (upM (tkM (upM (tkM (upM M 27 0 0) x) 27 26 h) y) 27 26 (hsh h (spR M (i / 6) (i % 6))))
          refine AW.go pk_X8_digest 52 2 rfl rfl ?_
          refine And.intro (show 1 < mL t_X8_digest from (by decide)) ?_
          change AW ev false 6 t_X8_digest Q 64 [some (vR 27), some (vI (i + 1)), none] [] (upM (tkM (upM (tkM (upM M 27 0 0) x) 27 26 h) y) 27 26 (hsh h (spR M (i / 6) (i % 6))))
          exact AW.mem (show (upM (tkM (upM (tkM (upM M 27 0 0) x) 27 26 h) y) 27 26 (hsh h (spR M (i / 6) (i % 6)))) = (upM (tkM (upM M 27 0 0) y) 27 26 (hsh h (spR M (i / 6) (i % 6)))) from by rw [dg_tk, up_up]) (zih (i + 1) (hsh h (spR M (i / 6) (i % 6))) y (by omega) (by omega) (fun h2 x2 i2 zr => zv1 h2 x2 i2 (itT_step (rfl) zr)))
theorem lz_d4 {ev : Ev} {Q : Out → Mem → Prop} {M : Mem}   (zp0 : TJ M) (zp1 : SJ M) (zp2 : KJ M) (zp3 : GJ M) (zp4 : 0 ≤ M 27 14 ∧ M 27 14 ≤ 40) (zp5 : ∀ i, 0 ≤ i → i < M 27 14 → 33 ≤ M 38 i ∧ M 38 i ≤ 126) (m : Int) (zm : 0 ≤ m ∧ m < M 27 11) : ∀ (n : Nat) (w : Int) (h : Int) (x : Int → Int), w + n = 6 → (0 ≤ w) → (∀ (h2 : Int) (x2 : Int → Int) (i2 : Int), h2 = itT (fun w h => hsh h (M 36 (6 * m + w))) n w h → AW ev false 6 t_X8_digest Q 142 [some (vR 27), some (vI m), some (vI i2)] [] (upM (tkM (upM M 27 0 0) x2) 27 26 h2)) → AW ev false 6 t_X8_digest Q 114 [some (vR 27), some (vI m), some (vI w)] [] (upM (tkM (upM M 27 0 0) x) 27 26 h) := by
  intro n
  induction n with
  | zero =>
    intro w h x zn zv0 zv1
    have zg := zp3.1
    have zma := zp3.2.1 m (by omega) (by omega)
    refine AW.go pk_X8_digest 64 14 rfl rfl ?_
    refine And.intro (show Inr w ∧ Inr 6 from ⟨⟨by omega, by omega⟩, ⟨by omega, by omega⟩⟩) (And.intro (fun zh1 => ?_) (fun zh1 => ?_))
    · replace zh1 : (6 : Int) ≤ w := zh1
      change AW ev false 6 t_X8_digest Q 142 [some (vR 27), some (vI m), some (vI w)] [] (upM (tkM (upM M 27 0 0) x) 27 26 h)
      exact zv1 h x w rfl
    · replace zh1 : ¬ ((6 : Int) ≤ w) := zh1
      exfalso; omega
  | succ n zih =>
    intro w h x zn zv0 zv1
    have zg := zp3.1
    have zma := zp3.2.1 m (by omega) (by omega)
    refine AW.go pk_X8_digest 64 14 rfl rfl ?_
    refine And.intro (show Inr w ∧ Inr 6 from ⟨⟨by omega, by omega⟩, ⟨by omega, by omega⟩⟩) (And.intro (fun zh1 => ?_) (fun zh1 => ?_))
    · replace zh1 : (6 : Int) ≤ w := zh1
      exfalso; omega
    · replace zh1 : ¬ ((6 : Int) ≤ w) := zh1
      refine And.intro (show (0 ≤ (6 * m) + w ∧ (6 * m) + w < 120) from (by omega)) ?_
      refine And.intro (show Inr (M 36 ((6 * m) + w)) from (by exact msg8_bd zp3 zm (by omega) rfl)) ?_
      change AW ev false 6 t_X8_digest Q 133 [some (vR 27), some (vI m), some (vI w)] [vL (M 36 ((6 * m) + w)), vR 27] (upM (tkM (upM M 27 0 0) x) 27 26 h)
      refine AW.callV (d' := 0) [vL (M 36 ((6 * m) + w))] [] vm_X8_mix rfl hX8_243 (okP_d pk_X8_digest 77 133 (.invokevirtual 243) 3 rfl) (by decide) rfl (Nat.le_of_ble_eq_true rfl) ?_
      refine c_X8_mix (M 36 (6 * m + w)) h rfl (fun zc3 => ?_)
      · replace zc3 : True := zc3
        change AW ev false 6 t_X8_digest Q 136 [some (vR 27), some (vI m), some (vI w)] [] (upM (upM (tkM (upM M 27 0 0) x) 27 26 h) 27 26 (hsh h (M 36 (6 * m + w))))
        refine AW.go pk_X8_digest 78 2 rfl rfl ?_
        refine And.intro (show 2 < mL t_X8_digest from (by decide)) ?_
        change AW ev false 6 t_X8_digest Q 114 [some (vR 27), some (vI m), some (vI (w + 1))] [] (upM (upM (tkM (upM M 27 0 0) x) 27 26 h) 27 26 (hsh h (M 36 (6 * m + w))))
        exact AW.mem (show (upM (upM (tkM (upM M 27 0 0) x) 27 26 h) 27 26 (hsh h (M 36 (6 * m + w)))) = (upM (tkM (upM M 27 0 0) x) 27 26 (hsh h (M 36 (6 * m + w)))) from by rw [up_up]) (zih (w + 1) (hsh h (M 36 (6 * m + w))) x (by omega) (by omega) (fun h2 x2 i2 zr => zv1 h2 x2 i2 (itT_step (rfl) zr)))
theorem lz_d5 {ev : Ev} {Q : Out → Mem → Prop} {M : Mem}   (zp0 : TJ M) (zp1 : SJ M) (zp2 : KJ M) (zp3 : GJ M) (zp4 : 0 ≤ M 27 14 ∧ M 27 14 ≤ 40) (zp5 : ∀ i, 0 ≤ i → i < M 27 14 → 33 ≤ M 38 i ∧ M 38 i ≤ 126) (m : Int) (zm : 0 ≤ m ∧ m < M 27 11) : ∀ (n : Nat) (w : Int) (h : Int) (x : Int → Int), w + n = 3 * M 36 (6 * m + 5) → (0 ≤ w) → (∀ (h2 : Int) (x2 : Int → Int) (i2 : Int), h2 = itT (fun j h => hsh h (M 37 (21 * m + j))) n w h → AW ev false 6 t_X8_digest Q 183 [some (vR 27), some (vI m), some (vI i2)] [] (upM (tkM (upM M 27 0 0) x2) 27 26 h2)) → AW ev false 6 t_X8_digest Q 144 [some (vR 27), some (vI m), some (vI w)] [] (upM (tkM (upM M 27 0 0) x) 27 26 h) := by
  intro n
  induction n with
  | zero =>
    intro w h x zn zv0 zv1
    have zg := zp3.1
    have zma := zp3.2.1 m (by omega) (by omega)
    refine AW.go pk_X8_digest 82 23 rfl rfl ?_
    refine And.intro (show (0 ≤ (6 * m) + 5 ∧ (6 * m) + 5 < 120) from (by omega)) ?_
    refine And.intro (show Inr w ∧ Inr (3 * (M 36 ((6 * m) + 5))) from ⟨⟨by omega, by omega⟩, ⟨by omega, by omega⟩⟩) (And.intro (fun zh1 => ?_) (fun zh1 => ?_))
    · replace zh1 : 3 * (M 36 ((6 * m) + 5)) ≤ w := zh1
      change AW ev false 6 t_X8_digest Q 183 [some (vR 27), some (vI m), some (vI w)] [] (upM (tkM (upM M 27 0 0) x) 27 26 h)
      exact zv1 h x w rfl
    · replace zh1 : ¬ (3 * (M 36 ((6 * m) + 5)) ≤ w) := zh1
      exfalso; omega
  | succ n zih =>
    intro w h x zn zv0 zv1
    have zg := zp3.1
    have zma := zp3.2.1 m (by omega) (by omega)
    refine AW.go pk_X8_digest 82 23 rfl rfl ?_
    refine And.intro (show (0 ≤ (6 * m) + 5 ∧ (6 * m) + 5 < 120) from (by omega)) ?_
    refine And.intro (show Inr w ∧ Inr (3 * (M 36 ((6 * m) + 5))) from ⟨⟨by omega, by omega⟩, ⟨by omega, by omega⟩⟩) (And.intro (fun zh1 => ?_) (fun zh1 => ?_))
    · replace zh1 : 3 * (M 36 ((6 * m) + 5)) ≤ w := zh1
      exfalso; omega
    · replace zh1 : ¬ (3 * (M 36 ((6 * m) + 5)) ≤ w) := zh1
      refine And.intro (show (0 ≤ (21 * m) + w ∧ (21 * m) + w < 420) from (by omega)) ?_
      refine And.intro (show Inr (M 37 ((21 * m) + w)) from (by exact hop8_bd zp3 zm (by omega) rfl)) ?_
      change AW ev false 6 t_X8_digest Q 174 [some (vR 27), some (vI m), some (vI w)] [vL (M 37 ((21 * m) + w)), vR 27] (upM (tkM (upM M 27 0 0) x) 27 26 h)
      refine AW.callV (d' := 0) [vL (M 37 ((21 * m) + w))] [] vm_X8_mix rfl hX8_243 (okP_d pk_X8_digest 104 174 (.invokevirtual 243) 3 rfl) (by decide) rfl (Nat.le_of_ble_eq_true rfl) ?_
      refine c_X8_mix (M 37 (21 * m + w)) h rfl (fun zc3 => ?_)
      · replace zc3 : True := zc3
        change AW ev false 6 t_X8_digest Q 177 [some (vR 27), some (vI m), some (vI w)] [] (upM (upM (tkM (upM M 27 0 0) x) 27 26 h) 27 26 (hsh h (M 37 (21 * m + w))))
        refine AW.go pk_X8_digest 105 2 rfl rfl ?_
        refine And.intro (show 2 < mL t_X8_digest from (by decide)) ?_
        change AW ev false 6 t_X8_digest Q 144 [some (vR 27), some (vI m), some (vI (w + 1))] [] (upM (upM (tkM (upM M 27 0 0) x) 27 26 h) 27 26 (hsh h (M 37 (21 * m + w))))
        exact AW.mem (show (upM (upM (tkM (upM M 27 0 0) x) 27 26 h) 27 26 (hsh h (M 37 (21 * m + w)))) = (upM (tkM (upM M 27 0 0) x) 27 26 (hsh h (M 37 (21 * m + w)))) from by rw [up_up]) (zih (w + 1) (hsh h (M 37 (21 * m + w))) x (by omega) (by omega) (fun h2 x2 i2 zr => zv1 h2 x2 i2 (itT_step (rfl) zr)))
theorem lz_d6 {ev : Ev} {Q : Out → Mem → Prop} {M : Mem}   (zp0 : TJ M) (zp1 : SJ M) (zp2 : KJ M) (zp3 : GJ M) (zp4 : 0 ≤ M 27 14 ∧ M 27 14 ≤ 40) (zp5 : ∀ i, 0 ≤ i → i < M 27 14 → 33 ≤ M 38 i ∧ M 38 i ≤ 126)  : ∀ (n : Nat) (m : Int) (h : Int) (x : Int → Int), m + n = M 27 11 → (0 ≤ m) → (∀ (h2 : Int) (x2 : Int → Int) (i2 : Int), h2 = itT (fun m h => itT (fun j h => hsh h (M 37 (21 * m + j))) (3 * M 36 (6 * m + 5)).toNat 0 (itT (fun w h => hsh h (M 36 (6 * m + w))) 6 0 h)) n m h → AW ev false 6 t_X8_digest Q 189 [some (vR 27), some (vI i2), none] [] (upM (tkM (upM M 27 0 0) x2) 27 26 h2)) → AW ev false 6 t_X8_digest Q 104 [some (vR 27), some (vI m), none] [] (upM (tkM (upM M 27 0 0) x) 27 26 h) := by
  intro n
  induction n with
  | zero =>
    intro m h x zn zv0 zv1
    have zg := zp3.1
    refine AW.go pk_X8_digest 58 6 rfl rfl ?_
    refine And.intro (show Inr m ∧ Inr (M 27 11) from ⟨⟨by omega, by omega⟩, ⟨by omega, by omega⟩⟩) (And.intro (fun zh1 => ?_) (fun zh1 => ?_))
    · replace zh1 : M 27 11 ≤ m := zh1
      change AW ev false 6 t_X8_digest Q 189 [some (vR 27), some (vI m), none] [] (upM (tkM (upM M 27 0 0) x) 27 26 h)
      exact zv1 h x m rfl
    · replace zh1 : ¬ (M 27 11 ≤ m) := zh1
      exfalso; omega
  | succ n zih =>
    intro m h x zn zv0 zv1
    have zg := zp3.1
    refine AW.go pk_X8_digest 58 6 rfl rfl ?_
    refine And.intro (show Inr m ∧ Inr (M 27 11) from ⟨⟨by omega, by omega⟩, ⟨by omega, by omega⟩⟩) (And.intro (fun zh1 => ?_) (fun zh1 => ?_))
    · replace zh1 : M 27 11 ≤ m := zh1
      exfalso; omega
    · replace zh1 : ¬ (M 27 11 ≤ m) := zh1
      refine And.intro (show 2 < mL t_X8_digest from (by decide)) ?_
      change AW ev false 6 t_X8_digest Q 114 [some (vR 27), some (vI m), some (vI 0)] [] (upM (tkM (upM M 27 0 0) x) 27 26 h)
      refine lz_d4 zp0 zp1 zp2 zp3 zp4 zp5 m (by omega) 6 0 h x (by omega) (by omega) (fun h3 x3 i3 zr3 => ?_)
      change AW ev false 6 t_X8_digest Q 142 [some (vR 27), some (vI m), some (vI i3)] [] (upM (tkM (upM M 27 0 0) x3) 27 26 h3)
      refine AW.go pk_X8_digest 80 2 rfl rfl ?_
      refine And.intro (show 2 < mL t_X8_digest from (by decide)) ?_
      change AW ev false 6 t_X8_digest Q 144 [some (vR 27), some (vI m), some (vI 0)] [] (upM (tkM (upM M 27 0 0) x3) 27 26 h3)
      have zma := zp3.2.1 m (by omega) (by omega)
      refine lz_d5 zp0 zp1 zp2 zp3 zp4 zp5 m (by omega) (3 * M 36 (6 * m + 5)).toNat 0 h3 x3 (by omega) (by omega) (fun h4 x4 i4 zr4 => ?_)
      refine AW.go pk_X8_digest 107 2 rfl rfl ?_
      refine And.intro (show 1 < mL t_X8_digest from (by decide)) ?_
      change AW ev false 6 t_X8_digest Q 104 [some (vR 27), some (vI (m + 1)), some (vI i4)] [] (upM (tkM (upM M 27 0 0) x4) 27 26 h4)
      refine AW.sub [some (vR 27), some (vI (m + 1)), none] (by simp [lsub]) ?_
      exact zih (m + 1) h4 x4 (by omega) (by omega) (fun h2 x2 i2 zr => zv1 h2 x2 i2 (itT_step (by rw [← zr3]; exact zr4.symm) zr))
theorem lz_d7 {ev : Ev} {Q : Out → Mem → Prop} {M : Mem}   (zp0 : TJ M) (zp1 : SJ M) (zp2 : KJ M) (zp3 : GJ M) (zp4 : 0 ≤ M 27 14 ∧ M 27 14 ≤ 40) (zp5 : ∀ i, 0 ≤ i → i < M 27 14 → 33 ≤ M 38 i ∧ M 38 i ≤ 126)  : ∀ (n : Nat) (i : Int) (h : Int) (x : Int → Int), i + n = M 27 14 → (0 ≤ i) → (∀ (h2 : Int) (x2 : Int → Int) (i2 : Int), h2 = itT (fun i h => hsh h (M 38 i)) n i h → AW ev false 6 t_X8_digest Q 225 [some (vR 27), some (vI i2), none] [] (upM (tkM (upM M 27 0 0) x2) 27 26 h2)) → AW ev false 6 t_X8_digest Q 200 [some (vR 27), some (vI i), none] [] (upM (tkM (upM M 27 0 0) x) 27 26 h) := by
  intro n
  induction n with
  | zero =>
    intro i h x zn zv0 zv1
    refine AW.go pk_X8_digest 116 11 rfl rfl ?_
    refine And.intro (show Inr i ∧ Inr (M 27 14) from ⟨⟨by omega, by omega⟩, ⟨by omega, by omega⟩⟩) (And.intro (fun zh1 => ?_) (fun zh1 => ?_))
    · replace zh1 : M 27 14 ≤ i := zh1
      change AW ev false 6 t_X8_digest Q 225 [some (vR 27), some (vI i), none] [] (upM (tkM (upM M 27 0 0) x) 27 26 h)
      exact zv1 h x i rfl
    · replace zh1 : ¬ (M 27 14 ≤ i) := zh1
      exfalso; omega
  | succ n zih =>
    intro i h x zn zv0 zv1
    refine AW.go pk_X8_digest 116 11 rfl rfl ?_
    refine And.intro (show Inr i ∧ Inr (M 27 14) from ⟨⟨by omega, by omega⟩, ⟨by omega, by omega⟩⟩) (And.intro (fun zh1 => ?_) (fun zh1 => ?_))
    · replace zh1 : M 27 14 ≤ i := zh1
      exfalso; omega
    · replace zh1 : ¬ (M 27 14 ≤ i) := zh1
      refine And.intro (show (0 ≤ i ∧ i < 40) from (by omega)) ?_
      have zf2 := zp5 i (by omega) (by omega)
      refine And.intro (show Inr (M 38 i) from ⟨by omega, by omega⟩) ?_
      change AW ev false 6 t_X8_digest Q 216 [some (vR 27), some (vI i), none] [vL (M 38 i), vR 27] (upM (tkM (upM M 27 0 0) x) 27 26 h)
      refine AW.callV (d' := 0) [vL (M 38 i)] [] vm_X8_mix rfl hX8_243 (okP_d pk_X8_digest 126 216 (.invokevirtual 243) 3 rfl) (by decide) rfl (Nat.le_of_ble_eq_true rfl) ?_
      refine c_X8_mix (M 38 i) h rfl (fun zc4 => ?_)
      · replace zc4 : True := zc4
        change AW ev false 6 t_X8_digest Q 219 [some (vR 27), some (vI i), none] [] (upM (upM (tkM (upM M 27 0 0) x) 27 26 h) 27 26 (hsh h (M 38 i)))
        refine AW.go pk_X8_digest 127 2 rfl rfl ?_
        refine And.intro (show 1 < mL t_X8_digest from (by decide)) ?_
        change AW ev false 6 t_X8_digest Q 200 [some (vR 27), some (vI (i + 1)), none] [] (upM (upM (tkM (upM M 27 0 0) x) 27 26 h) 27 26 (hsh h (M 38 i)))
        exact AW.mem (show (upM (upM (tkM (upM M 27 0 0) x) 27 26 h) 27 26 (hsh h (M 38 i))) = (upM (tkM (upM M 27 0 0) x) 27 26 (hsh h (M 38 i))) from by rw [up_up]) (zih (i + 1) (hsh h (M 38 i)) x (by omega) (by omega) (fun h2 x2 i2 zr => zv1 h2 x2 i2 (itT_step (rfl) zr)))
theorem c_X8_digest {ev : Ev} {Q : Out → Mem → Prop} {M : Mem}   (zp0 : TJ M) (zp1 : SJ M) (zp2 : KJ M) (zp3 : GJ M) (zp4 : 0 ≤ M 27 14 ∧ M 27 14 ≤ 40) (zp5 : ∀ i, 0 ≤ i → i < M 27 14 → 33 ≤ M 38 i ∧ M 38 i ≤ 126) (zQ0 : ∀ (x : Int → Int), True → Q (.inl (some (vL (dgR M)))) (upM (tkM (upM M 27 0 0) x) 27 26 (dgR M))) : AM ev false 6 t_X8_digest [vR 27] M Q := by
  have zs := zp1.1
  have zg := zp3.1
  refine AM.of mt_X8_digest (Nat.le_of_ble_eq_true rfl) ?_
  change AW ev false 6 t_X8_digest Q 0 [some (vR 27), none, none] [] M
  refine AW.go pk_X8_digest 0 8 rfl rfl ?_
  refine And.intro (show 1 < mL t_X8_digest from (by decide)) ?_
  change AW ev false 6 t_X8_digest Q 14 [some (vR 27), some (vI 0), none] [] (upM (upM M 27 0 0) 27 26 1951)
  refine AW.mem (show (upM (upM M 27 0 0) 27 26 1951) = (upM (tkM (upM M 27 0 0) (M 41)) 27 26 1951) from congrArg (fun zx => upM zx 27 26 1951) (tk_self (upM M 27 0 0))) ?_
  refine lz_d1 zp0 zp1 zp2 zp3 zp4 zp5 9 0 1951 (M 41) (by omega) (by omega) (fun h1 x1 i1 zr1 => ?_)
  change AW ev false 6 t_X8_digest Q 36 [some (vR 27), some (vI i1), none] [] (upM (tkM (upM M 27 0 0) x1) 27 26 h1)
  refine AW.go pk_X8_digest 19 2 rfl rfl ?_
  refine And.intro (show 1 < mL t_X8_digest from (by decide)) ?_
  change AW ev false 6 t_X8_digest Q 38 [some (vR 27), some (vI 0), none] [] (upM (tkM (upM M 27 0 0) x1) 27 26 h1)
  refine lz_d2 zp0 zp1 zp2 zp3 zp4 zp5 144 0 h1 x1 (by omega) (by omega) (fun h2 x2 i2 zr2 => ?_)
  change AW ev false 6 t_X8_digest Q 62 [some (vR 27), some (vI i2), none] [] (upM (tkM (upM M 27 0 0) x2) 27 26 h2)
  refine AW.go pk_X8_digest 33 2 rfl rfl ?_
  refine And.intro (show 1 < mL t_X8_digest from (by decide)) ?_
  change AW ev false 6 t_X8_digest Q 64 [some (vR 27), some (vI 0), none] [] (upM (tkM (upM M 27 0 0) x2) 27 26 h2)
  refine lz_d3 zp0 zp1 zp2 zp3 zp4 zp5 (6 * M 27 2).toNat 0 h2 x2 (by omega) (by omega) (fun h3 x3 i3 zr3 => ?_)
  change AW ev false 6 t_X8_digest Q 98 [some (vR 27), some (vI i3), none] [] (upM (tkM (upM M 27 0 0) x3) 27 26 h3)
  refine AW.go pk_X8_digest 54 2 rfl rfl ?_
  change AW ev false 6 t_X8_digest Q 99 [some (vR 27), some (vI i3), none] [vR 27] (upM (tkM (upM M 27 0 0) x3) 27 26 h3)
  refine AW.callV (d' := 5) [] [] vm_X8_mixPairs rfl hX8_249 (okP_d pk_X8_digest 55 99 (.invokevirtual 249) 3 rfl) (by decide) rfl (Nat.le_of_ble_eq_true rfl) ?_
  refine c_X8_mixPairs h3 zp0 zp1 zp2 rfl (fun zc2 => ?_)
  · replace zc2 : True := zc2
    change AW ev false 6 t_X8_digest Q 102 [some (vR 27), some (vI i3), none] [] (upM (upM (tkM (upM M 27 0 0) x3) 27 26 h3) 27 26 (itT (prR M) (M 27 2 * M 27 2).toNat 0 h3))
    refine AW.go pk_X8_digest 56 2 rfl rfl ?_
    refine And.intro (show 1 < mL t_X8_digest from (by decide)) ?_
    change AW ev false 6 t_X8_digest Q 104 [some (vR 27), some (vI 0), none] [] (upM (upM (tkM (upM M 27 0 0) x3) 27 26 h3) 27 26 (itT (prR M) (M 27 2 * M 27 2).toNat 0 h3))
    refine AW.mem (show (upM (upM (tkM (upM M 27 0 0) x3) 27 26 h3) 27 26 (itT (prR M) (M 27 2 * M 27 2).toNat 0 h3)) = (upM (tkM (upM M 27 0 0) x3) 27 26 (itT (prR M) (M 27 2 * M 27 2).toNat 0 h3)) from by rw [up_up]) ?_
    refine lz_d6 zp0 zp1 zp2 zp3 zp4 zp5 (M 27 11).toNat 0 (itT (prR M) (M 27 2 * M 27 2).toNat 0 h3) x3 (by omega) (by omega) (fun h4 x4 i4 zr4 => ?_)
    change AW ev false 6 t_X8_digest Q 189 [some (vR 27), some (vI i4), none] [] (upM (tkM (upM M 27 0 0) x4) 27 26 h4)
    refine AW.go pk_X8_digest 109 5 rfl rfl ?_
    refine And.intro (show Inr (M 27 14) from ⟨by omega, by omega⟩) ?_
    change AW ev false 6 t_X8_digest Q 195 [some (vR 27), some (vI i4), none] [vL (M 27 14), vR 27] (upM (tkM (upM M 27 0 0) x4) 27 26 h4)
    refine AW.callV (d' := 0) [vL (M 27 14)] [] vm_X8_mix rfl hX8_243 (okP_d pk_X8_digest 113 195 (.invokevirtual 243) 3 rfl) (by decide) rfl (Nat.le_of_ble_eq_true rfl) ?_
    refine c_X8_mix (M 27 14) h4 rfl (fun zc4 => ?_)
    · replace zc4 : True := zc4
      change AW ev false 6 t_X8_digest Q 198 [some (vR 27), some (vI i4), none] [] (upM (upM (tkM (upM M 27 0 0) x4) 27 26 h4) 27 26 (hsh h4 (M 27 14)))
      refine AW.go pk_X8_digest 114 2 rfl rfl ?_
      refine And.intro (show 1 < mL t_X8_digest from (by decide)) ?_
      change AW ev false 6 t_X8_digest Q 200 [some (vR 27), some (vI 0), none] [] (upM (upM (tkM (upM M 27 0 0) x4) 27 26 h4) 27 26 (hsh h4 (M 27 14)))
      refine AW.mem (show (upM (upM (tkM (upM M 27 0 0) x4) 27 26 h4) 27 26 (hsh h4 (M 27 14))) = (upM (tkM (upM M 27 0 0) x4) 27 26 (hsh h4 (M 27 14))) from by rw [up_up]) ?_
      refine lz_d7 zp0 zp1 zp2 zp3 zp4 zp5 (M 27 14).toNat 0 (hsh h4 (M 27 14)) x4 (by omega) (by omega) (fun h5 x5 i5 zr5 => ?_)
      change AW ev false 6 t_X8_digest Q 225 [some (vR 27), some (vI i5), none] [] (upM (tkM (upM M 27 0 0) x5) 27 26 h5)
      refine AW.go pk_X8_digest 129 3 rfl rfl ?_
      refine And.intro rfl ?_
      have zdg : h5 = dgR M := by rw [zr5, zr4, zr3, zr2, zr1]; rfl
      rw [zdg]
      exact zQ0 x5 trivial
