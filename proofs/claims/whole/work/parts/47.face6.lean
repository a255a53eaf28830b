theorem c_X7_hashWith {ev : Ev} {Q : Out → Mem → Prop} {M : Mem}  (h : Int) (v : Int) (zp0 : -2147483648 ≤ v ∧ v < 2147483648) (zQ : ∀ (r : Int), r = hsh h v → Q (.inl (some (vL r))) M) : AM ev false 0 t_X7_hashWith [vL h, vI v] M Q := by
  refine AM.of mt_X7_hashWith (Nat.le_of_ble_eq_true rfl) ?_
  change AW ev false 0 t_X7_hashWith Q 0 [some (vL h), none, some (vI v)] [] M
  refine AW.go pk_X7_hashWith 0 7 rfl rfl ?_
  refine And.intro (show Inr v from ⟨by omega, by omega⟩) ?_
  refine And.intro rfl ?_
  exact zQ _ rfl
theorem lz_hs1 {ev : Ev} {Q : Out → Mem → Prop} {M : Mem}  (h0 : Int) (zp0 : TInv M) (zp1 : SInv M) (zp2 : KInv M) (zp3 : GInv M) (s : Int) (za : 0 ≤ s ∧ s < M 7 3) : ∀ (n : Nat) (w : Int) (h : Int), w + n = 6 → (0 ≤ w) → (∀ a2 i2 : Int, a2 = itT (fun w h => hsh h (spC M s w)) n w h → AW ev false 6 t_X7_hashWithStations Q 46 [some (vR 0), some (vL h0), none, some (vL a2), none, some (vI s), some (vI i2)] [] M) → AW ev false 6 t_X7_hashWithStations Q 20 [some (vR 0), some (vL h0), none, some (vL h), none, some (vI s), some (vI w)] [] M := by
  intro n
  induction n with
  | zero =>
    intro w h zn zv0 zv1
    refine AW.go pk_X7_hashWithStations 11 8 rfl rfl ?_
    refine And.intro (show Inr w ∧ Inr 6 from ⟨⟨by omega, by omega⟩, ⟨by omega, by omega⟩⟩) (And.intro (fun zh1 => ?_) (fun zh1 => ?_))
    · replace zh1 : (6 : Int) ≤ w := zh1
      change AW ev false 6 t_X7_hashWithStations Q 46 [some (vR 0), some (vL h0), none, some (vL h), none, some (vI s), some (vI w)] [] M
      exact zv1 h w rfl
    · replace zh1 : ¬ ((6 : Int) ≤ w) := zh1
      exfalso; omega
  | succ n zih =>
    intro w h zn zv0 zv1
    refine AW.go pk_X7_hashWithStations 11 8 rfl rfl ?_
    refine And.intro (show Inr w ∧ Inr 6 from ⟨⟨by omega, by omega⟩, ⟨by omega, by omega⟩⟩) (And.intro (fun zh1 => ?_) (fun zh1 => ?_))
    · replace zh1 : (6 : Int) ≤ w := zh1
      exfalso; omega
    · replace zh1 : ¬ ((6 : Int) ≤ w) := zh1
      change AW ev false 6 t_X7_hashWithStations Q 33 [some (vR 0), some (vL h0), none, some (vL h), none, some (vI s), some (vI w)] [vI w, vI s, vR 0, vL h] M
      refine AW.callV (d' := 5) [vI s, vI w] [vL h] vm_X7_stationProperty rfl hX7_189 (okP_d pk_X7_hashWithStations 18 33 (.invokevirtual 189) 3 rfl) (by decide) rfl (Nat.le_of_ble_eq_true rfl) ?_
      refine c_X7_stationProperty s w zp0 zp1 zp2 zp3 (by omega) (by omega) (fun w1 zw1 => ?_)
      change AW ev false 6 t_X7_hashWithStations Q 36 [some (vR 0), some (vL h0), none, some (vL h), none, some (vI s), some (vI w)] [vI w1, vL h] M
      refine AW.callS (d' := 0) [vL h, vI w1] [] sm_X7_hashWith hX7_233 (okP_d pk_X7_hashWithStations 19 36 (.invokestatic 233) 3 rfl) (by decide) rfl (Nat.le_of_ble_eq_true rfl) ?_
      refine c_X7_hashWith h w1 (by omega) (fun w2 zw2 => ?_)
      change AW ev false 6 t_X7_hashWithStations Q 39 [some (vR 0), some (vL h0), none, some (vL h), none, some (vI s), some (vI w)] [vL w2] M
      refine AW.go pk_X7_hashWithStations 20 3 rfl rfl ?_
      refine And.intro (show 3 + 1 < mL t_X7_hashWithStations from (by decide)) ?_
      refine And.intro (show 6 < mL t_X7_hashWithStations from (by decide)) ?_
      change AW ev false 6 t_X7_hashWithStations Q 20 [some (vR 0), some (vL h0), none, some (vL w2), none, some (vI s), some (vI (w + 1))] [] M
      exact zih (w + 1) w2 (by omega) (by omega) (fun a2 i2 zr => zv1 a2 i2 (itT_step (show hsh h (spC M s w) = w2 from by rw [zw2, zw1.1]) zr))
theorem lz_hs2 {ev : Ev} {Q : Out → Mem → Prop} {M : Mem}  (h0 : Int) (zp0 : TInv M) (zp1 : SInv M) (zp2 : KInv M) (zp3 : GInv M)  : ∀ (n : Nat) (s : Int) (h : Int), s + n = M 7 3 → (0 ≤ s) → (∀ r : Int, r = itT (fun s h => itT (fun w h => hsh h (spC M s w)) 6 0 h) n s h → Q (.inl (some (vL r))) M) → AW ev false 6 t_X7_hashWithStations Q 5 [some (vR 0), some (vL h0), none, some (vL h), none, some (vI s), none] [] M := by
  intro n
  induction n with
  | zero =>
    intro s h zn zv0 zv1
    have zs := zp1.1
    refine AW.go pk_X7_hashWithStations 4 4 rfl rfl ?_
    change AW ev false 6 t_X7_hashWithStations Q 11 [some (vR 0), some (vL h0), none, some (vL h), none, some (vI s), none] [vR 7, vI s] M
    refine AW.callV (d' := 0) [] [vI s] vm_X4_size rfl hX7_62 (okP_d pk_X7_hashWithStations 7 11 (.invokevirtual 62) 3 rfl) (by decide) rfl (Nat.le_of_ble_eq_true rfl) ?_
    refine c_X4_size   (fun w0 zw0 => ?_)
    change AW ev false 6 t_X7_hashWithStations Q 14 [some (vR 0), some (vL h0), none, some (vL h), none, some (vI s), none] [vI w0, vI s] M
    refine AW.go pk_X7_hashWithStations 8 3 rfl rfl ?_
    refine And.intro (show Inr s ∧ Inr w0 from ⟨⟨by omega, by omega⟩, ⟨by omega, by omega⟩⟩) (And.intro (fun zh1 => ?_) (fun zh1 => ?_))
    · replace zh1 : w0 ≤ s := zh1
      change AW ev false 6 t_X7_hashWithStations Q 52 [some (vR 0), some (vL h0), none, some (vL h), none, some (vI s), none] [] M
      refine AW.go pk_X7_hashWithStations 25 2 rfl rfl ?_
      refine And.intro rfl ?_
      exact zv1 _ rfl
    · replace zh1 : ¬ (w0 ≤ s) := zh1
      exfalso; omega
  | succ n zih =>
    intro s h zn zv0 zv1
    have zs := zp1.1
    refine AW.go pk_X7_hashWithStations 4 4 rfl rfl ?_
    change AW ev false 6 t_X7_hashWithStations Q 11 [some (vR 0), some (vL h0), none, some (vL h), none, some (vI s), none] [vR 7, vI s] M
    refine AW.callV (d' := 0) [] [vI s] vm_X4_size rfl hX7_62 (okP_d pk_X7_hashWithStations 7 11 (.invokevirtual 62) 3 rfl) (by decide) rfl (Nat.le_of_ble_eq_true rfl) ?_
    refine c_X4_size   (fun w0 zw0 => ?_)
    change AW ev false 6 t_X7_hashWithStations Q 14 [some (vR 0), some (vL h0), none, some (vL h), none, some (vI s), none] [vI w0, vI s] M
    refine AW.go pk_X7_hashWithStations 8 3 rfl rfl ?_
    refine And.intro (show Inr s ∧ Inr w0 from ⟨⟨by omega, by omega⟩, ⟨by omega, by omega⟩⟩) (And.intro (fun zh1 => ?_) (fun zh1 => ?_))
    · replace zh1 : w0 ≤ s := zh1
      exfalso; omega
    · replace zh1 : ¬ (w0 ≤ s) := zh1
      refine And.intro (show 6 < mL t_X7_hashWithStations from (by decide)) ?_
      change AW ev false 6 t_X7_hashWithStations Q 20 [some (vR 0), some (vL h0), none, some (vL h), none, some (vI s), some (vI 0)] [] M
      refine lz_hs1 h0 zp0 zp1 zp2 zp3 s (by omega) 6 0 h (by omega) (by omega) (fun a2 i2 zr => ?_)
      refine AW.go pk_X7_hashWithStations 23 2 rfl rfl ?_
      refine And.intro (show 5 < mL t_X7_hashWithStations from (by decide)) ?_
      change AW ev false 6 t_X7_hashWithStations Q 5 [some (vR 0), some (vL h0), none, some (vL a2), none, some (vI (s + 1)), some (vI i2)] [] M
      refine AW.sub [some (vR 0), some (vL h0), none, some (vL a2), none, some (vI (s + 1)), none] (by simp [lsub]) ?_
      exact zih (s + 1) a2 (by omega) (by omega) (fun r zq => zv1 r (itT_step (show itT (fun w h => hsh h (spC M s w)) 6 0 h = a2 from zr.symm) zq))
theorem c_X7_hashWithStations {ev : Ev} {Q : Out → Mem → Prop} {M : Mem}  (h0 : Int) (zp0 : TInv M) (zp1 : SInv M) (zp2 : KInv M) (zp3 : GInv M) (zQ : ∀ (r : Int), r = itT (fun s h => itT (fun w h => hsh h (spC M s w)) 6 0 h) (M 7 3).toNat 0 h0 → Q (.inl (some (vL r))) M) : AM ev false 6 t_X7_hashWithStations [vR 0, vL h0] M Q := by
  have zs := zp1.1
  refine AM.of mt_X7_hashWithStations (Nat.le_of_ble_eq_true rfl) ?_
  change AW ev false 6 t_X7_hashWithStations Q 0 [some (vR 0), some (vL h0), none, none, none, none, none] [] M
  refine AW.go pk_X7_hashWithStations 0 4 rfl rfl ?_
  refine And.intro (show 3 + 1 < mL t_X7_hashWithStations from (by decide)) ?_
  refine And.intro (show 5 < mL t_X7_hashWithStations from (by decide)) ?_
  change AW ev false 6 t_X7_hashWithStations Q 5 [some (vR 0), some (vL h0), none, some (vL h0), none, some (vI 0), none] [] M
  exact lz_hs2 h0 zp0 zp1 zp2 zp3 (M 7 3).toNat 0 h0 (by omega) (by omega) zQ
theorem lz_hp1 {ev : Ev} {Q : Out → Mem → Prop} {M : Mem}  (h0 : Int) (zp0 : TInv M) (zp1 : SInv M) (zp2 : KInv M) (zp3 : GInv M) (a sun : Int) (za : 0 ≤ a ∧ a < M 7 3) (zsu : sun = sunT (M 2) (M 8) (M 9) (cvC M) a) : ∀ (n : Nat) (b : Int) (h : Int), b + n = M 7 3 → (0 ≤ b) → (∀ a2 i2 : Int, a2 = itT (fun b h => prS (betF (M 2) (M 8) (M 9)) (fun a b => bcI (hrC M a b)) a b h) n b h → AW ev false 6 t_X7_hashWithPairs Q 93 [some (vR 0), some (vL h0), none, some (vL a2), none, some (vI a), some (vI sun), some (vI i2)] [] M) → AW ev false 6 t_X7_hashWithPairs Q 31 [some (vR 0), some (vL h0), none, some (vL h), none, some (vI a), some (vI sun), some (vI b)] [] M := by
  intro n
  induction n with
  | zero =>
    intro b h zn zv0 zv1
    have zs := zp1.1
    refine AW.go pk_X7_hashWithPairs 16 4 rfl rfl ?_
    change AW ev false 6 t_X7_hashWithPairs Q 37 [some (vR 0), some (vL h0), none, some (vL h), none, some (vI a), some (vI sun), some (vI b)] [vR 7, vI b] M
    refine AW.callV (d' := 0) [] [vI b] vm_X4_size rfl hX7_62 (okP_d pk_X7_hashWithPairs 19 37 (.invokevirtual 62) 3 rfl) (by decide) rfl (Nat.le_of_ble_eq_true rfl) ?_
    refine c_X4_size   (fun w0 zw0 => ?_)
    change AW ev false 6 t_X7_hashWithPairs Q 40 [some (vR 0), some (vL h0), none, some (vL h), none, some (vI a), some (vI sun), some (vI b)] [vI w0, vI b] M
    refine AW.go pk_X7_hashWithPairs 20 10 rfl rfl ?_
    refine And.intro (show Inr b ∧ Inr w0 from ⟨⟨by omega, by omega⟩, ⟨by omega, by omega⟩⟩) (And.intro (fun zh1 => ?_) (fun zh1 => ?_))
    · replace zh1 : w0 ≤ b := zh1
      change AW ev false 6 t_X7_hashWithPairs Q 93 [some (vR 0), some (vL h0), none, some (vL h), none, some (vI a), some (vI sun), some (vI b)] [] M
      exact zv1 h b rfl
    · replace zh1 : ¬ (w0 ≤ b) := zh1
      exfalso; omega
  | succ n zih =>
    intro b h zn zv0 zv1
    have zs := zp1.1
    refine AW.go pk_X7_hashWithPairs 16 4 rfl rfl ?_
    change AW ev false 6 t_X7_hashWithPairs Q 37 [some (vR 0), some (vL h0), none, some (vL h), none, some (vI a), some (vI sun), some (vI b)] [vR 7, vI b] M
    refine AW.callV (d' := 0) [] [vI b] vm_X4_size rfl hX7_62 (okP_d pk_X7_hashWithPairs 19 37 (.invokevirtual 62) 3 rfl) (by decide) rfl (Nat.le_of_ble_eq_true rfl) ?_
    refine c_X4_size   (fun w0 zw0 => ?_)
    change AW ev false 6 t_X7_hashWithPairs Q 40 [some (vR 0), some (vL h0), none, some (vL h), none, some (vI a), some (vI sun), some (vI b)] [vI w0, vI b] M
    refine AW.go pk_X7_hashWithPairs 20 10 rfl rfl ?_
    refine And.intro (show Inr b ∧ Inr w0 from ⟨⟨by omega, by omega⟩, ⟨by omega, by omega⟩⟩) (And.intro (fun zh1 => ?_) (fun zh1 => ?_))
    · replace zh1 : w0 ≤ b := zh1
      exfalso; omega
    · replace zh1 : ¬ (w0 ≤ b) := zh1
      refine And.intro (show Inr b ∧ Inr a from ⟨⟨by omega, by omega⟩, ⟨by omega, by omega⟩⟩) (And.intro (fun zh2 => ?_) (fun zh2 => ?_))
      · replace zh2 : b = a := zh2
        change AW ev false 6 t_X7_hashWithPairs Q 87 [some (vR 0), some (vL h0), none, some (vL h), none, some (vI a), some (vI sun), some (vI b)] [] M
        refine AW.go pk_X7_hashWithPairs 42 2 rfl rfl ?_
        refine And.intro (show 7 < mL t_X7_hashWithPairs from (by decide)) ?_
        change AW ev false 6 t_X7_hashWithPairs Q 31 [some (vR 0), some (vL h0), none, some (vL h), none, some (vI a), some (vI sun), some (vI (b + 1))] [] M
        exact zih (b + 1) h (by omega) (by omega) (fun a2 i2 zr => zv1 a2 i2 (itT_step (show prS (betF (M 2) (M 8) (M 9)) (fun a b => bcI (hrC M a b)) a b h = h from by unfold prS; rw [if_pos (by omega)]) zr))
      · replace zh2 : ¬ (b = a) := zh2
        change AW ev false 6 t_X7_hashWithPairs Q 59 [some (vR 0), some (vL h0), none, some (vL h), none, some (vI a), some (vI sun), some (vI b)] [vI b, vI a, vR 18, vL h] M
        refine AW.callV (d' := 4) [vI a, vI b] [vL h] vm_X2_blockingCell rfl hX7_193 (okP_d pk_X7_hashWithPairs 29 59 (.invokevirtual 193) 3 rfl) (by decide) rfl (Nat.le_of_ble_eq_true rfl) ?_
        refine c_X2_blockingCell a b zp0 zp1 (by omega) (by omega) (by omega) (fun w1 zw1 => ?_)
        change AW ev false 6 t_X7_hashWithPairs Q 62 [some (vR 0), some (vL h0), none, some (vL h), none, some (vI a), some (vI sun), some (vI b)] [vI w1, vL h] M
        refine AW.callS (d' := 0) [vL h, vI w1] [] sm_X7_hashWith hX7_233 (okP_d pk_X7_hashWithPairs 30 62 (.invokestatic 233) 3 rfl) (by decide) rfl (Nat.le_of_ble_eq_true rfl) ?_
        refine c_X7_hashWith h w1 (by omega) (fun w2 zw2 => ?_)
        change AW ev false 6 t_X7_hashWithPairs Q 65 [some (vR 0), some (vL h0), none, some (vL h), none, some (vI a), some (vI sun), some (vI b)] [vL w2] M
        refine AW.go pk_X7_hashWithPairs 31 8 rfl rfl ?_
        refine And.intro (show 3 + 1 < mL t_X7_hashWithPairs from (by decide)) ?_
        change AW ev false 6 t_X7_hashWithPairs Q 77 [some (vR 0), some (vL h0), none, some (vL w2), none, some (vI a), some (vI sun), some (vI b)] [vI sun, vI b, vI a, vR 18, vL w2] M
        refine AW.callV (d' := 5) [vI a, vI b, vI sun] [vL w2] vm_X2_signalHours rfl hX7_255 (okP_d pk_X7_hashWithPairs 38 77 (.invokevirtual 255) 3 rfl) (by decide) rfl (Nat.le_of_ble_eq_true rfl) ?_
        refine c_X2_signalHours a b sun zp0 zp1 (by omega) (by omega) (by omega) (fun w3 zw3 => ?_)
        have zhr : hrC M a b = w3 := by rw [zw3.1, zsu]; rfl
        change AW ev false 6 t_X7_hashWithPairs Q 80 [some (vR 0), some (vL h0), none, some (vL w2), none, some (vI a), some (vI sun), some (vI b)] [vI w3, vL w2] M
        refine AW.callS (d' := 0) [vI w3] [vL w2] sm_J6_bitCount_0f7a4 hX7_258 (okP_d pk_X7_hashWithPairs 39 80 (.invokestatic 258) 3 rfl) (by decide) rfl (Nat.le_of_ble_eq_true rfl) ?_
        refine c_J6_bitCount_0f7a4 w3  (fun w4 zw4 => ?_)
        have zbb := bcI_bd w3
        rw [← zw4] at zbb
        change AW ev false 6 t_X7_hashWithPairs Q 83 [some (vR 0), some (vL h0), none, some (vL w2), none, some (vI a), some (vI sun), some (vI b)] [vI w4, vL w2] M
        refine AW.callS (d' := 0) [vL w2, vI w4] [] sm_X7_hashWith hX7_233 (okP_d pk_X7_hashWithPairs 40 83 (.invokestatic 233) 3 rfl) (by decide) rfl (Nat.le_of_ble_eq_true rfl) ?_
        refine c_X7_hashWith w2 w4 (by omega) (fun w5 zw5 => ?_)
        change AW ev false 6 t_X7_hashWithPairs Q 86 [some (vR 0), some (vL h0), none, some (vL w2), none, some (vI a), some (vI sun), some (vI b)] [vL w5] M
        refine AW.go pk_X7_hashWithPairs 41 3 rfl rfl ?_
        refine And.intro (show 3 + 1 < mL t_X7_hashWithPairs from (by decide)) ?_
        refine And.intro (show 7 < mL t_X7_hashWithPairs from (by decide)) ?_
        change AW ev false 6 t_X7_hashWithPairs Q 31 [some (vR 0), some (vL h0), none, some (vL w5), none, some (vI a), some (vI sun), some (vI (b + 1))] [] M
        exact zih (b + 1) w5 (by omega) (by omega) (fun a2 i2 zr => zv1 a2 i2 (itT_step (show prS (betF (M 2) (M 8) (M 9)) (fun a b => bcI (hrC M a b)) a b h = w5 from by unfold prS; rw [if_neg (by omega), zw5, zw4, zw2, zw1.1, ← zhr]) zr))
theorem lz_hp2 {ev : Ev} {Q : Out → Mem → Prop} {M : Mem}  (h0 : Int) (zp0 : TInv M) (zp1 : SInv M) (zp2 : KInv M) (zp3 : GInv M)  : ∀ (n : Nat) (a : Int) (h : Int), a + n = M 7 3 → (0 ≤ a) → (∀ r : Int, r = itT (fun a h => itT (fun b h => prS (betF (M 2) (M 8) (M 9)) (fun a b => bcI (hrC M a b)) a b h) (M 7 3).toNat 0 h) n a h → Q (.inl (some (vL r))) M) → AW ev false 6 t_X7_hashWithPairs Q 5 [some (vR 0), some (vL h0), none, some (vL h), none, some (vI a), none, none] [] M := by
  intro n
  induction n with
  | zero =>
    intro a h zn zv0 zv1
    have zs := zp1.1
    refine AW.go pk_X7_hashWithPairs 4 4 rfl rfl ?_
    change AW ev false 6 t_X7_hashWithPairs Q 11 [some (vR 0), some (vL h0), none, some (vL h), none, some (vI a), none, none] [vR 7, vI a] M
    refine AW.callV (d' := 0) [] [vI a] vm_X4_size rfl hX7_62 (okP_d pk_X7_hashWithPairs 7 11 (.invokevirtual 62) 3 rfl) (by decide) rfl (Nat.le_of_ble_eq_true rfl) ?_
    refine c_X4_size   (fun w0 zw0 => ?_)
    change AW ev false 6 t_X7_hashWithPairs Q 14 [some (vR 0), some (vL h0), none, some (vL h), none, some (vI a), none, none] [vI w0, vI a] M
    refine AW.go pk_X7_hashWithPairs 8 5 rfl rfl ?_
    refine And.intro (show Inr a ∧ Inr w0 from ⟨⟨by omega, by omega⟩, ⟨by omega, by omega⟩⟩) (And.intro (fun zh1 => ?_) (fun zh1 => ?_))
    · replace zh1 : w0 ≤ a := zh1
      change AW ev false 6 t_X7_hashWithPairs Q 99 [some (vR 0), some (vL h0), none, some (vL h), none, some (vI a), none, none] [] M
      refine AW.go pk_X7_hashWithPairs 46 2 rfl rfl ?_
      refine And.intro rfl ?_
      exact zv1 _ rfl
    · replace zh1 : ¬ (w0 ≤ a) := zh1
      exfalso; omega
  | succ n zih =>
    intro a h zn zv0 zv1
    have zs := zp1.1
    refine AW.go pk_X7_hashWithPairs 4 4 rfl rfl ?_
    change AW ev false 6 t_X7_hashWithPairs Q 11 [some (vR 0), some (vL h0), none, some (vL h), none, some (vI a), none, none] [vR 7, vI a] M
    refine AW.callV (d' := 0) [] [vI a] vm_X4_size rfl hX7_62 (okP_d pk_X7_hashWithPairs 7 11 (.invokevirtual 62) 3 rfl) (by decide) rfl (Nat.le_of_ble_eq_true rfl) ?_
    refine c_X4_size   (fun w0 zw0 => ?_)
    change AW ev false 6 t_X7_hashWithPairs Q 14 [some (vR 0), some (vL h0), none, some (vL h), none, some (vI a), none, none] [vI w0, vI a] M
    refine AW.go pk_X7_hashWithPairs 8 5 rfl rfl ?_
    refine And.intro (show Inr a ∧ Inr w0 from ⟨⟨by omega, by omega⟩, ⟨by omega, by omega⟩⟩) (And.intro (fun zh1 => ?_) (fun zh1 => ?_))
    · replace zh1 : w0 ≤ a := zh1
      exfalso; omega
    · replace zh1 : ¬ (w0 ≤ a) := zh1
      change AW ev false 6 t_X7_hashWithPairs Q 23 [some (vR 0), some (vL h0), none, some (vL h), none, some (vI a), none, none] [vI a, vR 18] M
      refine AW.callV (d' := 4) [vI a] [] vm_X2_sunHours rfl hX7_252 (okP_d pk_X7_hashWithPairs 12 23 (.invokevirtual 252) 3 rfl) (by decide) rfl (Nat.le_of_ble_eq_true rfl) ?_
      refine c_X2_sunHours a zp0 zp1 zp2 (by omega) (fun sun zsun => ?_)
      change AW ev false 6 t_X7_hashWithPairs Q 26 [some (vR 0), some (vL h0), none, some (vL h), none, some (vI a), none, none] [vI sun] M
      refine AW.go pk_X7_hashWithPairs 13 3 rfl rfl ?_
      refine And.intro (show 6 < mL t_X7_hashWithPairs from (by decide)) ?_
      refine And.intro (show 7 < mL t_X7_hashWithPairs from (by decide)) ?_
      change AW ev false 6 t_X7_hashWithPairs Q 31 [some (vR 0), some (vL h0), none, some (vL h), none, some (vI a), some (vI sun), some (vI 0)] [] M
      refine lz_hp1 h0 zp0 zp1 zp2 zp3 a sun (by omega) zsun.1 (M 7 3).toNat 0 h (by omega) (by omega) (fun a2 i2 zr => ?_)
      refine AW.go pk_X7_hashWithPairs 44 2 rfl rfl ?_
      refine And.intro (show 5 < mL t_X7_hashWithPairs from (by decide)) ?_
      change AW ev false 6 t_X7_hashWithPairs Q 5 [some (vR 0), some (vL h0), none, some (vL a2), none, some (vI (a + 1)), some (vI sun), some (vI i2)] [] M
      refine AW.sub [some (vR 0), some (vL h0), none, some (vL a2), none, some (vI (a + 1)), none, none] (by simp [lsub]) ?_
      exact zih (a + 1) a2 (by omega) (by omega) (fun r zq => zv1 r (itT_step (show itT (fun b h => prS (betF (M 2) (M 8) (M 9)) (fun a b => bcI (hrC M a b)) a b h) (M 7 3).toNat 0 h = a2 from zr.symm) zq))
theorem c_X7_hashWithPairs {ev : Ev} {Q : Out → Mem → Prop} {M : Mem}  (h0 : Int) (zp0 : TInv M) (zp1 : SInv M) (zp2 : KInv M) (zp3 : GInv M) (zQ : ∀ (r : Int), r = itT (fun a h => itT (fun b h => prS (betF (M 2) (M 8) (M 9)) (fun a b => bcI (hrC M a b)) a b h) (M 7 3).toNat 0 h) (M 7 3).toNat 0 h0 → Q (.inl (some (vL r))) M) : AM ev false 6 t_X7_hashWithPairs [vR 0, vL h0] M Q := by
  have zs := zp1.1
  refine AM.of mt_X7_hashWithPairs (Nat.le_of_ble_eq_true rfl) ?_
  change AW ev false 6 t_X7_hashWithPairs Q 0 [some (vR 0), some (vL h0), none, none, none, none, none, none] [] M
  refine AW.go pk_X7_hashWithPairs 0 4 rfl rfl ?_
  refine And.intro (show 3 + 1 < mL t_X7_hashWithPairs from (by decide)) ?_
  refine And.intro (show 5 < mL t_X7_hashWithPairs from (by decide)) ?_
  change AW ev false 6 t_X7_hashWithPairs Q 5 [some (vR 0), some (vL h0), none, some (vL h0), none, some (vI 0), none, none] [] M
  exact lz_hp2 h0 zp0 zp1 zp2 zp3 (M 7 3).toNat 0 h0 (by omega) (by omega) zQ
theorem lz_hm1 {ev : Ev} {Q : Out → Mem → Prop} {M : Mem}  (h0 : Int) (zp0 : GInv M) (zp1 : HInv M) (m : Int) (za : 0 ≤ m ∧ m < M 19 2) : ∀ (n : Nat) (w : Int) (h : Int), w + n = 6 → (0 ≤ w) → (∀ a2 i2 : Int, a2 = itT (fun w h => hsh h (M 20 (27 * m + w))) n w h → AW ev false 3 t_X7_hashWithMessages Q 49 [some (vR 0), some (vL h0), none, some (vL a2), none, some (vI m), some (vI i2), none] [] M) → AW ev false 3 t_X7_hashWithMessages Q 20 [some (vR 0), some (vL h0), none, some (vL h), none, some (vI m), some (vI w), none] [] M := by
  intro n
  induction n with
  | zero =>
    intro w h zn zv0 zv1
    have zs := zp0.1
    refine AW.go pk_X7_hashWithMessages 11 9 rfl rfl ?_
    refine And.intro (show Inr w ∧ Inr 6 from ⟨⟨by omega, by omega⟩, ⟨by omega, by omega⟩⟩) (And.intro (fun zh1 => ?_) (fun zh1 => ?_))
    · replace zh1 : (6 : Int) ≤ w := zh1
      change AW ev false 3 t_X7_hashWithMessages Q 49 [some (vR 0), some (vL h0), none, some (vL h), none, some (vI m), some (vI w), none] [] M
      exact zv1 h w rfl
    · replace zh1 : ¬ ((6 : Int) ≤ w) := zh1
      exfalso; omega
  | succ n zih =>
    intro w h zn zv0 zv1
    have zs := zp0.1
    refine AW.go pk_X7_hashWithMessages 11 9 rfl rfl ?_
    refine And.intro (show Inr w ∧ Inr 6 from ⟨⟨by omega, by omega⟩, ⟨by omega, by omega⟩⟩) (And.intro (fun zh1 => ?_) (fun zh1 => ?_))
    · replace zh1 : (6 : Int) ≤ w := zh1
      exfalso; omega
    · replace zh1 : ¬ ((6 : Int) ≤ w) := zh1
      change AW ev false 3 t_X7_hashWithMessages Q 36 [some (vR 0), some (vL h0), none, some (vL h), none, some (vI m), some (vI w), none] [vI w, vI m, vR 19, vL h] M
      refine AW.callV (d' := 1) [vI m, vI w] [vL h] vm_X6_property rfl hX7_211 (okP_d pk_X7_hashWithMessages 19 36 (.invokevirtual 211) 3 rfl) (by decide) rfl (Nat.le_of_ble_eq_true rfl) ?_
      refine c_X6_property m w (by omega) (by omega) (by omega) (fun w1 zw1 => ?_)
      have zb : -2147483648 ≤ w1 ∧ w1 < 2147483648 := msg_bd zp0 za (by omega) zw1
      change AW ev false 3 t_X7_hashWithMessages Q 39 [some (vR 0), some (vL h0), none, some (vL h), none, some (vI m), some (vI w), none] [vI w1, vL h] M
      refine AW.callS (d' := 0) [vL h, vI w1] [] sm_X7_hashWith hX7_233 (okP_d pk_X7_hashWithMessages 20 39 (.invokestatic 233) 3 rfl) (by decide) rfl (Nat.le_of_ble_eq_true rfl) ?_
      refine c_X7_hashWith h w1 (by omega) (fun w2 zw2 => ?_)
      change AW ev false 3 t_X7_hashWithMessages Q 42 [some (vR 0), some (vL h0), none, some (vL h), none, some (vI m), some (vI w), none] [vL w2] M
      refine AW.go pk_X7_hashWithMessages 21 3 rfl rfl ?_
      refine And.intro (show 3 + 1 < mL t_X7_hashWithMessages from (by decide)) ?_
      refine And.intro (show 6 < mL t_X7_hashWithMessages from (by decide)) ?_
      change AW ev false 3 t_X7_hashWithMessages Q 20 [some (vR 0), some (vL h0), none, some (vL w2), none, some (vI m), some (vI (w + 1)), none] [] M
      exact zih (w + 1) w2 (by omega) (by omega) (fun a2 i2 zr => zv1 a2 i2 (itT_step (show hsh h (M 20 (27 * m + w)) = w2 from by rw [zw2, zw1]) zr))
theorem lz_hm2 {ev : Ev} {Q : Out → Mem → Prop} {M : Mem}  (h0 : Int) (zp0 : GInv M) (zp1 : HInv M) (m : Int) (za : 0 ≤ m ∧ m < M 19 2) (j : Int) (zj7 : j < 7) (zjj : 0 ≤ j ∧ j < M 20 (27 * m + 5)) : ∀ (n : Nat) (w : Int) (h : Int), w + n = 3 → (0 ≤ w) → (∀ a2 i2 : Int, a2 = itT (fun w h => hsh h (M 20 (27 * m + 6 + 3 * j + w))) n w h → AW ev false 3 t_X7_hashWithMessages Q 99 [some (vR 0), some (vL h0), none, some (vL a2), none, some (vI m), some (vI j), some (vI i2)] [] M) → AW ev false 3 t_X7_hashWithMessages Q 69 [some (vR 0), some (vL h0), none, some (vL h), none, some (vI m), some (vI j), some (vI w)] [] M := by
  intro n
  induction n with
  | zero =>
    intro w h zn zv0 zv1
    have zs := zp0.1
    refine AW.go pk_X7_hashWithMessages 34 10 rfl rfl ?_
    refine And.intro (show Inr w ∧ Inr 3 from ⟨⟨by omega, by omega⟩, ⟨by omega, by omega⟩⟩) (And.intro (fun zh1 => ?_) (fun zh1 => ?_))
    · replace zh1 : (3 : Int) ≤ w := zh1
      change AW ev false 3 t_X7_hashWithMessages Q 99 [some (vR 0), some (vL h0), none, some (vL h), none, some (vI m), some (vI j), some (vI w)] [] M
      exact zv1 h w rfl
    · replace zh1 : ¬ ((3 : Int) ≤ w) := zh1
      exfalso; omega
  | succ n zih =>
    intro w h zn zv0 zv1
    have zs := zp0.1
    refine AW.go pk_X7_hashWithMessages 34 10 rfl rfl ?_
    refine And.intro (show Inr w ∧ Inr 3 from ⟨⟨by omega, by omega⟩, ⟨by omega, by omega⟩⟩) (And.intro (fun zh1 => ?_) (fun zh1 => ?_))
    · replace zh1 : (3 : Int) ≤ w := zh1
      exfalso; omega
    · replace zh1 : ¬ ((3 : Int) ≤ w) := zh1
      change AW ev false 3 t_X7_hashWithMessages Q 86 [some (vR 0), some (vL h0), none, some (vL h), none, some (vI m), some (vI j), some (vI w)] [vI w, vI j, vI m, vR 19, vL h] M
      refine AW.callV (d' := 1) [vI m, vI j, vI w] [vL h] vm_X6_hopPart rfl hX7_222 (okP_d pk_X7_hashWithMessages 43 86 (.invokevirtual 222) 3 rfl) (by decide) rfl (Nat.le_of_ble_eq_true rfl) ?_
      refine c_X6_hopPart m j w (by omega) (by omega) (by omega) (by omega) (fun w1 zw1 => ?_)
      have zb : -2147483648 ≤ w1 ∧ w1 < 2147483648 := hop_bd zp0 zp1 za zjj (by omega) zw1
      change AW ev false 3 t_X7_hashWithMessages Q 89 [some (vR 0), some (vL h0), none, some (vL h), none, some (vI m), some (vI j), some (vI w)] [vI w1, vL h] M
      refine AW.callS (d' := 0) [vL h, vI w1] [] sm_X7_hashWith hX7_233 (okP_d pk_X7_hashWithMessages 44 89 (.invokestatic 233) 3 rfl) (by decide) rfl (Nat.le_of_ble_eq_true rfl) ?_
      refine c_X7_hashWith h w1 (by omega) (fun w2 zw2 => ?_)
      change AW ev false 3 t_X7_hashWithMessages Q 92 [some (vR 0), some (vL h0), none, some (vL h), none, some (vI m), some (vI j), some (vI w)] [vL w2] M
      refine AW.go pk_X7_hashWithMessages 45 3 rfl rfl ?_
      refine And.intro (show 3 + 1 < mL t_X7_hashWithMessages from (by decide)) ?_
      refine And.intro (show 7 < mL t_X7_hashWithMessages from (by decide)) ?_
      change AW ev false 3 t_X7_hashWithMessages Q 69 [some (vR 0), some (vL h0), none, some (vL w2), none, some (vI m), some (vI j), some (vI (w + 1))] [] M
      exact zih (w + 1) w2 (by omega) (by omega) (fun a2 i2 zr => zv1 a2 i2 (itT_step (show hsh h (M 20 (27 * m + 6 + 3 * j + w)) = w2 from by rw [zw2, zw1]) zr))
theorem lz_hm3 {ev : Ev} {Q : Out → Mem → Prop} {M : Mem}  (h0 : Int) (zp0 : GInv M) (zp1 : HInv M) (m : Int) (za : 0 ≤ m ∧ m < M 19 2) : ∀ (n : Nat) (j : Int) (h : Int), j + n = M 20 (27 * m + 5) → (0 ≤ j) → (∀ a2 i2 : Int, a2 = itT (fun j h => itT (fun w h => hsh h (M 20 (27 * m + 6 + 3 * j + w))) 3 0 h) n j h → AW ev false 3 t_X7_hashWithMessages Q 105 [some (vR 0), some (vL h0), none, some (vL a2), none, some (vI m), some (vI i2), none] [] M) → AW ev false 3 t_X7_hashWithMessages Q 52 [some (vR 0), some (vL h0), none, some (vL h), none, some (vI m), some (vI j), none] [] M := by
  intro n
  induction n with
  | zero =>
    intro j h zn zv0 zv1
    have zs := zp0.1
    have zhb0 := (zp0.2.1 m za.1 za.2).2.2.2.2.2
    refine AW.go pk_X7_hashWithMessages 26 5 rfl rfl ?_
    change AW ev false 3 t_X7_hashWithMessages Q 60 [some (vR 0), some (vL h0), none, some (vL h), none, some (vI m), some (vI j), none] [vI m, vR 19, vI j] M
    refine AW.callV (d' := 2) [vI m] [vI j] vm_X6_hopsOf rfl hX7_214 (okP_d pk_X7_hashWithMessages 30 60 (.invokevirtual 214) 3 rfl) (by decide) rfl (Nat.le_of_ble_eq_true rfl) ?_
    refine c_X6_hopsOf m (by omega) (by omega) (fun w3 zw3 => ?_)
    have zhb := (zp0.2.1 m za.1 za.2).2.2.2.2.2
    replace zw3 : w3 = M 20 (27 * m + 5) := zw3
    change AW ev false 3 t_X7_hashWithMessages Q 63 [some (vR 0), some (vL h0), none, some (vL h), none, some (vI m), some (vI j), none] [vI w3, vI j] M
    refine AW.go pk_X7_hashWithMessages 31 3 rfl rfl ?_
    refine And.intro (show Inr j ∧ Inr w3 from ⟨⟨by omega, by omega⟩, ⟨by omega, by omega⟩⟩) (And.intro (fun zh1 => ?_) (fun zh1 => ?_))
    · replace zh1 : w3 ≤ j := zh1
      change AW ev false 3 t_X7_hashWithMessages Q 105 [some (vR 0), some (vL h0), none, some (vL h), none, some (vI m), some (vI j), none] [] M
      exact zv1 h j rfl
    · replace zh1 : ¬ (w3 ≤ j) := zh1
      exfalso; omega
  | succ n zih =>
    intro j h zn zv0 zv1
    have zs := zp0.1
    have zhb0 := (zp0.2.1 m za.1 za.2).2.2.2.2.2
    refine AW.go pk_X7_hashWithMessages 26 5 rfl rfl ?_
    change AW ev false 3 t_X7_hashWithMessages Q 60 [some (vR 0), some (vL h0), none, some (vL h), none, some (vI m), some (vI j), none] [vI m, vR 19, vI j] M
    refine AW.callV (d' := 2) [vI m] [vI j] vm_X6_hopsOf rfl hX7_214 (okP_d pk_X7_hashWithMessages 30 60 (.invokevirtual 214) 3 rfl) (by decide) rfl (Nat.le_of_ble_eq_true rfl) ?_
    refine c_X6_hopsOf m (by omega) (by omega) (fun w3 zw3 => ?_)
    have zhb := (zp0.2.1 m za.1 za.2).2.2.2.2.2
    replace zw3 : w3 = M 20 (27 * m + 5) := zw3
    change AW ev false 3 t_X7_hashWithMessages Q 63 [some (vR 0), some (vL h0), none, some (vL h), none, some (vI m), some (vI j), none] [vI w3, vI j] M
    refine AW.go pk_X7_hashWithMessages 31 3 rfl rfl ?_
    refine And.intro (show Inr j ∧ Inr w3 from ⟨⟨by omega, by omega⟩, ⟨by omega, by omega⟩⟩) (And.intro (fun zh1 => ?_) (fun zh1 => ?_))
    · replace zh1 : w3 ≤ j := zh1
      exfalso; omega
    · replace zh1 : ¬ (w3 ≤ j) := zh1
      refine And.intro (show 7 < mL t_X7_hashWithMessages from (by decide)) ?_
      change AW ev false 3 t_X7_hashWithMessages Q 69 [some (vR 0), some (vL h0), none, some (vL h), none, some (vI m), some (vI j), some (vI 0)] [] M
      refine lz_hm2 h0 zp0 zp1 m za j (by omega) (by omega) 3 0 h (by omega) (by omega) (fun a2 i2 zr => ?_)
      refine AW.go pk_X7_hashWithMessages 48 2 rfl rfl ?_
      refine And.intro (show 6 < mL t_X7_hashWithMessages from (by decide)) ?_
      change AW ev false 3 t_X7_hashWithMessages Q 52 [some (vR 0), some (vL h0), none, some (vL a2), none, some (vI m), some (vI (j + 1)), some (vI i2)] [] M
      refine AW.sub [some (vR 0), some (vL h0), none, some (vL a2), none, some (vI m), some (vI (j + 1)), none] (by simp [lsub]) ?_
      exact zih (j + 1) a2 (by omega) (by omega) (fun r i2 zq => zv1 r i2 (itT_step (show itT (fun w h => hsh h (M 20 (27 * m + 6 + 3 * j + w))) 3 0 h = a2 from zr.symm) zq))
theorem lz_hm4 {ev : Ev} {Q : Out → Mem → Prop} {M : Mem}  (h0 : Int) (zp0 : GInv M) (zp1 : HInv M)  : ∀ (n : Nat) (m : Int) (h : Int), m + n = M 19 2 → (0 ≤ m) → (∀ r : Int, r = itT (fun m h => itT (fun j h => itT (fun w h => hsh h (M 20 (27 * m + 6 + 3 * j + w))) 3 0 h) (M 20 (27 * m + 5)).toNat 0 (itT (fun w h => hsh h (M 20 (27 * m + w))) 6 0 h)) n m h → Q (.inl (some (vL r))) M) → AW ev false 3 t_X7_hashWithMessages Q 5 [some (vR 0), some (vL h0), none, some (vL h), none, some (vI m), none, none] [] M := by
  intro n
  induction n with
  | zero =>
    intro m h zn zv0 zv1
    have zs := zp0.1
    refine AW.go pk_X7_hashWithMessages 4 4 rfl rfl ?_
    change AW ev false 3 t_X7_hashWithMessages Q 11 [some (vR 0), some (vL h0), none, some (vL h), none, some (vI m), none, none] [vR 19, vI m] M
    refine AW.callV (d' := 0) [] [vI m] vm_X6_size rfl hX7_168 (okP_d pk_X7_hashWithMessages 7 11 (.invokevirtual 168) 3 rfl) (by decide) rfl (Nat.le_of_ble_eq_true rfl) ?_
    refine c_X6_size   (fun w0 zw0 => ?_)
    change AW ev false 3 t_X7_hashWithMessages Q 14 [some (vR 0), some (vL h0), none, some (vL h), none, some (vI m), none, none] [vI w0, vI m] M
    refine AW.go pk_X7_hashWithMessages 8 3 rfl rfl ?_
    refine And.intro (show Inr m ∧ Inr w0 from ⟨⟨by omega, by omega⟩, ⟨by omega, by omega⟩⟩) (And.intro (fun zh1 => ?_) (fun zh1 => ?_))
    · replace zh1 : w0 ≤ m := zh1
      change AW ev false 3 t_X7_hashWithMessages Q 111 [some (vR 0), some (vL h0), none, some (vL h), none, some (vI m), none, none] [] M
      refine AW.go pk_X7_hashWithMessages 52 2 rfl rfl ?_
      refine And.intro rfl ?_
      exact zv1 _ rfl
    · replace zh1 : ¬ (w0 ≤ m) := zh1
      exfalso; omega
  | succ n zih =>
    intro m h zn zv0 zv1
    have zs := zp0.1
    refine AW.go pk_X7_hashWithMessages 4 4 rfl rfl ?_
    change AW ev false 3 t_X7_hashWithMessages Q 11 [some (vR 0), some (vL h0), none, some (vL h), none, some (vI m), none, none] [vR 19, vI m] M
    refine AW.callV (d' := 0) [] [vI m] vm_X6_size rfl hX7_168 (okP_d pk_X7_hashWithMessages 7 11 (.invokevirtual 168) 3 rfl) (by decide) rfl (Nat.le_of_ble_eq_true rfl) ?_
    refine c_X6_size   (fun w0 zw0 => ?_)
    change AW ev false 3 t_X7_hashWithMessages Q 14 [some (vR 0), some (vL h0), none, some (vL h), none, some (vI m), none, none] [vI w0, vI m] M
    refine AW.go pk_X7_hashWithMessages 8 3 rfl rfl ?_
    refine And.intro (show Inr m ∧ Inr w0 from ⟨⟨by omega, by omega⟩, ⟨by omega, by omega⟩⟩) (And.intro (fun zh1 => ?_) (fun zh1 => ?_))
    · replace zh1 : w0 ≤ m := zh1
      exfalso; omega
    · replace zh1 : ¬ (w0 ≤ m) := zh1
      refine And.intro (show 6 < mL t_X7_hashWithMessages from (by decide)) ?_
      change AW ev false 3 t_X7_hashWithMessages Q 20 [some (vR 0), some (vL h0), none, some (vL h), none, some (vI m), some (vI 0), none] [] M
      refine lz_hm1 h0 zp0 zp1 m (by omega) 6 0 h (by omega) (by omega) (fun b2 k2 zr1 => ?_)
      change AW ev false 3 t_X7_hashWithMessages Q 49 [some (vR 0), some (vL h0), none, some (vL b2), none, some (vI m), some (vI k2), none] [] M
      refine AW.go pk_X7_hashWithMessages 24 2 rfl rfl ?_
      refine And.intro (show 6 < mL t_X7_hashWithMessages from (by decide)) ?_
      change AW ev false 3 t_X7_hashWithMessages Q 52 [some (vR 0), some (vL h0), none, some (vL b2), none, some (vI m), some (vI 0), none] [] M
      have zhb := (zp0.2.1 m (by omega) (by omega)).2.2.2.2.2
      refine lz_hm3 h0 zp0 zp1 m (by omega) (M 20 (27 * m + 5)).toNat 0 b2 (by omega) (by omega) (fun a2 i2 zr => ?_)
      refine AW.go pk_X7_hashWithMessages 50 2 rfl rfl ?_
      refine And.intro (show 5 < mL t_X7_hashWithMessages from (by decide)) ?_
      change AW ev false 3 t_X7_hashWithMessages Q 5 [some (vR 0), some (vL h0), none, some (vL a2), none, some (vI (m + 1)), some (vI i2), none] [] M
      refine AW.sub [some (vR 0), some (vL h0), none, some (vL a2), none, some (vI (m + 1)), none, none] (by simp [lsub]) ?_
      exact zih (m + 1) a2 (by omega) (by omega) (fun r zq => zv1 r (itT_step (show itT (fun j h => itT (fun w h => hsh h (M 20 (27 * m + 6 + 3 * j + w))) 3 0 h) (M 20 (27 * m + 5)).toNat 0 (itT (fun w h => hsh h (M 20 (27 * m + w))) 6 0 h) = a2 from by rw [← zr1]; exact zr.symm) zq))
theorem c_X7_hashWithMessages {ev : Ev} {Q : Out → Mem → Prop} {M : Mem}  (h0 : Int) (zp0 : GInv M) (zp1 : HInv M) (zQ : ∀ (r : Int), r = itT (fun m h => itT (fun j h => itT (fun w h => hsh h (M 20 (27 * m + 6 + 3 * j + w))) 3 0 h) (M 20 (27 * m + 5)).toNat 0 (itT (fun w h => hsh h (M 20 (27 * m + w))) 6 0 h)) (M 19 2).toNat 0 h0 → Q (.inl (some (vL r))) M) : AM ev false 3 t_X7_hashWithMessages [vR 0, vL h0] M Q := by
  have zs := zp0.1
  refine AM.of mt_X7_hashWithMessages (Nat.le_of_ble_eq_true rfl) ?_
  change AW ev false 3 t_X7_hashWithMessages Q 0 [some (vR 0), some (vL h0), none, none, none, none, none, none] [] M
  refine AW.go pk_X7_hashWithMessages 0 4 rfl rfl ?_
  refine And.intro (show 3 + 1 < mL t_X7_hashWithMessages from (by decide)) ?_
  refine And.intro (show 5 < mL t_X7_hashWithMessages from (by decide)) ?_
  change AW ev false 3 t_X7_hashWithMessages Q 5 [some (vR 0), some (vL h0), none, some (vL h0), none, some (vI 0), none, none] [] M
  exact lz_hm4 h0 zp0 zp1 (M 19 2).toNat 0 h0 (by omega) (by omega) zQ
theorem lz_ht {ev : Ev} {Q : Out → Mem → Prop} {M : Mem}  (h0 : Int) (zp0 : 0 ≤ M 3 3 ∧ M 3 3 ≤ 40) (zp1 : ∀ i, 0 ≤ i → i < M 3 3 → 33 ≤ M 4 i ∧ M 4 i ≤ 126)  : ∀ (n : Nat) (i : Int) (h : Int), i + n = M 3 3 → (0 ≤ i) → (∀ r : Int, r = itT (fun i h => hsh h (M 4 i)) n i h → Q (.inl (some (vL r))) M) → AW ev false 1 t_X7_hashWithText Q 15 [some (vR 0), some (vL h0), none, some (vL h), none, some (vI i)] [] M := by
  intro n
  induction n with
  | zero =>
    intro i h zn zv0 zv1
    refine AW.go pk_X7_hashWithText 8 4 rfl rfl ?_
    change AW ev false 1 t_X7_hashWithText Q 21 [some (vR 0), some (vL h0), none, some (vL h), none, some (vI i)] [vR 3, vI i] M
    refine AW.callV (d' := 0) [] [vI i] vm_X1_length rfl hX7_94 (okP_d pk_X7_hashWithText 11 21 (.invokevirtual 94) 3 rfl) (by decide) rfl (Nat.le_of_ble_eq_true rfl) ?_
    refine c_X1_length   (fun w2 zw2 => ?_)
    change AW ev false 1 t_X7_hashWithText Q 24 [some (vR 0), some (vL h0), none, some (vL h), none, some (vI i)] [vI w2, vI i] M
    refine AW.go pk_X7_hashWithText 12 6 rfl rfl ?_
    refine And.intro (show Inr i ∧ Inr w2 from ⟨⟨by omega, by omega⟩, ⟨by omega, by omega⟩⟩) (And.intro (fun zh1 => ?_) (fun zh1 => ?_))
    · replace zh1 : w2 ≤ i := zh1
      change AW ev false 1 t_X7_hashWithText Q 47 [some (vR 0), some (vL h0), none, some (vL h), none, some (vI i)] [] M
      refine AW.go pk_X7_hashWithText 22 2 rfl rfl ?_
      refine And.intro rfl ?_
      exact zv1 _ rfl
    · replace zh1 : ¬ (w2 ≤ i) := zh1
      exfalso; omega
  | succ n zih =>
    intro i h zn zv0 zv1
    refine AW.go pk_X7_hashWithText 8 4 rfl rfl ?_
    change AW ev false 1 t_X7_hashWithText Q 21 [some (vR 0), some (vL h0), none, some (vL h), none, some (vI i)] [vR 3, vI i] M
    refine AW.callV (d' := 0) [] [vI i] vm_X1_length rfl hX7_94 (okP_d pk_X7_hashWithText 11 21 (.invokevirtual 94) 3 rfl) (by decide) rfl (Nat.le_of_ble_eq_true rfl) ?_
    refine c_X1_length   (fun w2 zw2 => ?_)
    change AW ev false 1 t_X7_hashWithText Q 24 [some (vR 0), some (vL h0), none, some (vL h), none, some (vI i)] [vI w2, vI i] M
    refine AW.go pk_X7_hashWithText 12 6 rfl rfl ?_
    refine And.intro (show Inr i ∧ Inr w2 from ⟨⟨by omega, by omega⟩, ⟨by omega, by omega⟩⟩) (And.intro (fun zh1 => ?_) (fun zh1 => ?_))
    · replace zh1 : w2 ≤ i := zh1
      exfalso; omega
    · replace zh1 : ¬ (w2 ≤ i) := zh1
      change AW ev false 1 t_X7_hashWithText Q 34 [some (vR 0), some (vL h0), none, some (vL h), none, some (vI i)] [vI i, vR 3, vL h] M
      refine AW.callV (d' := 0) [vI i] [vL h] vm_X1_codeAt rfl hX7_263 (okP_d pk_X7_hashWithText 17 34 (.invokevirtual 263) 3 rfl) (by decide) rfl (Nat.le_of_ble_eq_true rfl) ?_
      refine c_X1_codeAt i (by omega) (fun w3 zw3 => ?_)
      have zb := zp1 i (by omega) (by omega)
      change AW ev false 1 t_X7_hashWithText Q 37 [some (vR 0), some (vL h0), none, some (vL h), none, some (vI i)] [vI w3, vL h] M
      refine AW.callS (d' := 0) [vL h, vI w3] [] sm_X7_hashWith hX7_233 (okP_d pk_X7_hashWithText 18 37 (.invokestatic 233) 3 rfl) (by decide) rfl (Nat.le_of_ble_eq_true rfl) ?_
      refine c_X7_hashWith h w3 (by omega) (fun w4 zw4 => ?_)
      change AW ev false 1 t_X7_hashWithText Q 40 [some (vR 0), some (vL h0), none, some (vL h), none, some (vI i)] [vL w4] M
      refine AW.go pk_X7_hashWithText 19 3 rfl rfl ?_
      refine And.intro (show 3 + 1 < mL t_X7_hashWithText from (by decide)) ?_
      refine And.intro (show 5 < mL t_X7_hashWithText from (by decide)) ?_
      change AW ev false 1 t_X7_hashWithText Q 15 [some (vR 0), some (vL h0), none, some (vL w4), none, some (vI (i + 1))] [] M
      exact zih (i + 1) w4 (by omega) (by omega) (fun r zr => zv1 r (itT_step (show hsh h (M 4 i) = w4 from by rw [zw4, zw3]) zr))
theorem c_X7_hashWithText {ev : Ev} {Q : Out → Mem → Prop} {M : Mem}  (h0 : Int) (zp0 : 0 ≤ M 3 3 ∧ M 3 3 ≤ 40) (zp1 : ∀ i, 0 ≤ i → i < M 3 3 → 33 ≤ M 4 i ∧ M 4 i ≤ 126) (zQ : ∀ (r : Int), r = itT (fun i h => hsh h (M 4 i)) (M 3 3).toNat 0 (hsh h0 (M 3 3)) → Q (.inl (some (vL r))) M) : AM ev false 1 t_X7_hashWithText [vR 0, vL h0] M Q := by
  refine AM.of mt_X7_hashWithText (Nat.le_of_ble_eq_true rfl) ?_
  change AW ev false 1 t_X7_hashWithText Q 0 [some (vR 0), some (vL h0), none, none, none, none] [] M
  refine AW.go pk_X7_hashWithText 0 4 rfl rfl ?_
  change AW ev false 1 t_X7_hashWithText Q 5 [some (vR 0), some (vL h0), none, none, none, none] [vR 3, vL h0] M
  refine AW.callV (d' := 0) [] [vL h0] vm_X1_length rfl hX7_94 (okP_d pk_X7_hashWithText 3 5 (.invokevirtual 94) 3 rfl) (by decide) rfl (Nat.le_of_ble_eq_true rfl) ?_
  refine c_X1_length   (fun w0 zw0 => ?_)
  change AW ev false 1 t_X7_hashWithText Q 8 [some (vR 0), some (vL h0), none, none, none, none] [vI w0, vL h0] M
  refine AW.callS (d' := 0) [vL h0, vI w0] [] sm_X7_hashWith hX7_233 (okP_d pk_X7_hashWithText 4 8 (.invokestatic 233) 3 rfl) (by decide) rfl (Nat.le_of_ble_eq_true rfl) ?_
  refine c_X7_hashWith h0 w0 (by omega) (fun w1 zw1 => ?_)
  change AW ev false 1 t_X7_hashWithText Q 11 [some (vR 0), some (vL h0), none, none, none, none] [vL w1] M
  refine AW.go pk_X7_hashWithText 5 3 rfl rfl ?_
  refine And.intro (show 3 + 1 < mL t_X7_hashWithText from (by decide)) ?_
  refine And.intro (show 5 < mL t_X7_hashWithText from (by decide)) ?_
  change AW ev false 1 t_X7_hashWithText Q 15 [some (vR 0), some (vL h0), none, some (vL w1), none, some (vI 0)] [] M
  rw [show w1 = hsh h0 (M 3 3) from by rw [zw1, zw0]]
  exact lz_ht h0 zp0 zp1 (M 3 3).toNat 0 _ (by omega) (by omega) zQ
theorem lz_dg1 {ev : Ev} {Q : Out → Mem → Prop} {M : Mem}   (zp0 : TInv M) (zp1 : SInv M) (zp2 : KInv M) (zp3 : GInv M) (zp4 : HInv M) (zp5 : 0 ≤ M 3 3 ∧ M 3 3 ≤ 40) (zp6 : ∀ i, 0 ≤ i → i < M 3 3 → 33 ≤ M 4 i ∧ M 4 i ≤ 126)  : ∀ (n : Nat) (i : Int) (h : Int), i + n = 9 → (0 ≤ i) → (∀ a2 i2 : Int, a2 = itT (fun w h => hsh h (nmC M w)) n i h → AW ev false 7 t_X7_digest Q 28 [some (vR 0), some (vL a2), none, some (vI i2)] [] M) → AW ev false 7 t_X7_digest Q 6 [some (vR 0), some (vL h), none, some (vI i)] [] M := by
  intro n
  induction n with
  | zero =>
    intro i h zn zv0 zv1
    refine AW.go pk_X7_digest 4 7 rfl rfl ?_
    refine And.intro (show Inr i ∧ Inr 9 from ⟨⟨by omega, by omega⟩, ⟨by omega, by omega⟩⟩) (And.intro (fun zh1 => ?_) (fun zh1 => ?_))
    · replace zh1 : (9 : Int) ≤ i := zh1
      change AW ev false 7 t_X7_digest Q 28 [some (vR 0), some (vL h), none, some (vI i)] [] M
      exact zv1 h i rfl
    · replace zh1 : ¬ ((9 : Int) ≤ i) := zh1
      exfalso; omega
  | succ n zih =>
    intro i h zn zv0 zv1
    refine AW.go pk_X7_digest 4 7 rfl rfl ?_
    refine And.intro (show Inr i ∧ Inr 9 from ⟨⟨by omega, by omega⟩, ⟨by omega, by omega⟩⟩) (And.intro (fun zh1 => ?_) (fun zh1 => ?_))
    · replace zh1 : (9 : Int) ≤ i := zh1
      exfalso; omega
    · replace zh1 : ¬ ((9 : Int) ≤ i) := zh1
      change AW ev false 7 t_X7_digest Q 15 [some (vR 0), some (vL h), none, some (vI i)] [vI i, vR 0, vL h] M
      refine AW.callV (d' := 6) [vI i] [vL h] vm_X7_numberOf rfl hX7_186 (okP_d pk_X7_digest 10 15 (.invokevirtual 186) 3 rfl) (by decide) rfl (Nat.le_of_ble_eq_true rfl) ?_
      refine c_X7_numberOf i zp0 zp1 zp2 zp3 (by omega) (fun w1 zw1 => ?_)
      change AW ev false 7 t_X7_digest Q 18 [some (vR 0), some (vL h), none, some (vI i)] [vI w1, vL h] M
      refine AW.callS (d' := 0) [vL h, vI w1] [] sm_X7_hashWith hX7_233 (okP_d pk_X7_digest 11 18 (.invokestatic 233) 3 rfl) (by decide) rfl (Nat.le_of_ble_eq_true rfl) ?_
      refine c_X7_hashWith h w1 (by omega) (fun w2 zw2 => ?_)
      change AW ev false 7 t_X7_digest Q 21 [some (vR 0), some (vL h), none, some (vI i)] [vL w2] M
      refine AW.go pk_X7_digest 12 3 rfl rfl ?_
      refine And.intro (show 1 + 1 < mL t_X7_digest from (by decide)) ?_
      refine And.intro (show 3 < mL t_X7_digest from (by decide)) ?_
      change AW ev false 7 t_X7_digest Q 6 [some (vR 0), some (vL w2), none, some (vI (i + 1))] [] M
      exact zih (i + 1) w2 (by omega) (by omega) (fun a2 i2 zr => zv1 a2 i2 (itT_step (show hsh h (nmC M i) = w2 from by rw [zw2, zw1.1]) zr))
theorem lz_dg2 {ev : Ev} {Q : Out → Mem → Prop} {M : Mem}   (zp0 : TInv M) (zp1 : SInv M) (zp2 : KInv M) (zp3 : GInv M) (zp4 : HInv M) (zp5 : 0 ≤ M 3 3 ∧ M 3 3 ≤ 40) (zp6 : ∀ i, 0 ≤ i → i < M 3 3 → 33 ≤ M 4 i ∧ M 4 i ≤ 126)  : ∀ (n : Nat) (i : Int) (h : Int), i + n = 144 → (0 ≤ i) → (∀ a2 i2 : Int, a2 = itT (fun c h => hsh h (M 2 c)) n i h → AW ev false 7 t_X7_digest Q 56 [some (vR 0), some (vL a2), none, some (vI i2)] [] M) → AW ev false 7 t_X7_digest Q 30 [some (vR 0), some (vL h), none, some (vI i)] [] M := by
  intro n
  induction n with
  | zero =>
    intro i h zn zv0 zv1
    refine AW.go pk_X7_digest 17 8 rfl rfl ?_
    refine And.intro (show Inr i ∧ Inr 144 from ⟨⟨by omega, by omega⟩, ⟨by omega, by omega⟩⟩) (And.intro (fun zh1 => ?_) (fun zh1 => ?_))
    · replace zh1 : (144 : Int) ≤ i := zh1
      change AW ev false 7 t_X7_digest Q 56 [some (vR 0), some (vL h), none, some (vI i)] [] M
      exact zv1 h i rfl
    · replace zh1 : ¬ ((144 : Int) ≤ i) := zh1
      exfalso; omega
  | succ n zih =>
    intro i h zn zv0 zv1
    refine AW.go pk_X7_digest 17 8 rfl rfl ?_
    refine And.intro (show Inr i ∧ Inr 144 from ⟨⟨by omega, by omega⟩, ⟨by omega, by omega⟩⟩) (And.intro (fun zh1 => ?_) (fun zh1 => ?_))
    · replace zh1 : (144 : Int) ≤ i := zh1
      exfalso; omega
    · replace zh1 : ¬ ((144 : Int) ≤ i) := zh1
      change AW ev false 7 t_X7_digest Q 43 [some (vR 0), some (vL h), none, some (vI i)] [vI i, vR 1, vL h] M
      refine AW.callV (d' := 1) [vI i] [vL h] vm_X5_heightOf rfl hX7_82 (okP_d pk_X7_digest 24 43 (.invokevirtual 82) 3 rfl) (by decide) rfl (Nat.le_of_ble_eq_true rfl) ?_
      refine c_X5_heightOf i (by omega) (fun w1 zw1 => ?_)
      have zb := zp0 i (by omega) (by omega)
      change AW ev false 7 t_X7_digest Q 46 [some (vR 0), some (vL h), none, some (vI i)] [vI w1, vL h] M
      refine AW.callS (d' := 0) [vL h, vI w1] [] sm_X7_hashWith hX7_233 (okP_d pk_X7_digest 25 46 (.invokestatic 233) 3 rfl) (by decide) rfl (Nat.le_of_ble_eq_true rfl) ?_
      refine c_X7_hashWith h w1 (by omega) (fun w2 zw2 => ?_)
      change AW ev false 7 t_X7_digest Q 49 [some (vR 0), some (vL h), none, some (vI i)] [vL w2] M
      refine AW.go pk_X7_digest 26 3 rfl rfl ?_
      refine And.intro (show 1 + 1 < mL t_X7_digest from (by decide)) ?_
      refine And.intro (show 3 < mL t_X7_digest from (by decide)) ?_
      change AW ev false 7 t_X7_digest Q 30 [some (vR 0), some (vL w2), none, some (vI (i + 1))] [] M
      exact zih (i + 1) w2 (by omega) (by omega) (fun a2 i2 zr => zv1 a2 i2 (itT_step (show hsh h (M 2 i) = w2 from by rw [zw2, zw1]) zr))
theorem c_X7_digest {ev : Ev} {Q : Out → Mem → Prop} {M : Mem}   (zp0 : TInv M) (zp1 : SInv M) (zp2 : KInv M) (zp3 : GInv M) (zp4 : HInv M) (zp5 : 0 ≤ M 3 3 ∧ M 3 3 ≤ 40) (zp6 : ∀ i, 0 ≤ i → i < M 3 3 → 33 ≤ M 4 i ∧ M 4 i ≤ 126) (zQ : ∀ (r : Int), r = dgC M → Q (.inl (some (vL r))) M) : AM ev false 7 t_X7_digest [vR 0] M Q := by
  have zs := zp1.1
  refine AM.of mt_X7_digest (Nat.le_of_ble_eq_true rfl) ?_
  change AW ev false 7 t_X7_digest Q 0 [some (vR 0), none, none, none] [] M
  refine AW.go pk_X7_digest 0 4 rfl rfl ?_
  refine And.intro (show 1 + 1 < mL t_X7_digest from (by decide)) ?_
  refine And.intro (show 3 < mL t_X7_digest from (by decide)) ?_
  change AW ev false 7 t_X7_digest Q 6 [some (vR 0), some (vL 1951), none, some (vI 0)] [] M
  refine lz_dg1 zp0 zp1 zp2 zp3 zp4 zp5 zp6 9 0 1951 (by omega) (by omega) (fun h1 i1 zr1 => ?_)
  change AW ev false 7 t_X7_digest Q 28 [some (vR 0), some (vL h1), none, some (vI i1)] [] M
  refine AW.go pk_X7_digest 15 2 rfl rfl ?_
  refine And.intro (show 3 < mL t_X7_digest from (by decide)) ?_
  change AW ev false 7 t_X7_digest Q 30 [some (vR 0), some (vL h1), none, some (vI 0)] [] M
  refine lz_dg2 zp0 zp1 zp2 zp3 zp4 zp5 zp6 144 0 h1 (by omega) (by omega) (fun h2 i2 zr2 => ?_)
  change AW ev false 7 t_X7_digest Q 56 [some (vR 0), some (vL h2), none, some (vI i2)] [] M
  refine AW.go pk_X7_digest 29 3 rfl rfl ?_
  change AW ev false 7 t_X7_digest Q 58 [some (vR 0), some (vL h2), none, some (vI i2)] [vL h2, vR 0] M
  refine AW.callV (d' := 6) [vL h2] [] vm_X7_hashWithStations rfl hX7_237 (okP_d pk_X7_digest 31 58 (.invokevirtual 237) 3 rfl) (by decide) rfl (Nat.le_of_ble_eq_true rfl) ?_
  refine c_X7_hashWithStations h2 zp0 zp1 zp2 zp3 (fun h3 zh3 => ?_)
  change AW ev false 7 t_X7_digest Q 61 [some (vR 0), some (vL h2), none, some (vI i2)] [vL h3] M
  refine AW.go pk_X7_digest 32 4 rfl rfl ?_
  refine And.intro (show 1 + 1 < mL t_X7_digest from (by decide)) ?_
  change AW ev false 7 t_X7_digest Q 64 [some (vR 0), some (vL h3), none, some (vI i2)] [vL h3, vR 0] M
  refine AW.callV (d' := 6) [vL h3] [] vm_X7_hashWithPairs rfl hX7_241 (okP_d pk_X7_digest 35 64 (.invokevirtual 241) 3 rfl) (by decide) rfl (Nat.le_of_ble_eq_true rfl) ?_
  refine c_X7_hashWithPairs h3 zp0 zp1 zp2 zp3 (fun h4 zh4 => ?_)
  change AW ev false 7 t_X7_digest Q 67 [some (vR 0), some (vL h3), none, some (vI i2)] [vL h4] M
  refine AW.go pk_X7_digest 36 4 rfl rfl ?_
  refine And.intro (show 1 + 1 < mL t_X7_digest from (by decide)) ?_
  change AW ev false 7 t_X7_digest Q 70 [some (vR 0), some (vL h4), none, some (vI i2)] [vL h4, vR 0] M
  refine AW.callV (d' := 3) [vL h4] [] vm_X7_hashWithMessages rfl hX7_244 (okP_d pk_X7_digest 39 70 (.invokevirtual 244) 3 rfl) (by decide) rfl (Nat.le_of_ble_eq_true rfl) ?_
  refine c_X7_hashWithMessages h4 zp3 zp4 (fun h5 zh5 => ?_)
  change AW ev false 7 t_X7_digest Q 73 [some (vR 0), some (vL h4), none, some (vI i2)] [vL h5] M
  refine AW.go pk_X7_digest 40 4 rfl rfl ?_
  refine And.intro (show 1 + 1 < mL t_X7_digest from (by decide)) ?_
  change AW ev false 7 t_X7_digest Q 76 [some (vR 0), some (vL h5), none, some (vI i2)] [vL h5, vR 0] M
  refine AW.callV (d' := 1) [vL h5] [] vm_X7_hashWithText rfl hX7_247 (okP_d pk_X7_digest 43 76 (.invokevirtual 247) 3 rfl) (by decide) rfl (Nat.le_of_ble_eq_true rfl) ?_
  refine c_X7_hashWithText h5 zp5 zp6 (fun h6 zh6 => ?_)
  change AW ev false 7 t_X7_digest Q 79 [some (vR 0), some (vL h5), none, some (vI i2)] [vL h6] M
  refine AW.go pk_X7_digest 44 1 rfl rfl ?_
  refine And.intro rfl ?_
  exact zQ _ (by rw [zh6, zh5, zh4, zh3, zr2, zr1]; rfl)
