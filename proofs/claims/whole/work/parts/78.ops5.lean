/-! all messages again -/
theorem PCh.keep : ∀ (qs : List Rq) (M M' : Mem), PCh qs M M' → 0 ≤ M 19 2 → M 19 2 + qs.length ≤ 20 → BKI M → (∀ k : Nat, k ≠ 19 → k ≠ 20 → k ≠ 21 → k ≠ 22 → k ≠ 24 → k ≠ 25 → M' k = M k) ∧ 0 ≤ M' 19 2 ∧ M' 19 2 ≤ M 19 2 + qs.length
  | [], M, M', h, h0, h1, _ => by
    cases h
    rw [List.length_nil] at h1 ⊢
    exact ⟨fun _ _ _ _ _ _ _ => rfl, h0, by omega⟩
  | q :: qs, M, M', h, h0, h1, hB => by
    obtain ⟨r, M1, c1, c2⟩ := h
    rw [List.length_cons] at h1 ⊢
    obtain ⟨k1, k2, k3⟩ := c1.keep ⟨h0, by omega⟩ hB
    obtain ⟨j1, j2, j3⟩ := PCh.keep qs M1 M' c2 (by omega) (by omega) k2
    exact ⟨fun k a b c d e f => by rw [j1 k a b c d e f, k1 k a b c d e f], j2, by omega⟩
/-- a call of both that answers an int, known only after -/
def CALV (ev : Ev) (t7 t8 : MT) (l7 l8 : Nat) (M : Mem) : Prop :=
  ∃ A : Int → Mem → Prop, (∀ Q2 : Out → Mem → Prop, (∀ a M1, Inr a → A a M1 → Q2 (.inl (some (vI a))) M1) → AM ev false l7 t7 [vR 0] M Q2) ∧ ∀ a M1, A a M1 → ∀ Q2 : Out → Mem → Prop, (∀ M2 : Mem, RR M2 → Q2 (.inl (some (vI a))) M2) → AM ev false l8 t8 [vR 27] M1 Q2
theorem CALI.v {ev : Ev} {t7 t8 : MT} {l7 l8 : Nat} {M : Mem} (h : CALI ev t7 t8 l7 l8 M) : CALV ev t7 t8 l7 l8 M := by
  obtain ⟨a, A, i, h1, h2⟩ := h
  refine ⟨fun a' M1 => a' = a ∧ A M1, fun Q2 hq => h1 Q2 (fun M1 hA => hq a M1 i ⟨rfl, hA⟩), fun a' M1 hA Q2 hq => ?_⟩
  rw [hA.1] at hq
  exact h2 M1 hA.2 Q2 hq
theorem op_reorder {ev : Ev} {M : Mem} (hR : RR M) : CALV ev t_X7_reorder t_X8_reorder 7 8 M := by
  have hs := hR.ns
  have hn : M 27 2 = M 7 3 := hR.ens
  have hg : 0 ≤ M 19 2 ∧ M 19 2 ≤ 20 := hR.2.2.2.2.2.1.1
  have hm : M 27 11 = M 19 2 := hR.2.2.2.2.1
  have g2 := hR.2.2.2.2.2.1.2.1
  have hw := hR.2.2.2.2.2.2
  have hat : ∀ j w, 0 ≤ j → j < M 19 2 → 0 ≤ w → w < 4 → rqM M (M 19 2) 0 26 (4 * j + w) = rqR (M 36) (4 * j + w) := fun j w j0 j1 w0 w1 => by
    rw [rqM_at hg.2 j0 j1 w0 w1, rqR_at _ _ _ w0 w1]
    exact (hw j j0 j1).1 w w0 (by omega)
  have hV : rqV (rqM M (M 19 2) 0 26) (M 7 3) (M 19 2) := fun i i0 i1 => by
    have e0 := hat i 0 i0 i1 (by omega) (by omega)
    have f0 := rqR_at (M 36) i 0 (by omega) (by omega)
    rw [Int.add_zero] at e0 f0
    rw [Int.add_zero] at f0
    rw [e0, hat i 1 i0 i1 (by omega) (by omega), hat i 2 i0 i1 (by omega) (by omega), hat i 3 i0 i1 (by omega) (by omega), f0, rqR_at _ i 1 (by omega) (by omega), rqR_at _ i 2 (by omega) (by omega), rqR_at _ i 3 (by omega) (by omega)]
    have := g2 i i0 i1
    omega
  have hq : rqA (rqM M (M 19 2) 0 26) (M 19 2).toNat 6 1 = rqA (rqR (M 36)) (M 19 2).toNat 6 1 := rqA_congr (fun j w j0 j1 w0 w1 => hat j w j0 (by omega) w0 w1) 6 1
  have hlen := rqA_len (rqM M (M 19 2) 0 26) (M 19 2).toNat
  have hB : BKI (againM (lkA M)) := fun i i0 i1 => by
    show -1 ≤ (if 21 = 21 ∧ 0 ≤ i ∧ i < 576 then (-1 : Int) else M 21 i) ∧ (if 21 = 21 ∧ 0 ≤ i ∧ i < 576 then (-1 : Int) else M 21 i) < 20
    rw [if_pos ⟨rfl, i0, i1⟩]; omega
  refine ⟨fun r M1 => PCh (rqA (rqM M (M 19 2) 0 26) (M 19 2).toNat 6 1) (againM (lkA M)) M1 ∧ r = M1 19 2, fun Q2 h => c_X7_reorder hR.1.1 hR.2.1.1 hR.2.2.1.1 hR.gi hV (fun r M1 zr => ?_), fun r M1 hA Q2 h => ?_⟩
  · obtain ⟨-, k1, k2⟩ := PCh.keep _ _ _ zr.1 (by show (0 : Int) ≤ 0; omega) (by show (0 : Int) + _ ≤ 20; omega) hB
    have k3 : M1 19 2 ≤ 0 + ((rqA (rqM M (M 19 2) 0 26) (M 19 2).toNat 6 1).length : Int) := k2
    have zz := zr.2
    exact h r M1 ⟨by omega, by omega⟩ zr
  · obtain ⟨zp, zr⟩ := hA
    obtain ⟨hk, k1, k2⟩ := PCh.keep _ _ _ zp (by show (0 : Int) ≤ 0; omega) (by show (0 : Int) + _ ≤ 20; omega) hB
    have hX : NPJ M1 := hR.np.of (congrFun (hk 27 (by decide) (by decide) (by decide) (by decide) (by decide) (by decide)) 2) (congrFun (hk 27 (by decide) (by decide) (by decide) (by decide) (by decide) (by decide)) 6) (congrFun (hk 27 (by decide) (by decide) (by decide) (by decide) (by decide) (by decide)) 11) (hk 28 (by decide) (by decide) (by decide) (by decide) (by decide) (by decide)) (hk 29 (by decide) (by decide) (by decide) (by decide) (by decide) (by decide)) (hk 30 (by decide) (by decide) (by decide) (by decide) (by decide) (by decide)) (hk 31 (by decide) (by decide) (by decide) (by decide) (by decide) (by decide)) (hk 32 (by decide) (by decide) (by decide) (by decide) (by decide) (by decide)) (hk 33 (by decide) (by decide) (by decide) (by decide) (by decide) (by decide)) (hk 34 (by decide) (by decide) (by decide) (by decide) (by decide) (by decide)) (hk 35 (by decide) (by decide) (by decide) (by decide) (by decide) (by decide)) (hk 36 (by decide) (by decide) (by decide) (by decide) (by decide) (by decide)) (hk 37 (by decide) (by decide) (by decide) (by decide) (by decide) (by decide))
    have e36 : M1 36 = M 36 := hk 36 (by decide) (by decide) (by decide) (by decide) (by decide) (by decide)
    have e11 : M1 27 11 = M 19 2 := (congrFun (hk 27 (by decide) (by decide) (by decide) (by decide) (by decide) (by decide)) 11).trans hm
    have e2 : M1 27 2 = M 7 3 := (congrFun (hk 27 (by decide) (by decide) (by decide) (by decide) (by decide) (by decide)) 2).trans hn
    have hSV : SV M1 := fun m m0 m1 => by
      rw [e36, e2, ← hn]
      exact hR.sv m m0 (by omega)
    refine c_X8_reorder hX.1 hX.2.1 hX.2.2.1 hX.2.2.2 hSV (fun r8 Y zc => ?_)
    obtain ⟨⟨A, zs⟩, zr8⟩ := zc
    rw [e36, e11, ← hq] at zs
    have hZ : RR (mix (againM (lkA M)) (reM M1 A)) := ⟨hR.1.of rfl (hk 28 (by decide) (by decide) (by decide) (by decide) (by decide) (by decide)), hR.2.1.of rfl rfl rfl rfl (congrFun (hk 27 (by decide) (by decide) (by decide) (by decide) (by decide) (by decide)) 2) (hk 29 (by decide) (by decide) (by decide) (by decide) (by decide) (by decide)) (hk 30 (by decide) (by decide) (by decide) (by decide) (by decide) (by decide)) (hk 31 (by decide) (by decide) (by decide) (by decide) (by decide) (by decide)), hR.2.2.1.of rfl rfl rfl rfl rfl rfl rfl (congrFun (hk 27 (by decide) (by decide) (by decide) (by decide) (by decide) (by decide)) 6) (hk 32 (by decide) (by decide) (by decide) (by decide) (by decide) (by decide)) (hk 33 (by decide) (by decide) (by decide) (by decide) (by decide) (by decide)) (hk 34 (by decide) (by decide) (by decide) (by decide) (by decide) (by decide)) (hk 35 (by decide) (by decide) (by decide) (by decide) (by decide) (by decide)), hR.2.2.2.1.of rfl rfl (congrFun (hk 27 (by decide) (by decide) (by decide) (by decide) (by decide) (by decide)) 14) (hk 38 (by decide) (by decide) (by decide) (by decide) (by decide) (by decide)), ⟨rfl, RG.nil (fun i i0 i1 => fill_bk i _ _ i0 i1 _), fun m m0 m1 => absurd (show m < 0 from m1) (by omega)⟩⟩
    have hC : CC (againM (lkA M)) := (CC.lk hs).of rfl rfl rfl rfl rfl rfl rfl rfl rfl rfl rfl rfl rfl
    obtain ⟨z1, s2, s3, -⟩ := chain_sim _ _ _ _ _ hZ hC (fun q hq2 => by
      rw [hq, ← hm] at hq2
      have := rqO_all hR.gj hR.sv q hq2
      rw [hn] at this
      exact this) (by show (0 : Int) + _ ≤ 20; omega) zp zs
    have hY : RR Y := z1.of (s2 2 (by decide)) (congrFun (s2 3 (by decide)) 3) (s2 4 (by decide)) (congrFun (s2 7 (by decide)) 3) (s2 8 (by decide)) (s2 9 (by decide)) (s2 10 (by decide)) (congrFun (s2 11 (by decide)) 6) (s2 12 (by decide)) (s2 13 (by decide)) (s2 14 (by decide)) (s2 15 (by decide)) (s2 16 (by decide)) (s2 17 (by decide)) (congrFun (s2 19 (by decide)) 2) (s2 20 (by decide)) (s2 21 (by decide)) rfl rfl rfl rfl rfl rfl rfl rfl rfl rfl rfl rfl rfl rfl rfl
    have e : r8 = r := by
      rw [zr8, zr]
      exact z1.2.2.2.2.1
    rw [e]
    exact h Y hY
