theorem lc25_d : dcB (mC t_law) [(1645, .aload_n 1, 1), (1646, .invokevirtual 173, 3), (1649, .dstore 5, 2), (1651, .aload_n 2, 1), (1652, .invokevirtual 177, 3), (1655, .dstore 7, 2), (1657, .dload 5, 2), (1659, .dload 7, 2), (1661, .dcmp .l, 1), (1662, .ifCond .eq 21, 3), (1665, .dload 5, 2), (1667, .dload 5, 2), (1669, .dcmp .l, 1), (1670, .ifCond .eq 11, 3), (1673, .dload 7, 2), (1675, .dload 7, 2), (1677, .dcmp .l, 1), (1678, .ifCond .ne 5, 3), (1681, .iconst 0, 1), (1682, .ireturn, 1), (1683, .goto 17, 3)] = true := by decide +kernel
theorem lc26_d : dcB (mC t_law) [(1686, .aload_n 1, 1), (1687, .invokevirtual 178, 3), (1690, .aload_n 2, 1), (1691, .invokevirtual 182, 3), (1694, .lcmp, 1), (1695, .ifCond .eq 5, 3), (1698, .iconst 0, 1), (1699, .ireturn, 1)] = true := by decide +kernel
theorem lcH_d : dcB (mC t_law) [(23, .iload 4, 2), (25, .aload_n 0, 1), (26, .arraylength, 1), (27, .iconst 5, 1), (28, .isub, 1), (29, .if_icmp .gt 1677, 3), (32, .aload_n 0, 1), (33, .iload 4, 2), (35, .iaload, 1), (36, .bipush 31, 2), (38, .iand, 1), (39, .tableswitch 1661 0 26 #[121, 134, 202, 282, 338, 351, 364, 420, 500, 568, 636, 728, 741, 833, 889, 902, 958, 1026, 1094, 1174, 1242, 1298, 1390, 1458, 1538, 1606, 1647], 121)] = true := by decide +kernel
theorem lcE_d : dcB (mC t_law) [(1700, .iinc 4 5, 3), (1703, .goto (-1680), 3), (1706, .iconst 1, 1), (1707, .ireturn, 1)] = true := by decide +kernel
theorem kl_173 : Cond.methodLink RL 173 yX7_workload ∈ lw_big := bm 536 _ (by decide +kernel) (by decide +kernel)
theorem kl_177 : Cond.methodLink RL 177 yX8_workload ∈ lw_big := bm 1345 _ (by decide +kernel) (by decide +kernel)
theorem kl_178 : Cond.methodLink RL 178 yX7_digest ∈ lw_big := bm 549 _ (by decide +kernel) (by decide +kernel)
theorem kl_182 : Cond.methodLink RL 182 yX8_digest ∈ lw_big := bm 1349 _ (by decide +kernel) (by decide +kernel)
section LAW3
variable {ev : Ev} {g : GT} {N : Nat} {xs : Nat → Int32} {n k : Nat} {M : Mem}
theorem lc25 (hc : GC ev t_law g) (hX : GX ev g N xs) (hR : gR g = room_1) (hM : RR M) {i : Int} (h0 : 0 ≤ i) (h1 : i + 5 ≤ N) (hn : n + 1 ≤ 1085) (hk : k + 6 ≤ 12157) (h : ∀ M2 : Mem, RR M2 → GW ev t_law g (n + 1) (k + 6) 1700 (LL i) [] M2) : GW ev t_law g n k 1645 (LL i) [] M := by
  refine GW.wid (n' := n + 1) (k' := k + 6) (Nat.le_add_right _ _) (Nat.le_add_right _ _) ?_
  have hs := hM.ns
  refine gw_aload_n hc (dc_at lc25_d 0 1645 (.aload_n 1) 1 rfl) rfl ?_
  refine gw_callV hc (d' := 4) [] [] vm_X7_workload rfl kl_173 (dc_at lc25_d 1 1646 (.invokevirtual 173) 3 rfl) (by rw [hR]; exact ⟨Nat.le_of_ble_eq_true rfl, Nat.le_of_ble_eq_true rfl⟩) (by rw [hR]; exact ⟨hn, hk⟩) rfl (Nat.le_of_ble_eq_true rfl) (c_X7_workload hs hM.bk (fun r zr => ?_))
  have hr : Op.cmpValue (FP.dcmp r r) CmpOp.l = Int32.ofInt 0 := by
    rw [zr]
    by_cases q : M 7 3 = 0
    · rw [if_pos q]; decide +kernel
    · rw [if_neg q]
      have hb := bzA_bd (M 21) 8 0 0
      exact (wl_at hb.1 (by have := hb.2; omega) (by omega) hs.2).2.2.2
  change GW ev t_law g (n + 1) (k + 6) 1649 (LL i) [vD r] M
  refine gw_dstore hc (by decide) (dc_at lc25_d 2 1649 (.dstore 5) 2 rfl) ?_
  change GW ev t_law g (n + 1) (k + 6) 1651 [some (vR 47), some (vR 0), some (vR 27), some (vR 46), some (vI i), some (vD r), none, none, none] [] M
  refine gw_aload_n hc (dc_at lc25_d 3 1651 (.aload_n 2) 1 rfl) rfl ?_
  refine gw_callV hc (d' := 2) [] [] vm_X8_workload rfl kl_177 (dc_at lc25_d 4 1652 (.invokevirtual 177) 3 rfl) (by rw [hR]; exact ⟨Nat.le_of_ble_eq_true rfl, Nat.le_of_ble_eq_true rfl⟩) (by rw [hR]; exact ⟨hn, hk⟩) rfl (Nat.le_of_ble_eq_true rfl) (c_X8_workload hM.gj (by rw [hM.ens]; exact hs) (fun x zx => ?_))
  have he : (if M 27 2 = 0 then FP.dconst0 else wlD (bzA (lt0 M) (M 27 2).toNat 0 0) (M 27 2)) = r := by rw [zr, hM.bz, hM.ens]
  rw [he]
  change GW ev t_law g (n + 1) (k + 6) 1655 [some (vR 47), some (vR 0), some (vR 27), some (vR 46), some (vI i), some (vD r), none, none, none] [vD r] (tkM (upM M 27 0 0) x)
  refine gw_dstore hc (by decide) (dc_at lc25_d 5 1655 (.dstore 7) 2 rfl) ?_
  change GW ev t_law g (n + 1) (k + 6) 1657 [some (vR 47), some (vR 0), some (vR 27), some (vR 46), some (vI i), some (vD r), none, some (vD r), none] [] (tkM (upM M 27 0 0) x)
  refine gw_dload hc (dc_at lc25_d 6 1657 (.dload 5) 2 rfl) rfl ?_
  refine gw_dload hc (dc_at lc25_d 7 1659 (.dload 7) 2 rfl) rfl ?_
  refine gw_dcmp hc hr (dc_at lc25_d 8 1661 (.dcmp .l) 1 rfl) ?_
  refine gw_if_eq (to := 1683) hc ⟨by omega, by omega⟩ (by decide) (dc_at lc25_d 9 1662 (.ifCond .eq 21) 3 rfl) (fun _ => ?_) (fun q => absurd rfl q)
  refine gw_goto (to := 1700) hc (by decide) (dc_at lc25_d 20 1683 (.goto 17) 3 rfl) ?_
  exact GW.sub (LL i) (by simp [lsub, LL]) (h _ (hM.of rfl rfl rfl rfl rfl rfl rfl rfl rfl rfl rfl rfl rfl rfl rfl rfl rfl rfl rfl rfl rfl rfl rfl rfl rfl rfl rfl rfl rfl rfl rfl rfl))
theorem lc26 (hc : GC ev t_law g) (hX : GX ev g N xs) (hR : gR g = room_1) (hM : RR M) {i : Int} (h0 : 0 ≤ i) (h1 : i + 5 ≤ N) (hn : n + 1 ≤ 1085) (hk : k + 6 ≤ 12157) (h : ∀ M2 : Mem, RR M2 → GW ev t_law g (n + 1) (k + 6) 1700 (LL i) [] M2) : GW ev t_law g n k 1686 (LL i) [] M := by
  refine GW.wid (n' := n + 1) (k' := k + 6) (Nat.le_add_right _ _) (Nat.le_add_right _ _) ?_
  obtain ⟨x1, x2, x3, x4⟩ := hM.2.2.2.1
  refine gw_aload_n hc (dc_at lc26_d 0 1686 (.aload_n 1) 1 rfl) rfl ?_
  refine gw_callV hc (d' := 7) [] [] vm_X7_digest rfl kl_178 (dc_at lc26_d 1 1687 (.invokevirtual 178) 3 rfl) (by rw [hR]; exact ⟨Nat.le_of_ble_eq_true rfl, Nat.le_of_ble_eq_true rfl⟩) (by rw [hR]; exact ⟨hn, hk⟩) rfl (Nat.le_of_ble_eq_true rfl) (c_X7_digest hM.1.1 hM.2.1.1 hM.2.2.1.1 hM.gi hM.hi x1 x2 (fun r zr => ?_))
  change GW ev t_law g (n + 1) (k + 6) 1690 (LL i) [vL r] M
  refine gw_aload_n hc (dc_at lc26_d 2 1690 (.aload_n 2) 1 rfl) rfl ?_
  refine gw_callV hc (d' := 6) [] [vL r] vm_X8_digest rfl kl_182 (dc_at lc26_d 3 1691 (.invokevirtual 182) 3 rfl) (by rw [hR]; exact ⟨Nat.le_of_ble_eq_true rfl, Nat.le_of_ble_eq_true rfl⟩) (by rw [hR]; exact ⟨hn, hk⟩) rfl (Nat.le_of_ble_eq_true rfl) (c_X8_digest hM.tj hM.sj hM.kj hM.gj (by rw [x3]; exact x1) (fun i a b => by rw [x4]; rw [x3] at b; exact x2 i a b) (fun x zx => ?_))
  change GW ev t_law g (n + 1) (k + 6) 1694 (LL i) [vL (dgR M), vL r] (upM (tkM (upM M 27 0 0) x) 27 26 (dgR M))
  refine gw_lcmp hc (by rw [zr]; exact hM.dg) (dc_at lc26_d 4 1694 (.lcmp) 1 rfl) ?_
  exact gw_if_eq (to := 1700) hc ⟨by omega, by omega⟩ (by decide) (dc_at lc26_d 5 1695 (.ifCond .eq 5) 3 rfl) (fun _ => h _ (hM.of rfl rfl rfl rfl rfl rfl rfl rfl rfl rfl rfl rfl rfl rfl rfl rfl rfl rfl rfl rfl rfl rfl rfl rfl rfl rfl rfl rfl rfl rfl rfl rfl)) (fun q => absurd rfl q)
theorem law_loop (hc : GC ev t_law g) (hX : GX ev g N xs) (hR : gR g = room_1) (he : ∀ (L : Lo) (M : Mem), GW ev t_law g 1085 12157 1707 L [vI 1] M) : ∀ (f : Nat) (i : Int) (n k : Nat) (M : Mem), RR M → 0 ≤ i → i ≤ N → (N : Int) < i + 5 * (f + 1) → n + f ≤ 1085 → k + 6 * f ≤ 12157 → GW ev t_law g n k 23 (LL i) [] M := by
  have hN := hX.2.2.2
  have hstep : ∀ (i : Int) (n k : Nat) (M : Mem), GW ev t_law g n k 23 (LL (i + 5)) [] M → GW ev t_law g n k 1700 (LL i) [] M := fun i n k M hh => by
    refine gw_iinc hc (by decide) (dc_at lcE_d 0 1700 (.iinc 4 5) 3 rfl) rfl ?_
    change GW ev t_law g n k 1703 (LL (i + 5)) [] M
    exact gw_goto (to := 23) hc (by decide) (dc_at lcE_d 1 1703 (.goto (-1680)) 3 rfl) hh
  have hhead : ∀ (i : Int) (n k : Nat) (M : Mem), 0 ≤ i → i ≤ N → n ≤ 1085 → k ≤ 12157 → (i + 5 ≤ N → GW ev t_law g n k 32 (LL i) [] M) → GW ev t_law g n k 23 (LL i) [] M := fun i n k M i0 i1 hn hk hh => by
    refine gw_iload hc (dc_at lcH_d 0 23 (.iload 4) 2 rfl) rfl ?_
    refine gw_aload_n hc (dc_at lcH_d 1 25 (.aload_n 0) 1 rfl) rfl ?_
    refine gw_slen hc hX (dc_at lcH_d 2 26 (.arraylength) 1 rfl) ?_
    refine gw_iconst hc (dc_at lcH_d 3 27 (.iconst 5) 1 rfl) ?_
    refine gw_isub hc (dc_at lcH_d 4 28 (.isub) 1 rfl) ?_
    refine gw_icmp_gt (to := 1706) hc ⟨by omega, by omega⟩ ⟨by omega, by omega⟩ (by decide) (dc_at lcH_d 5 29 (.if_icmp .gt 1677) 3 rfl) (fun q => ?_) (fun q => hh (by omega))
    refine gw_iconst hc (dc_at lcE_d 2 1706 (.iconst 1) 1 rfl) ?_
    exact GW.wid hn hk (he (LL i) M)
  intro f
  induction f with
  | zero => intro i n k M hM i0 i1 hf hn hk; exact hhead i n k M i0 i1 (by omega) (by omega) (fun q => by omega)
  | succ f ih =>
    intro i n k M hM i0 i1 hf hn hk
    refine hhead i n k M i0 i1 (by omega) (by omega) (fun h1 => ?_)
    have hn1 : n + 1 ≤ 1085 := by omega
    have hk1 : k + 6 ≤ 12157 := by omega
    have hh : ∀ M2 : Mem, RR M2 → GW ev t_law g (n + 1) (k + 6) 1700 (LL i) [] M2 := fun M2 hM2 => hstep i _ _ M2 (ih (i + 5) (n + 1) (k + 6) M2 hM2 (by omega) (by omega) (by omega) (by omega) (by omega))
    refine gw_aload_n hc (dc_at lcH_d 6 32 (.aload_n 0) 1 rfl) rfl ?_
    refine gw_iload hc (dc_at lcH_d 7 33 (.iload 4) 2 rfl) rfl ?_
    refine gw_sld hc hX i0 (by omega) (dc_at lcH_d 8 35 (.iaload) 1 rfl) ?_
    refine gw_bipush hc (by decide) (by decide) (dc_at lcH_d 9 36 (.bipush 31) 2 rfl) ?_
    refine gw_iand hc (dc_at lcH_d 10 38 (.iand) 1 rfl) ?_
    have hv : Inr (iandI (xs i.toNat).toInt 31) := tI_inr _
    generalize iandI (xs i.toNat).toInt 31 = v at hv ⊢
    by_cases hin : 0 ≤ v ∧ v ≤ 26
    · have h27 : v = 0 ∨ v = 1 ∨ v = 2 ∨ v = 3 ∨ v = 4 ∨ v = 5 ∨ v = 6 ∨ v = 7 ∨ v = 8 ∨ v = 9 ∨ v = 10 ∨ v = 11 ∨ v = 12 ∨ v = 13 ∨ v = 14 ∨ v = 15 ∨ v = 16 ∨ v = 17 ∨ v = 18 ∨ v = 19 ∨ v = 20 ∨ v = 21 ∨ v = 22 ∨ v = 23 ∨ v = 24 ∨ v = 25 ∨ v = 26 := by omega
      rcases h27 with rfl | rfl | rfl | rfl | rfl | rfl | rfl | rfl | rfl | rfl | rfl | rfl | rfl | rfl | rfl | rfl | rfl | rfl | rfl | rfl | rfl | rfl | rfl | rfl | rfl | rfl | rfl
      · exact gw_tswIn (to := 160) hc hv (by omega) (by omega) rfl (by decide) (dc_at lcH_d 11 39 (.tableswitch 1661 0 26 #[121, 134, 202, 282, 338, 351, 364, 420, 500, 568, 636, 728, 741, 833, 889, 902, 958, 1026, 1094, 1174, 1242, 1298, 1390, 1458, 1538, 1606, 1647]) 121 rfl) (lc0 hc hX hR hM i0 h1 hn1 hk1 hh)
      · exact gw_tswIn (to := 173) hc hv (by omega) (by omega) rfl (by decide) (dc_at lcH_d 11 39 (.tableswitch 1661 0 26 #[121, 134, 202, 282, 338, 351, 364, 420, 500, 568, 636, 728, 741, 833, 889, 902, 958, 1026, 1094, 1174, 1242, 1298, 1390, 1458, 1538, 1606, 1647]) 121 rfl) (lc1 hc hX hR hM i0 h1 hn1 hk1 hh)
      · exact gw_tswIn (to := 241) hc hv (by omega) (by omega) rfl (by decide) (dc_at lcH_d 11 39 (.tableswitch 1661 0 26 #[121, 134, 202, 282, 338, 351, 364, 420, 500, 568, 636, 728, 741, 833, 889, 902, 958, 1026, 1094, 1174, 1242, 1298, 1390, 1458, 1538, 1606, 1647]) 121 rfl) (lc2 hc hX hR hM i0 h1 hn1 hk1 hh)
      · exact gw_tswIn (to := 321) hc hv (by omega) (by omega) rfl (by decide) (dc_at lcH_d 11 39 (.tableswitch 1661 0 26 #[121, 134, 202, 282, 338, 351, 364, 420, 500, 568, 636, 728, 741, 833, 889, 902, 958, 1026, 1094, 1174, 1242, 1298, 1390, 1458, 1538, 1606, 1647]) 121 rfl) (lc3 hc hX hR hM i0 h1 hn1 hk1 hh)
      · exact gw_tswIn (to := 377) hc hv (by omega) (by omega) rfl (by decide) (dc_at lcH_d 11 39 (.tableswitch 1661 0 26 #[121, 134, 202, 282, 338, 351, 364, 420, 500, 568, 636, 728, 741, 833, 889, 902, 958, 1026, 1094, 1174, 1242, 1298, 1390, 1458, 1538, 1606, 1647]) 121 rfl) (lc4 hc hX hR hM i0 h1 hn1 hk1 hh)
      · exact gw_tswIn (to := 390) hc hv (by omega) (by omega) rfl (by decide) (dc_at lcH_d 11 39 (.tableswitch 1661 0 26 #[121, 134, 202, 282, 338, 351, 364, 420, 500, 568, 636, 728, 741, 833, 889, 902, 958, 1026, 1094, 1174, 1242, 1298, 1390, 1458, 1538, 1606, 1647]) 121 rfl) (lc5 hc hX hR hM i0 h1 hn1 hk1 hh)
      · exact gw_tswIn (to := 403) hc hv (by omega) (by omega) rfl (by decide) (dc_at lcH_d 11 39 (.tableswitch 1661 0 26 #[121, 134, 202, 282, 338, 351, 364, 420, 500, 568, 636, 728, 741, 833, 889, 902, 958, 1026, 1094, 1174, 1242, 1298, 1390, 1458, 1538, 1606, 1647]) 121 rfl) (lc6 hc hX hR hM i0 h1 hn1 hk1 hh)
      · exact gw_tswIn (to := 459) hc hv (by omega) (by omega) rfl (by decide) (dc_at lcH_d 11 39 (.tableswitch 1661 0 26 #[121, 134, 202, 282, 338, 351, 364, 420, 500, 568, 636, 728, 741, 833, 889, 902, 958, 1026, 1094, 1174, 1242, 1298, 1390, 1458, 1538, 1606, 1647]) 121 rfl) (lc7 hc hX hR hM i0 h1 hn1 hk1 hh)
      · exact gw_tswIn (to := 539) hc hv (by omega) (by omega) rfl (by decide) (dc_at lcH_d 11 39 (.tableswitch 1661 0 26 #[121, 134, 202, 282, 338, 351, 364, 420, 500, 568, 636, 728, 741, 833, 889, 902, 958, 1026, 1094, 1174, 1242, 1298, 1390, 1458, 1538, 1606, 1647]) 121 rfl) (lc8 hc hX hR hM i0 h1 hn1 hk1 hh)
      · exact gw_tswIn (to := 607) hc hv (by omega) (by omega) rfl (by decide) (dc_at lcH_d 11 39 (.tableswitch 1661 0 26 #[121, 134, 202, 282, 338, 351, 364, 420, 500, 568, 636, 728, 741, 833, 889, 902, 958, 1026, 1094, 1174, 1242, 1298, 1390, 1458, 1538, 1606, 1647]) 121 rfl) (lc9 hc hX hR hM i0 h1 hn1 hk1 hh)
      · exact gw_tswIn (to := 675) hc hv (by omega) (by omega) rfl (by decide) (dc_at lcH_d 11 39 (.tableswitch 1661 0 26 #[121, 134, 202, 282, 338, 351, 364, 420, 500, 568, 636, 728, 741, 833, 889, 902, 958, 1026, 1094, 1174, 1242, 1298, 1390, 1458, 1538, 1606, 1647]) 121 rfl) (lc10 hc hX hR hM i0 h1 hn1 hk1 hh)
      · exact gw_tswIn (to := 767) hc hv (by omega) (by omega) rfl (by decide) (dc_at lcH_d 11 39 (.tableswitch 1661 0 26 #[121, 134, 202, 282, 338, 351, 364, 420, 500, 568, 636, 728, 741, 833, 889, 902, 958, 1026, 1094, 1174, 1242, 1298, 1390, 1458, 1538, 1606, 1647]) 121 rfl) (lc11 hc hX hR hM i0 h1 hn1 hk1 hh)
      · exact gw_tswIn (to := 780) hc hv (by omega) (by omega) rfl (by decide) (dc_at lcH_d 11 39 (.tableswitch 1661 0 26 #[121, 134, 202, 282, 338, 351, 364, 420, 500, 568, 636, 728, 741, 833, 889, 902, 958, 1026, 1094, 1174, 1242, 1298, 1390, 1458, 1538, 1606, 1647]) 121 rfl) (lc12 hc hX hR hM i0 h1 hn1 hk1 hh)
      · exact gw_tswIn (to := 872) hc hv (by omega) (by omega) rfl (by decide) (dc_at lcH_d 11 39 (.tableswitch 1661 0 26 #[121, 134, 202, 282, 338, 351, 364, 420, 500, 568, 636, 728, 741, 833, 889, 902, 958, 1026, 1094, 1174, 1242, 1298, 1390, 1458, 1538, 1606, 1647]) 121 rfl) (lc13 hc hX hR hM i0 h1 hn1 hk1 hh)
      · exact gw_tswIn (to := 928) hc hv (by omega) (by omega) rfl (by decide) (dc_at lcH_d 11 39 (.tableswitch 1661 0 26 #[121, 134, 202, 282, 338, 351, 364, 420, 500, 568, 636, 728, 741, 833, 889, 902, 958, 1026, 1094, 1174, 1242, 1298, 1390, 1458, 1538, 1606, 1647]) 121 rfl) (lc14 hc hX hR hM i0 h1 hn1 hk1 hh)
      · exact gw_tswIn (to := 941) hc hv (by omega) (by omega) rfl (by decide) (dc_at lcH_d 11 39 (.tableswitch 1661 0 26 #[121, 134, 202, 282, 338, 351, 364, 420, 500, 568, 636, 728, 741, 833, 889, 902, 958, 1026, 1094, 1174, 1242, 1298, 1390, 1458, 1538, 1606, 1647]) 121 rfl) (lc15 hc hX hR hM i0 h1 hn1 hk1 hh)
      · exact gw_tswIn (to := 997) hc hv (by omega) (by omega) rfl (by decide) (dc_at lcH_d 11 39 (.tableswitch 1661 0 26 #[121, 134, 202, 282, 338, 351, 364, 420, 500, 568, 636, 728, 741, 833, 889, 902, 958, 1026, 1094, 1174, 1242, 1298, 1390, 1458, 1538, 1606, 1647]) 121 rfl) (lc16 hc hX hR hM i0 h1 hn1 hk1 hh)
      · exact gw_tswIn (to := 1065) hc hv (by omega) (by omega) rfl (by decide) (dc_at lcH_d 11 39 (.tableswitch 1661 0 26 #[121, 134, 202, 282, 338, 351, 364, 420, 500, 568, 636, 728, 741, 833, 889, 902, 958, 1026, 1094, 1174, 1242, 1298, 1390, 1458, 1538, 1606, 1647]) 121 rfl) (lc17 hc hX hR hM i0 h1 hn1 hk1 hh)
      · exact gw_tswIn (to := 1133) hc hv (by omega) (by omega) rfl (by decide) (dc_at lcH_d 11 39 (.tableswitch 1661 0 26 #[121, 134, 202, 282, 338, 351, 364, 420, 500, 568, 636, 728, 741, 833, 889, 902, 958, 1026, 1094, 1174, 1242, 1298, 1390, 1458, 1538, 1606, 1647]) 121 rfl) (lc18 hc hX hR hM i0 h1 hn1 hk1 hh)
      · exact gw_tswIn (to := 1213) hc hv (by omega) (by omega) rfl (by decide) (dc_at lcH_d 11 39 (.tableswitch 1661 0 26 #[121, 134, 202, 282, 338, 351, 364, 420, 500, 568, 636, 728, 741, 833, 889, 902, 958, 1026, 1094, 1174, 1242, 1298, 1390, 1458, 1538, 1606, 1647]) 121 rfl) (lc19 hc hX hR hM i0 h1 hn1 hk1 hh)
      · exact gw_tswIn (to := 1281) hc hv (by omega) (by omega) rfl (by decide) (dc_at lcH_d 11 39 (.tableswitch 1661 0 26 #[121, 134, 202, 282, 338, 351, 364, 420, 500, 568, 636, 728, 741, 833, 889, 902, 958, 1026, 1094, 1174, 1242, 1298, 1390, 1458, 1538, 1606, 1647]) 121 rfl) (lc20 hc hX hR hM i0 h1 hn1 hk1 hh)
      · exact gw_tswIn (to := 1337) hc hv (by omega) (by omega) rfl (by decide) (dc_at lcH_d 11 39 (.tableswitch 1661 0 26 #[121, 134, 202, 282, 338, 351, 364, 420, 500, 568, 636, 728, 741, 833, 889, 902, 958, 1026, 1094, 1174, 1242, 1298, 1390, 1458, 1538, 1606, 1647]) 121 rfl) (lc21 hc hX hR hM i0 h1 hn1 hk1 hh)
      · exact gw_tswIn (to := 1429) hc hv (by omega) (by omega) rfl (by decide) (dc_at lcH_d 11 39 (.tableswitch 1661 0 26 #[121, 134, 202, 282, 338, 351, 364, 420, 500, 568, 636, 728, 741, 833, 889, 902, 958, 1026, 1094, 1174, 1242, 1298, 1390, 1458, 1538, 1606, 1647]) 121 rfl) (lc22 hc hX hR hM i0 h1 hn1 hk1 hh)
      · exact gw_tswIn (to := 1497) hc hv (by omega) (by omega) rfl (by decide) (dc_at lcH_d 11 39 (.tableswitch 1661 0 26 #[121, 134, 202, 282, 338, 351, 364, 420, 500, 568, 636, 728, 741, 833, 889, 902, 958, 1026, 1094, 1174, 1242, 1298, 1390, 1458, 1538, 1606, 1647]) 121 rfl) (lc23 hc hX hR hM i0 h1 hn1 hk1 hh)
      · exact gw_tswIn (to := 1577) hc hv (by omega) (by omega) rfl (by decide) (dc_at lcH_d 11 39 (.tableswitch 1661 0 26 #[121, 134, 202, 282, 338, 351, 364, 420, 500, 568, 636, 728, 741, 833, 889, 902, 958, 1026, 1094, 1174, 1242, 1298, 1390, 1458, 1538, 1606, 1647]) 121 rfl) (lc24 hc hX hR hM i0 h1 hn1 hk1 hh)
      · exact gw_tswIn (to := 1645) hc hv (by omega) (by omega) rfl (by decide) (dc_at lcH_d 11 39 (.tableswitch 1661 0 26 #[121, 134, 202, 282, 338, 351, 364, 420, 500, 568, 636, 728, 741, 833, 889, 902, 958, 1026, 1094, 1174, 1242, 1298, 1390, 1458, 1538, 1606, 1647]) 121 rfl) (lc25 hc hX hR hM i0 h1 hn1 hk1 hh)
      · exact gw_tswIn (to := 1686) hc hv (by omega) (by omega) rfl (by decide) (dc_at lcH_d 11 39 (.tableswitch 1661 0 26 #[121, 134, 202, 282, 338, 351, 364, 420, 500, 568, 636, 728, 741, 833, 889, 902, 958, 1026, 1094, 1174, 1242, 1298, 1390, 1458, 1538, 1606, 1647]) 121 rfl) (lc26 hc hX hR hM i0 h1 hn1 hk1 hh)
    · refine gw_tswOut (to := 1700) hc hv (by omega) (by decide) (dc_at lcH_d 11 39 (.tableswitch 1661 0 26 #[121, 134, 202, 282, 338, 351, 364, 420, 500, 568, 636, 728, 741, 833, 889, 902, 958, 1026, 1094, 1174, 1242, 1298, 1390, 1458, 1538, 1606, 1647]) 121 rfl) ?_
      exact GW.wid (Nat.le_add_right n 1) (Nat.le_add_right k 6) (hh M hM)
end LAW3
