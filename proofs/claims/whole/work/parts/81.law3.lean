section LAW2
variable {ev : Ev} {g : GT} {N : Nat} {xs : Nat → Int32} {n k : Nat} {M : Mem}
theorem lc0 (hc : GC ev t_law g) (hX : GX ev g N xs) (hR : gR g = room_1) (hM : RR M) {i : Int} (h0 : 0 ≤ i) (h1 : i + 5 ≤ N) (hn : n + 1 ≤ 1085) (hk : k + 6 ≤ 12157) (h : ∀ M2 : Mem, RR M2 → GW ev t_law g (n + 1) (k + 6) 1700 (LL i) [] M2) : GW ev t_law g n k 160 (LL i) [] M := by
  refine GW.wid (n' := n + 1) (k' := k + 6) (Nat.le_add_right _ _) (Nat.le_add_right _ _) ?_
  obtain ⟨A, h7, h8⟩ := (op_begin (ev := ev) hM).v
  refine gw_aload_n hc (dc_at lc0_d 0 160 (.aload_n 1) 1 rfl) rfl ?_
  refine gw_callV hc (d' := 2) [] [] vm_X7_begin rfl kl_83 (dc_at lc0_d 1 161 (.invokevirtual 83) 3 rfl) (by rw [hR]; exact ⟨Nat.le_of_ble_eq_true rfl, Nat.le_of_ble_eq_true rfl⟩) (by rw [hR]; exact ⟨hn, hk⟩) rfl (Nat.le_of_ble_eq_true rfl) (h7 _ (fun a M1 ia hA => ?_))
  change GW ev t_law g (n + 1) (k + 6) 164 (LL i) [vI a] M1
  refine gw_aload_n hc (dc_at lc0_d 2 164 (.aload_n 2) 1 rfl) rfl ?_
  refine gw_callV hc (d' := 0) [] [vI a] vm_X8_begin rfl kl_87 (dc_at lc0_d 3 165 (.invokevirtual 87) 3 rfl) (by rw [hR]; exact ⟨Nat.le_of_ble_eq_true rfl, Nat.le_of_ble_eq_true rfl⟩) (by rw [hR]; exact ⟨hn, hk⟩) rfl (Nat.le_of_ble_eq_true rfl) (h8 a M1 hA _ (fun M2 hR2 => ?_))
  change GW ev t_law g (n + 1) (k + 6) 168 (LL i) [vI a, vI a] M2
  exact gw_icmp_eq (to := 1700) hc ia ia (by decide) (dc_at lc0_d 4 168 (.if_icmp .eq 1532) 3 rfl) (fun _ => h M2 hR2) (fun q => absurd rfl q)
theorem lc1 (hc : GC ev t_law g) (hX : GX ev g N xs) (hR : gR g = room_1) (hM : RR M) {i : Int} (h0 : 0 ≤ i) (h1 : i + 5 ≤ N) (hn : n + 1 ≤ 1085) (hk : k + 6 ≤ 12157) (h : ∀ M2 : Mem, RR M2 → GW ev t_law g (n + 1) (k + 6) 1700 (LL i) [] M2) : GW ev t_law g n k 173 (LL i) [] M := by
  obtain ⟨kb, kk, A, hkk, hW, hV⟩ := op_setHeight (ev := ev) hM (scI_in xs i 1) (scI_in xs i 2)
  refine gw_aload_n hc (dc_at lc1_d 0 173 (.aload_n 1) 1 rfl) rfl ?_
  refine law_arg hc hX lc1_a33 (by omega) (by omega) rfl rfl ?_
  refine law_arg hc hX lc1_a38 (by omega) (by omega) rfl rfl ?_
  refine gw_aload_n hc (dc_at lc1_d 11 186 (.aload_n 3) 1 rfl) rfl ?_
  refine gw_callW (kb := kb) hc (d' := 9) [vR 0, vI (scI xs i 1), vI (scI xs i 2), vR 46] [] sw_L_setHeight kl_88 (dc_at lc1_d 12 187 (.invokestatic 88) 3 rfl) (by rw [hR]; exact ⟨Nat.le_of_ble_eq_true rfl, Nat.le_of_ble_eq_true rfl⟩) (by rw [hR]; exact ⟨by show n + _ ≤ 1085; exact Nat.le_trans (Nat.add_le_add_left (mc_le kb) n) hn, by show k + _ ≤ 12157; exact Nat.le_trans (Nat.add_le_add_left (ms_le kb) k) hk⟩) rfl (Nat.le_of_ble_eq_true rfl) (hW _ (fun M1 hA => ?_))
  refine GW.wid (n' := n + 1) (k' := k + 6) (Nat.add_le_add_left (mc_le kb) n) (Nat.add_le_add_left (ms_le kb) k) ?_
  refine gw_istore hc (by decide) (dc_at lc1_d 13 190 (.istore 5) 2 rfl) ?_
  change GW ev t_law g (n + 1) (k + 6) 192 (LK i kk) [] M1
  refine gw_aload_n hc (dc_at lc1_d 14 192 (.aload_n 2) 1 rfl) rfl ?_
  refine law_arg hc hX lc1_a47 (by omega) (by omega) rfl rfl ?_
  refine law_arg hc hX lc1_a52 (by omega) (by omega) rfl rfl ?_
  refine gw_callV hc (d' := 2) [vI (scI xs i 1), vI (scI xs i 2)] [] vm_X8_setHeight rfl kl_93 (dc_at lc1_d 25 205 (.invokevirtual 93) 3 rfl) (by rw [hR]; exact ⟨Nat.le_of_ble_eq_true rfl, Nat.le_of_ble_eq_true rfl⟩) (by rw [hR]; exact ⟨hn, hk⟩) rfl (Nat.le_of_ble_eq_true rfl) (hV M1 hA _ (fun b M2 hb ht he hR2 => ?_))
  change GW ev t_law g (n + 1) (k + 6) 208 (LK i kk) [vI b] M2
  exact law_tail hc hR lc1_t (by decide) hb hkk ht he hn hk (h M2 hR2)
theorem lc2 (hc : GC ev t_law g) (hX : GX ev g N xs) (hR : gR g = room_1) (hM : RR M) {i : Int} (h0 : 0 ≤ i) (h1 : i + 5 ≤ N) (hn : n + 1 ≤ 1085) (hk : k + 6 ≤ 12157) (h : ∀ M2 : Mem, RR M2 → GW ev t_law g (n + 1) (k + 6) 1700 (LL i) [] M2) : GW ev t_law g n k 241 (LL i) [] M := by
  obtain ⟨kb, kk, A, hkk, hW, hV⟩ := op_hill (ev := ev) hM (scI_in xs i 1) (scI_in xs i 2) (scI_in xs i 3)
  refine gw_aload_n hc (dc_at lc2_d 0 241 (.aload_n 1) 1 rfl) rfl ?_
  refine law_arg hc hX lc2_a78 (by omega) (by omega) rfl rfl ?_
  refine law_arg hc hX lc2_a83 (by omega) (by omega) rfl rfl ?_
  refine law_arg hc hX lc2_a88 (by omega) (by omega) rfl rfl ?_
  refine gw_aload_n hc (dc_at lc2_d 16 260 (.aload_n 3) 1 rfl) rfl ?_
  refine gw_callW (kb := kb) hc (d' := 9) [vR 0, vI (scI xs i 1), vI (scI xs i 2), vI (scI xs i 3), vR 46] [] sw_L_hill kl_97 (dc_at lc2_d 17 261 (.invokestatic 97) 3 rfl) (by rw [hR]; exact ⟨Nat.le_of_ble_eq_true rfl, Nat.le_of_ble_eq_true rfl⟩) (by rw [hR]; exact ⟨by show n + _ ≤ 1085; exact Nat.le_trans (Nat.add_le_add_left (mc_le kb) n) hn, by show k + _ ≤ 12157; exact Nat.le_trans (Nat.add_le_add_left (ms_le kb) k) hk⟩) rfl (Nat.le_of_ble_eq_true rfl) (hW _ (fun M1 hA => ?_))
  refine GW.wid (n' := n + 1) (k' := k + 6) (Nat.add_le_add_left (mc_le kb) n) (Nat.add_le_add_left (ms_le kb) k) ?_
  refine gw_istore hc (by decide) (dc_at lc2_d 18 264 (.istore 5) 2 rfl) ?_
  change GW ev t_law g (n + 1) (k + 6) 266 (LK i kk) [] M1
  refine gw_aload_n hc (dc_at lc2_d 19 266 (.aload_n 2) 1 rfl) rfl ?_
  refine law_arg hc hX lc2_a97 (by omega) (by omega) rfl rfl ?_
  refine law_arg hc hX lc2_a102 (by omega) (by omega) rfl rfl ?_
  refine law_arg hc hX lc2_a107 (by omega) (by omega) rfl rfl ?_
  refine gw_callV hc (d' := 2) [vI (scI xs i 1), vI (scI xs i 2), vI (scI xs i 3)] [] vm_X8_hill rfl kl_100 (dc_at lc2_d 35 285 (.invokevirtual 100) 3 rfl) (by rw [hR]; exact ⟨Nat.le_of_ble_eq_true rfl, Nat.le_of_ble_eq_true rfl⟩) (by rw [hR]; exact ⟨hn, hk⟩) rfl (Nat.le_of_ble_eq_true rfl) (hV M1 hA _ (fun b M2 hb ht he hR2 => ?_))
  change GW ev t_law g (n + 1) (k + 6) 288 (LK i kk) [vI b] M2
  exact law_tail hc hR lc2_t (by decide) hb hkk ht he hn hk (h M2 hR2)
theorem lc3 (hc : GC ev t_law g) (hX : GX ev g N xs) (hR : gR g = room_1) (hM : RR M) {i : Int} (h0 : 0 ≤ i) (h1 : i + 5 ≤ N) (hn : n + 1 ≤ 1085) (hk : k + 6 ≤ 12157) (h : ∀ M2 : Mem, RR M2 → GW ev t_law g (n + 1) (k + 6) 1700 (LL i) [] M2) : GW ev t_law g n k 321 (LL i) [] M := by
  obtain ⟨kb, kk, A, hkk, hW, hV⟩ := op_append (ev := ev) hM (scI_in xs i 1)
  refine gw_aload_n hc (dc_at lc3_d 0 321 (.aload_n 1) 1 rfl) rfl ?_
  refine law_arg hc hX lc3_a133 (by omega) (by omega) rfl rfl ?_
  refine gw_aload_n hc (dc_at lc3_d 6 328 (.aload_n 3) 1 rfl) rfl ?_
  refine gw_callW (kb := kb) hc (d' := 9) [vR 0, vI (scI xs i 1), vR 46] [] sw_L_append kl_101 (dc_at lc3_d 7 329 (.invokestatic 101) 3 rfl) (by rw [hR]; exact ⟨Nat.le_of_ble_eq_true rfl, Nat.le_of_ble_eq_true rfl⟩) (by rw [hR]; exact ⟨by show n + _ ≤ 1085; exact Nat.le_trans (Nat.add_le_add_left (mc_le kb) n) hn, by show k + _ ≤ 12157; exact Nat.le_trans (Nat.add_le_add_left (ms_le kb) k) hk⟩) rfl (Nat.le_of_ble_eq_true rfl) (hW _ (fun M1 hA => ?_))
  refine GW.wid (n' := n + 1) (k' := k + 6) (Nat.add_le_add_left (mc_le kb) n) (Nat.add_le_add_left (ms_le kb) k) ?_
  refine gw_istore hc (by decide) (dc_at lc3_d 8 332 (.istore 5) 2 rfl) ?_
  change GW ev t_law g (n + 1) (k + 6) 334 (LK i kk) [] M1
  refine gw_aload_n hc (dc_at lc3_d 9 334 (.aload_n 2) 1 rfl) rfl ?_
  refine law_arg hc hX lc3_a142 (by omega) (by omega) rfl rfl ?_
  refine gw_callV hc (d' := 1) [vI (scI xs i 1)] [] vm_X8_append rfl kl_104 (dc_at lc3_d 15 341 (.invokevirtual 104) 3 rfl) (by rw [hR]; exact ⟨Nat.le_of_ble_eq_true rfl, Nat.le_of_ble_eq_true rfl⟩) (by rw [hR]; exact ⟨hn, hk⟩) rfl (Nat.le_of_ble_eq_true rfl) (hV M1 hA _ (fun b M2 hb ht he hR2 => ?_))
  change GW ev t_law g (n + 1) (k + 6) 344 (LK i kk) [vI b] M2
  exact law_tail hc hR lc3_t (by decide) hb hkk ht he hn hk (h M2 hR2)
theorem lc4 (hc : GC ev t_law g) (hX : GX ev g N xs) (hR : gR g = room_1) (hM : RR M) {i : Int} (h0 : 0 ≤ i) (h1 : i + 5 ≤ N) (hn : n + 1 ≤ 1085) (hk : k + 6 ≤ 12157) (h : ∀ M2 : Mem, RR M2 → GW ev t_law g (n + 1) (k + 6) 1700 (LL i) [] M2) : GW ev t_law g n k 377 (LL i) [] M := by
  refine GW.wid (n' := n + 1) (k' := k + 6) (Nat.le_add_right _ _) (Nat.le_add_right _ _) ?_
  obtain ⟨A, h7, h8⟩ := (op_clearBuffer (ev := ev) hM).v
  refine gw_aload_n hc (dc_at lc4_d 0 377 (.aload_n 1) 1 rfl) rfl ?_
  refine gw_callV hc (d' := 1) [] [] vm_X7_clearBuffer rfl kl_105 (dc_at lc4_d 1 378 (.invokevirtual 105) 3 rfl) (by rw [hR]; exact ⟨Nat.le_of_ble_eq_true rfl, Nat.le_of_ble_eq_true rfl⟩) (by rw [hR]; exact ⟨hn, hk⟩) rfl (Nat.le_of_ble_eq_true rfl) (h7 _ (fun a M1 ia hA => ?_))
  change GW ev t_law g (n + 1) (k + 6) 381 (LL i) [vI a] M1
  refine gw_aload_n hc (dc_at lc4_d 2 381 (.aload_n 2) 1 rfl) rfl ?_
  refine gw_callV hc (d' := 0) [] [vI a] vm_X8_clearBuffer rfl kl_108 (dc_at lc4_d 3 382 (.invokevirtual 108) 3 rfl) (by rw [hR]; exact ⟨Nat.le_of_ble_eq_true rfl, Nat.le_of_ble_eq_true rfl⟩) (by rw [hR]; exact ⟨hn, hk⟩) rfl (Nat.le_of_ble_eq_true rfl) (h8 a M1 hA _ (fun M2 hR2 => ?_))
  change GW ev t_law g (n + 1) (k + 6) 385 (LL i) [vI a, vI a] M2
  exact gw_icmp_eq (to := 1700) hc ia ia (by decide) (dc_at lc4_d 4 385 (.if_icmp .eq 1315) 3 rfl) (fun _ => h M2 hR2) (fun q => absurd rfl q)
theorem lc5 (hc : GC ev t_law g) (hX : GX ev g N xs) (hR : gR g = room_1) (hM : RR M) {i : Int} (h0 : 0 ≤ i) (h1 : i + 5 ≤ N) (hn : n + 1 ≤ 1085) (hk : k + 6 ≤ 12157) (h : ∀ M2 : Mem, RR M2 → GW ev t_law g (n + 1) (k + 6) 1700 (LL i) [] M2) : GW ev t_law g n k 390 (LL i) [] M := by
  refine GW.wid (n' := n + 1) (k' := k + 6) (Nat.le_add_right _ _) (Nat.le_add_right _ _) ?_
  obtain ⟨A, h7, h8⟩ := (op_firstError (ev := ev) hM).v
  refine gw_aload_n hc (dc_at lc5_d 0 390 (.aload_n 1) 1 rfl) rfl ?_
  refine gw_callV hc (d' := 4) [] [] vm_X7_firstError rfl kl_109 (dc_at lc5_d 1 391 (.invokevirtual 109) 3 rfl) (by rw [hR]; exact ⟨Nat.le_of_ble_eq_true rfl, Nat.le_of_ble_eq_true rfl⟩) (by rw [hR]; exact ⟨hn, hk⟩) rfl (Nat.le_of_ble_eq_true rfl) (h7 _ (fun a M1 ia hA => ?_))
  change GW ev t_law g (n + 1) (k + 6) 394 (LL i) [vI a] M1
  refine gw_aload_n hc (dc_at lc5_d 2 394 (.aload_n 2) 1 rfl) rfl ?_
  refine gw_callV hc (d' := 3) [] [vI a] vm_X8_firstError rfl kl_112 (dc_at lc5_d 3 395 (.invokevirtual 112) 3 rfl) (by rw [hR]; exact ⟨Nat.le_of_ble_eq_true rfl, Nat.le_of_ble_eq_true rfl⟩) (by rw [hR]; exact ⟨hn, hk⟩) rfl (Nat.le_of_ble_eq_true rfl) (h8 a M1 hA _ (fun M2 hR2 => ?_))
  change GW ev t_law g (n + 1) (k + 6) 398 (LL i) [vI a, vI a] M2
  exact gw_icmp_eq (to := 1700) hc ia ia (by decide) (dc_at lc5_d 4 398 (.if_icmp .eq 1302) 3 rfl) (fun _ => h M2 hR2) (fun q => absurd rfl q)
theorem lc6 (hc : GC ev t_law g) (hX : GX ev g N xs) (hR : gR g = room_1) (hM : RR M) {i : Int} (h0 : 0 ≤ i) (h1 : i + 5 ≤ N) (hn : n + 1 ≤ 1085) (hk : k + 6 ≤ 12157) (h : ∀ M2 : Mem, RR M2 → GW ev t_law g (n + 1) (k + 6) 1700 (LL i) [] M2) : GW ev t_law g n k 403 (LL i) [] M := by
  obtain ⟨kb, kk, A, hkk, hW, hV⟩ := op_load (ev := ev) hM (scI_in xs i 1)
  refine gw_aload_n hc (dc_at lc6_d 0 403 (.aload_n 1) 1 rfl) rfl ?_
  refine law_arg hc hX lc6_a182 (by omega) (by omega) rfl rfl ?_
  refine gw_aload_n hc (dc_at lc6_d 6 410 (.aload_n 3) 1 rfl) rfl ?_
  refine gw_callW (kb := kb) hc (d' := 9) [vR 0, vI (scI xs i 1), vR 46] [] sw_L_load kl_113 (dc_at lc6_d 7 411 (.invokestatic 113) 3 rfl) (by rw [hR]; exact ⟨Nat.le_of_ble_eq_true rfl, Nat.le_of_ble_eq_true rfl⟩) (by rw [hR]; exact ⟨by show n + _ ≤ 1085; exact Nat.le_trans (Nat.add_le_add_left (mc_le kb) n) hn, by show k + _ ≤ 12157; exact Nat.le_trans (Nat.add_le_add_left (ms_le kb) k) hk⟩) rfl (Nat.le_of_ble_eq_true rfl) (hW _ (fun M1 hA => ?_))
  refine GW.wid (n' := n + 1) (k' := k + 6) (Nat.add_le_add_left (mc_le kb) n) (Nat.add_le_add_left (ms_le kb) k) ?_
  refine gw_istore hc (by decide) (dc_at lc6_d 8 414 (.istore 5) 2 rfl) ?_
  change GW ev t_law g (n + 1) (k + 6) 416 (LK i kk) [] M1
  refine gw_aload_n hc (dc_at lc6_d 9 416 (.aload_n 2) 1 rfl) rfl ?_
  refine law_arg hc hX lc6_a191 (by omega) (by omega) rfl rfl ?_
  refine gw_callV hc (d' := 3) [vI (scI xs i 1)] [] vm_X8_load rfl kl_115 (dc_at lc6_d 15 423 (.invokevirtual 115) 3 rfl) (by rw [hR]; exact ⟨Nat.le_of_ble_eq_true rfl, Nat.le_of_ble_eq_true rfl⟩) (by rw [hR]; exact ⟨hn, hk⟩) rfl (Nat.le_of_ble_eq_true rfl) (hV M1 hA _ (fun b M2 hb ht he hR2 => ?_))
  change GW ev t_law g (n + 1) (k + 6) 426 (LK i kk) [vI b] M2
  exact law_tail hc hR lc6_t (by decide) hb hkk ht he hn hk (h M2 hR2)
theorem lc7 (hc : GC ev t_law g) (hX : GX ev g N xs) (hR : gR g = room_1) (hM : RR M) {i : Int} (h0 : 0 ≤ i) (h1 : i + 5 ≤ N) (hn : n + 1 ≤ 1085) (hk : k + 6 ≤ 12157) (h : ∀ M2 : Mem, RR M2 → GW ev t_law g (n + 1) (k + 6) 1700 (LL i) [] M2) : GW ev t_law g n k 459 (LL i) [] M := by
  obtain ⟨kb, kk, A, hkk, hW, hV⟩ := op_addStation (ev := ev) hM (scI_in xs i 1) (scI_in xs i 2) (scI_in xs i 3)
  refine gw_aload_n hc (dc_at lc7_d 0 459 (.aload_n 1) 1 rfl) rfl ?_
  refine law_arg hc hX lc7_a217 (by omega) (by omega) rfl rfl ?_
  refine law_arg hc hX lc7_a222 (by omega) (by omega) rfl rfl ?_
  refine law_arg hc hX lc7_a227 (by omega) (by omega) rfl rfl ?_
  refine gw_aload_n hc (dc_at lc7_d 16 478 (.aload_n 3) 1 rfl) rfl ?_
  refine gw_callW (kb := kb) hc (d' := 9) [vR 0, vI (scI xs i 1), vI (scI xs i 2), vI (scI xs i 3), vR 46] [] sw_L_addStation kl_116 (dc_at lc7_d 17 479 (.invokestatic 116) 3 rfl) (by rw [hR]; exact ⟨Nat.le_of_ble_eq_true rfl, Nat.le_of_ble_eq_true rfl⟩) (by rw [hR]; exact ⟨by show n + _ ≤ 1085; exact Nat.le_trans (Nat.add_le_add_left (mc_le kb) n) hn, by show k + _ ≤ 12157; exact Nat.le_trans (Nat.add_le_add_left (ms_le kb) k) hk⟩) rfl (Nat.le_of_ble_eq_true rfl) (hW _ (fun M1 hA => ?_))
  refine GW.wid (n' := n + 1) (k' := k + 6) (Nat.add_le_add_left (mc_le kb) n) (Nat.add_le_add_left (ms_le kb) k) ?_
  refine gw_istore hc (by decide) (dc_at lc7_d 18 482 (.istore 5) 2 rfl) ?_
  change GW ev t_law g (n + 1) (k + 6) 484 (LK i kk) [] M1
  refine gw_aload_n hc (dc_at lc7_d 19 484 (.aload_n 2) 1 rfl) rfl ?_
  refine law_arg hc hX lc7_a236 (by omega) (by omega) rfl rfl ?_
  refine law_arg hc hX lc7_a241 (by omega) (by omega) rfl rfl ?_
  refine law_arg hc hX lc7_a246 (by omega) (by omega) rfl rfl ?_
  refine gw_callV hc (d' := 2) [vI (scI xs i 1), vI (scI xs i 2), vI (scI xs i 3)] [] vm_X8_addStation rfl kl_118 (dc_at lc7_d 35 503 (.invokevirtual 118) 3 rfl) (by rw [hR]; exact ⟨Nat.le_of_ble_eq_true rfl, Nat.le_of_ble_eq_true rfl⟩) (by rw [hR]; exact ⟨hn, hk⟩) rfl (Nat.le_of_ble_eq_true rfl) (hV M1 hA _ (fun b M2 hb ht he hR2 => ?_))
  change GW ev t_law g (n + 1) (k + 6) 506 (LK i kk) [vI b] M2
  exact law_tail hc hR lc7_t (by decide) hb hkk ht he hn hk (h M2 hR2)
theorem lc8 (hc : GC ev t_law g) (hX : GX ev g N xs) (hR : gR g = room_1) (hM : RR M) {i : Int} (h0 : 0 ≤ i) (h1 : i + 5 ≤ N) (hn : n + 1 ≤ 1085) (hk : k + 6 ≤ 12157) (h : ∀ M2 : Mem, RR M2 → GW ev t_law g (n + 1) (k + 6) 1700 (LL i) [] M2) : GW ev t_law g n k 539 (LL i) [] M := by
  obtain ⟨kb, kk, A, hkk, hW, hV⟩ := op_setMast (ev := ev) hM (scI_in xs i 1) (scI_in xs i 2)
  refine gw_aload_n hc (dc_at lc8_d 0 539 (.aload_n 1) 1 rfl) rfl ?_
  refine law_arg hc hX lc8_a272 (by omega) (by omega) rfl rfl ?_
  refine law_arg hc hX lc8_a277 (by omega) (by omega) rfl rfl ?_
  refine gw_aload_n hc (dc_at lc8_d 11 552 (.aload_n 3) 1 rfl) rfl ?_
  refine gw_callW (kb := kb) hc (d' := 9) [vR 0, vI (scI xs i 1), vI (scI xs i 2), vR 46] [] sw_L_setMast kl_119 (dc_at lc8_d 12 553 (.invokestatic 119) 3 rfl) (by rw [hR]; exact ⟨Nat.le_of_ble_eq_true rfl, Nat.le_of_ble_eq_true rfl⟩) (by rw [hR]; exact ⟨by show n + _ ≤ 1085; exact Nat.le_trans (Nat.add_le_add_left (mc_le kb) n) hn, by show k + _ ≤ 12157; exact Nat.le_trans (Nat.add_le_add_left (ms_le kb) k) hk⟩) rfl (Nat.le_of_ble_eq_true rfl) (hW _ (fun M1 hA => ?_))
  refine GW.wid (n' := n + 1) (k' := k + 6) (Nat.add_le_add_left (mc_le kb) n) (Nat.add_le_add_left (ms_le kb) k) ?_
  refine gw_istore hc (by decide) (dc_at lc8_d 13 556 (.istore 5) 2 rfl) ?_
  change GW ev t_law g (n + 1) (k + 6) 558 (LK i kk) [] M1
  refine gw_aload_n hc (dc_at lc8_d 14 558 (.aload_n 2) 1 rfl) rfl ?_
  refine law_arg hc hX lc8_a286 (by omega) (by omega) rfl rfl ?_
  refine law_arg hc hX lc8_a291 (by omega) (by omega) rfl rfl ?_
  refine gw_callV hc (d' := 2) [vI (scI xs i 1), vI (scI xs i 2)] [] vm_X8_setMast rfl kl_121 (dc_at lc8_d 25 571 (.invokevirtual 121) 3 rfl) (by rw [hR]; exact ⟨Nat.le_of_ble_eq_true rfl, Nat.le_of_ble_eq_true rfl⟩) (by rw [hR]; exact ⟨hn, hk⟩) rfl (Nat.le_of_ble_eq_true rfl) (hV M1 hA _ (fun b M2 hb ht he hR2 => ?_))
  change GW ev t_law g (n + 1) (k + 6) 574 (LK i kk) [vI b] M2
  exact law_tail hc hR lc8_t (by decide) hb hkk ht he hn hk (h M2 hR2)
theorem lc9 (hc : GC ev t_law g) (hX : GX ev g N xs) (hR : gR g = room_1) (hM : RR M) {i : Int} (h0 : 0 ≤ i) (h1 : i + 5 ≤ N) (hn : n + 1 ≤ 1085) (hk : k + 6 ≤ 12157) (h : ∀ M2 : Mem, RR M2 → GW ev t_law g (n + 1) (k + 6) 1700 (LL i) [] M2) : GW ev t_law g n k 607 (LL i) [] M := by
  obtain ⟨kb, kk, A, hkk, hW, hV⟩ := op_lend (ev := ev) hM (scI_in xs i 1) (scI_in xs i 2)
  refine gw_aload_n hc (dc_at lc9_d 0 607 (.aload_n 1) 1 rfl) rfl ?_
  refine law_arg hc hX lc9_a317 (by omega) (by omega) rfl rfl ?_
  refine law_arg hc hX lc9_a322 (by omega) (by omega) rfl rfl ?_
  refine gw_aload_n hc (dc_at lc9_d 11 620 (.aload_n 3) 1 rfl) rfl ?_
  refine gw_callW (kb := kb) hc (d' := 9) [vR 0, vI (scI xs i 1), vI (scI xs i 2), vR 46] [] sw_L_lend kl_122 (dc_at lc9_d 12 621 (.invokestatic 122) 3 rfl) (by rw [hR]; exact ⟨Nat.le_of_ble_eq_true rfl, Nat.le_of_ble_eq_true rfl⟩) (by rw [hR]; exact ⟨by show n + _ ≤ 1085; exact Nat.le_trans (Nat.add_le_add_left (mc_le kb) n) hn, by show k + _ ≤ 12157; exact Nat.le_trans (Nat.add_le_add_left (ms_le kb) k) hk⟩) rfl (Nat.le_of_ble_eq_true rfl) (hW _ (fun M1 hA => ?_))
  refine GW.wid (n' := n + 1) (k' := k + 6) (Nat.add_le_add_left (mc_le kb) n) (Nat.add_le_add_left (ms_le kb) k) ?_
  refine gw_istore hc (by decide) (dc_at lc9_d 13 624 (.istore 5) 2 rfl) ?_
  change GW ev t_law g (n + 1) (k + 6) 626 (LK i kk) [] M1
  refine gw_aload_n hc (dc_at lc9_d 14 626 (.aload_n 2) 1 rfl) rfl ?_
  refine law_arg hc hX lc9_a331 (by omega) (by omega) rfl rfl ?_
  refine law_arg hc hX lc9_a336 (by omega) (by omega) rfl rfl ?_
  refine gw_callV hc (d' := 2) [vI (scI xs i 1), vI (scI xs i 2)] [] vm_X8_lend rfl kl_124 (dc_at lc9_d 25 639 (.invokevirtual 124) 3 rfl) (by rw [hR]; exact ⟨Nat.le_of_ble_eq_true rfl, Nat.le_of_ble_eq_true rfl⟩) (by rw [hR]; exact ⟨hn, hk⟩) rfl (Nat.le_of_ble_eq_true rfl) (hV M1 hA _ (fun b M2 hb ht he hR2 => ?_))
  change GW ev t_law g (n + 1) (k + 6) 642 (LK i kk) [vI b] M2
  exact law_tail hc hR lc9_t (by decide) hb hkk ht he hn hk (h M2 hR2)
theorem lc10 (hc : GC ev t_law g) (hX : GX ev g N xs) (hR : gR g = room_1) (hM : RR M) {i : Int} (h0 : 0 ≤ i) (h1 : i + 5 ≤ N) (hn : n + 1 ≤ 1085) (hk : k + 6 ≤ 12157) (h : ∀ M2 : Mem, RR M2 → GW ev t_law g (n + 1) (k + 6) 1700 (LL i) [] M2) : GW ev t_law g n k 675 (LL i) [] M := by
  obtain ⟨kb, kk, A, hkk, hW, hV⟩ := op_addCloud (ev := ev) hM (scI_in xs i 1) (scI_in xs i 2) (scI_in xs i 3) (scI_in xs i 4)
  refine gw_aload_n hc (dc_at lc10_d 0 675 (.aload_n 1) 1 rfl) rfl ?_
  refine law_arg hc hX lc10_a362 (by omega) (by omega) rfl rfl ?_
  refine law_arg hc hX lc10_a367 (by omega) (by omega) rfl rfl ?_
  refine law_arg hc hX lc10_a372 (by omega) (by omega) rfl rfl ?_
  refine law_arg hc hX lc10_a377 (by omega) (by omega) rfl rfl ?_
  refine gw_aload_n hc (dc_at lc10_d 21 700 (.aload_n 3) 1 rfl) rfl ?_
  refine gw_callW (kb := kb) hc (d' := 9) [vR 0, vI (scI xs i 1), vI (scI xs i 2), vI (scI xs i 3), vI (scI xs i 4), vR 46] [] sw_L_addCloud kl_125 (dc_at lc10_d 22 701 (.invokestatic 125) 3 rfl) (by rw [hR]; exact ⟨Nat.le_of_ble_eq_true rfl, Nat.le_of_ble_eq_true rfl⟩) (by rw [hR]; exact ⟨by show n + _ ≤ 1085; exact Nat.le_trans (Nat.add_le_add_left (mc_le kb) n) hn, by show k + _ ≤ 12157; exact Nat.le_trans (Nat.add_le_add_left (ms_le kb) k) hk⟩) rfl (Nat.le_of_ble_eq_true rfl) (hW _ (fun M1 hA => ?_))
  refine GW.wid (n' := n + 1) (k' := k + 6) (Nat.add_le_add_left (mc_le kb) n) (Nat.add_le_add_left (ms_le kb) k) ?_
  refine gw_istore hc (by decide) (dc_at lc10_d 23 704 (.istore 5) 2 rfl) ?_
  change GW ev t_law g (n + 1) (k + 6) 706 (LK i kk) [] M1
  refine gw_aload_n hc (dc_at lc10_d 24 706 (.aload_n 2) 1 rfl) rfl ?_
  refine law_arg hc hX lc10_a386 (by omega) (by omega) rfl rfl ?_
  refine law_arg hc hX lc10_a391 (by omega) (by omega) rfl rfl ?_
  refine law_arg hc hX lc10_a396 (by omega) (by omega) rfl rfl ?_
  refine law_arg hc hX lc10_a401 (by omega) (by omega) rfl rfl ?_
  refine gw_callV hc (d' := 2) [vI (scI xs i 1), vI (scI xs i 2), vI (scI xs i 3), vI (scI xs i 4)] [] vm_X8_addCloud rfl kl_128 (dc_at lc10_d 45 731 (.invokevirtual 128) 3 rfl) (by rw [hR]; exact ⟨Nat.le_of_ble_eq_true rfl, Nat.le_of_ble_eq_true rfl⟩) (by rw [hR]; exact ⟨hn, hk⟩) rfl (Nat.le_of_ble_eq_true rfl) (hV M1 hA _ (fun b M2 hb ht he hR2 => ?_))
  change GW ev t_law g (n + 1) (k + 6) 734 (LK i kk) [vI b] M2
  exact law_tail hc hR lc10_t (by decide) hb hkk ht he hn hk (h M2 hR2)
theorem lc11 (hc : GC ev t_law g) (hX : GX ev g N xs) (hR : gR g = room_1) (hM : RR M) {i : Int} (h0 : 0 ≤ i) (h1 : i + 5 ≤ N) (hn : n + 1 ≤ 1085) (hk : k + 6 ≤ 12157) (h : ∀ M2 : Mem, RR M2 → GW ev t_law g (n + 1) (k + 6) 1700 (LL i) [] M2) : GW ev t_law g n k 767 (LL i) [] M := by
  refine GW.wid (n' := n + 1) (k' := k + 6) (Nat.le_add_right _ _) (Nat.le_add_right _ _) ?_
  obtain ⟨A, h7, h8⟩ := (op_clearClouds (ev := ev) hM).v
  refine gw_aload_n hc (dc_at lc11_d 0 767 (.aload_n 1) 1 rfl) rfl ?_
  refine gw_callV hc (d' := 1) [] [] vm_X7_clearClouds rfl kl_129 (dc_at lc11_d 1 768 (.invokevirtual 129) 3 rfl) (by rw [hR]; exact ⟨Nat.le_of_ble_eq_true rfl, Nat.le_of_ble_eq_true rfl⟩) (by rw [hR]; exact ⟨hn, hk⟩) rfl (Nat.le_of_ble_eq_true rfl) (h7 _ (fun a M1 ia hA => ?_))
  change GW ev t_law g (n + 1) (k + 6) 771 (LL i) [vI a] M1
  refine gw_aload_n hc (dc_at lc11_d 2 771 (.aload_n 2) 1 rfl) rfl ?_
  refine gw_callV hc (d' := 0) [] [vI a] vm_X8_clearClouds rfl kl_132 (dc_at lc11_d 3 772 (.invokevirtual 132) 3 rfl) (by rw [hR]; exact ⟨Nat.le_of_ble_eq_true rfl, Nat.le_of_ble_eq_true rfl⟩) (by rw [hR]; exact ⟨hn, hk⟩) rfl (Nat.le_of_ble_eq_true rfl) (h8 a M1 hA _ (fun M2 hR2 => ?_))
  change GW ev t_law g (n + 1) (k + 6) 775 (LL i) [vI a, vI a] M2
  exact gw_icmp_eq (to := 1700) hc ia ia (by decide) (dc_at lc11_d 4 775 (.if_icmp .eq 925) 3 rfl) (fun _ => h M2 hR2) (fun q => absurd rfl q)
theorem lc12 (hc : GC ev t_law g) (hX : GX ev g N xs) (hR : gR g = room_1) (hM : RR M) {i : Int} (h0 : 0 ≤ i) (h1 : i + 5 ≤ N) (hn : n + 1 ≤ 1085) (hk : k + 6 ≤ 12157) (h : ∀ M2 : Mem, RR M2 → GW ev t_law g (n + 1) (k + 6) 1700 (LL i) [] M2) : GW ev t_law g n k 780 (LL i) [] M := by
  obtain ⟨kb, kk, A, hkk, hW, hV⟩ := op_send (ev := ev) hM (scI_in xs i 1) (scI_in xs i 2) (scI_in xs i 3) (scI_in xs i 4)
  refine gw_aload_n hc (dc_at lc12_d 0 780 (.aload_n 1) 1 rfl) rfl ?_
  refine law_arg hc hX lc12_a434 (by omega) (by omega) rfl rfl ?_
  refine law_arg hc hX lc12_a439 (by omega) (by omega) rfl rfl ?_
  refine law_arg hc hX lc12_a444 (by omega) (by omega) rfl rfl ?_
  refine law_arg hc hX lc12_a449 (by omega) (by omega) rfl rfl ?_
  refine gw_aload_n hc (dc_at lc12_d 21 805 (.aload_n 3) 1 rfl) rfl ?_
  refine gw_callW (kb := kb) hc (d' := 9) [vR 0, vI (scI xs i 1), vI (scI xs i 2), vI (scI xs i 3), vI (scI xs i 4), vR 46] [] sw_L_send kl_133 (dc_at lc12_d 22 806 (.invokestatic 133) 3 rfl) (by rw [hR]; exact ⟨Nat.le_of_ble_eq_true rfl, Nat.le_of_ble_eq_true rfl⟩) (by rw [hR]; exact ⟨by show n + _ ≤ 1085; exact Nat.le_trans (Nat.add_le_add_left (mc_le kb) n) hn, by show k + _ ≤ 12157; exact Nat.le_trans (Nat.add_le_add_left (ms_le kb) k) hk⟩) rfl (Nat.le_of_ble_eq_true rfl) (hW _ (fun M1 hA => ?_))
  refine GW.wid (n' := n + 1) (k' := k + 6) (Nat.add_le_add_left (mc_le kb) n) (Nat.add_le_add_left (ms_le kb) k) ?_
  refine gw_istore hc (by decide) (dc_at lc12_d 23 809 (.istore 5) 2 rfl) ?_
  change GW ev t_law g (n + 1) (k + 6) 811 (LK i kk) [] M1
  refine gw_aload_n hc (dc_at lc12_d 24 811 (.aload_n 2) 1 rfl) rfl ?_
  refine law_arg hc hX lc12_a458 (by omega) (by omega) rfl rfl ?_
  refine law_arg hc hX lc12_a463 (by omega) (by omega) rfl rfl ?_
  refine law_arg hc hX lc12_a468 (by omega) (by omega) rfl rfl ?_
  refine law_arg hc hX lc12_a473 (by omega) (by omega) rfl rfl ?_
  refine gw_callV hc (d' := 8) [vI (scI xs i 1), vI (scI xs i 2), vI (scI xs i 3), vI (scI xs i 4)] [] vm_X8_send rfl kl_135 (dc_at lc12_d 45 836 (.invokevirtual 135) 3 rfl) (by rw [hR]; exact ⟨Nat.le_of_ble_eq_true rfl, Nat.le_of_ble_eq_true rfl⟩) (by rw [hR]; exact ⟨hn, hk⟩) rfl (Nat.le_of_ble_eq_true rfl) (hV M1 hA _ (fun b M2 hb ht he hR2 => ?_))
  change GW ev t_law g (n + 1) (k + 6) 839 (LK i kk) [vI b] M2
  exact law_tail hc hR lc12_t (by decide) hb hkk ht he hn hk (h M2 hR2)
theorem lc13 (hc : GC ev t_law g) (hX : GX ev g N xs) (hR : gR g = room_1) (hM : RR M) {i : Int} (h0 : 0 ≤ i) (h1 : i + 5 ≤ N) (hn : n + 1 ≤ 1085) (hk : k + 6 ≤ 12157) (h : ∀ M2 : Mem, RR M2 → GW ev t_law g (n + 1) (k + 6) 1700 (LL i) [] M2) : GW ev t_law g n k 872 (LL i) [] M := by
  obtain ⟨kb, kk, A, hkk, hW, hV⟩ := op_cancel (ev := ev) hM (scI_in xs i 1)
  refine gw_aload_n hc (dc_at lc13_d 0 872 (.aload_n 1) 1 rfl) rfl ?_
  refine law_arg hc hX lc13_a499 (by omega) (by omega) rfl rfl ?_
  refine gw_aload_n hc (dc_at lc13_d 6 879 (.aload_n 3) 1 rfl) rfl ?_
  refine gw_callW (kb := kb) hc (d' := 9) [vR 0, vI (scI xs i 1), vR 46] [] sw_L_cancel kl_136 (dc_at lc13_d 7 880 (.invokestatic 136) 3 rfl) (by rw [hR]; exact ⟨Nat.le_of_ble_eq_true rfl, Nat.le_of_ble_eq_true rfl⟩) (by rw [hR]; exact ⟨by show n + _ ≤ 1085; exact Nat.le_trans (Nat.add_le_add_left (mc_le kb) n) hn, by show k + _ ≤ 12157; exact Nat.le_trans (Nat.add_le_add_left (ms_le kb) k) hk⟩) rfl (Nat.le_of_ble_eq_true rfl) (hW _ (fun M1 hA => ?_))
  refine GW.wid (n' := n + 1) (k' := k + 6) (Nat.add_le_add_left (mc_le kb) n) (Nat.add_le_add_left (ms_le kb) k) ?_
  refine gw_istore hc (by decide) (dc_at lc13_d 8 883 (.istore 5) 2 rfl) ?_
  change GW ev t_law g (n + 1) (k + 6) 885 (LK i kk) [] M1
  refine gw_aload_n hc (dc_at lc13_d 9 885 (.aload_n 2) 1 rfl) rfl ?_
  refine law_arg hc hX lc13_a508 (by omega) (by omega) rfl rfl ?_
  refine gw_callV hc (d' := 2) [vI (scI xs i 1)] [] vm_X8_cancel rfl kl_138 (dc_at lc13_d 15 892 (.invokevirtual 138) 3 rfl) (by rw [hR]; exact ⟨Nat.le_of_ble_eq_true rfl, Nat.le_of_ble_eq_true rfl⟩) (by rw [hR]; exact ⟨hn, hk⟩) rfl (Nat.le_of_ble_eq_true rfl) (hV M1 hA _ (fun b M2 hb ht he hR2 => ?_))
  change GW ev t_law g (n + 1) (k + 6) 895 (LK i kk) [vI b] M2
  exact law_tail hc hR lc13_t (by decide) hb hkk ht he hn hk (h M2 hR2)
theorem lc14 (hc : GC ev t_law g) (hX : GX ev g N xs) (hR : gR g = room_1) (hM : RR M) {i : Int} (h0 : 0 ≤ i) (h1 : i + 5 ≤ N) (hn : n + 1 ≤ 1085) (hk : k + 6 ≤ 12157) (h : ∀ M2 : Mem, RR M2 → GW ev t_law g (n + 1) (k + 6) 1700 (LL i) [] M2) : GW ev t_law g n k 928 (LL i) [] M := by
  refine GW.wid (n' := n + 1) (k' := k + 6) (Nat.le_add_right _ _) (Nat.le_add_right _ _) ?_
  obtain ⟨A, h7, h8⟩ := op_reorder (ev := ev) hM
  refine gw_aload_n hc (dc_at lc14_d 0 928 (.aload_n 1) 1 rfl) rfl ?_
  refine gw_callV hc (d' := 7) [] [] vm_X7_reorder rfl kl_139 (dc_at lc14_d 1 929 (.invokevirtual 139) 3 rfl) (by rw [hR]; exact ⟨Nat.le_of_ble_eq_true rfl, Nat.le_of_ble_eq_true rfl⟩) (by rw [hR]; exact ⟨hn, hk⟩) rfl (Nat.le_of_ble_eq_true rfl) (h7 _ (fun a M1 ia hA => ?_))
  change GW ev t_law g (n + 1) (k + 6) 932 (LL i) [vI a] M1
  refine gw_aload_n hc (dc_at lc14_d 2 932 (.aload_n 2) 1 rfl) rfl ?_
  refine gw_callV hc (d' := 8) [] [vI a] vm_X8_reorder rfl kl_142 (dc_at lc14_d 3 933 (.invokevirtual 142) 3 rfl) (by rw [hR]; exact ⟨Nat.le_of_ble_eq_true rfl, Nat.le_of_ble_eq_true rfl⟩) (by rw [hR]; exact ⟨hn, hk⟩) rfl (Nat.le_of_ble_eq_true rfl) (h8 a M1 hA _ (fun M2 hR2 => ?_))
  change GW ev t_law g (n + 1) (k + 6) 936 (LL i) [vI a, vI a] M2
  exact gw_icmp_eq (to := 1700) hc ia ia (by decide) (dc_at lc14_d 4 936 (.if_icmp .eq 764) 3 rfl) (fun _ => h M2 hR2) (fun q => absurd rfl q)
theorem lc15 (hc : GC ev t_law g) (hX : GX ev g N xs) (hR : gR g = room_1) (hM : RR M) {i : Int} (h0 : 0 ≤ i) (h1 : i + 5 ≤ N) (hn : n + 1 ≤ 1085) (hk : k + 6 ≤ 12157) (h : ∀ M2 : Mem, RR M2 → GW ev t_law g (n + 1) (k + 6) 1700 (LL i) [] M2) : GW ev t_law g n k 941 (LL i) [] M := by
  obtain ⟨kb, kk, A, hkk, hW, hV⟩ := op_count (ev := ev) hM (scI_in xs i 1)
  refine gw_aload_n hc (dc_at lc15_d 0 941 (.aload_n 1) 1 rfl) rfl ?_
  refine law_arg hc hX lc15_a541 (by omega) (by omega) rfl rfl ?_
  refine gw_aload_n hc (dc_at lc15_d 6 948 (.aload_n 3) 1 rfl) rfl ?_
  refine gw_callW (kb := kb) hc (d' := 9) [vR 0, vI (scI xs i 1), vR 46] [] sw_L_count kl_143 (dc_at lc15_d 7 949 (.invokestatic 143) 3 rfl) (by rw [hR]; exact ⟨Nat.le_of_ble_eq_true rfl, Nat.le_of_ble_eq_true rfl⟩) (by rw [hR]; exact ⟨by show n + _ ≤ 1085; exact Nat.le_trans (Nat.add_le_add_left (mc_le kb) n) hn, by show k + _ ≤ 12157; exact Nat.le_trans (Nat.add_le_add_left (ms_le kb) k) hk⟩) rfl (Nat.le_of_ble_eq_true rfl) (hW _ (fun M1 hA => ?_))
  refine GW.wid (n' := n + 1) (k' := k + 6) (Nat.add_le_add_left (mc_le kb) n) (Nat.add_le_add_left (ms_le kb) k) ?_
  refine gw_istore hc (by decide) (dc_at lc15_d 8 952 (.istore 5) 2 rfl) ?_
  change GW ev t_law g (n + 1) (k + 6) 954 (LK i kk) [] M1
  refine gw_aload_n hc (dc_at lc15_d 9 954 (.aload_n 2) 1 rfl) rfl ?_
  refine law_arg hc hX lc15_a550 (by omega) (by omega) rfl rfl ?_
  refine gw_callV hc (d' := 6) [vI (scI xs i 1)] [] vm_X8_count rfl kl_145 (dc_at lc15_d 15 961 (.invokevirtual 145) 3 rfl) (by rw [hR]; exact ⟨Nat.le_of_ble_eq_true rfl, Nat.le_of_ble_eq_true rfl⟩) (by rw [hR]; exact ⟨hn, hk⟩) rfl (Nat.le_of_ble_eq_true rfl) (hV M1 hA _ (fun b M2 hb ht he hR2 => ?_))
  change GW ev t_law g (n + 1) (k + 6) 964 (LK i kk) [vI b] M2
  exact law_tail hc hR lc15_t (by decide) hb hkk ht he hn hk (h M2 hR2)
theorem lc16 (hc : GC ev t_law g) (hX : GX ev g N xs) (hR : gR g = room_1) (hM : RR M) {i : Int} (h0 : 0 ≤ i) (h1 : i + 5 ≤ N) (hn : n + 1 ≤ 1085) (hk : k + 6 ≤ 12157) (h : ∀ M2 : Mem, RR M2 → GW ev t_law g (n + 1) (k + 6) 1700 (LL i) [] M2) : GW ev t_law g n k 997 (LL i) [] M := by
  obtain ⟨kb, kk, A, hkk, hW, hV⟩ := op_station (ev := ev) hM (scI_in xs i 1) (scI_in xs i 2)
  refine gw_aload_n hc (dc_at lc16_d 0 997 (.aload_n 1) 1 rfl) rfl ?_
  refine law_arg hc hX lc16_a576 (by omega) (by omega) rfl rfl ?_
  refine law_arg hc hX lc16_a581 (by omega) (by omega) rfl rfl ?_
  refine gw_aload_n hc (dc_at lc16_d 11 1010 (.aload_n 3) 1 rfl) rfl ?_
  refine gw_callW (kb := kb) hc (d' := 9) [vR 0, vI (scI xs i 1), vI (scI xs i 2), vR 46] [] sw_L_station kl_146 (dc_at lc16_d 12 1011 (.invokestatic 146) 3 rfl) (by rw [hR]; exact ⟨Nat.le_of_ble_eq_true rfl, Nat.le_of_ble_eq_true rfl⟩) (by rw [hR]; exact ⟨by show n + _ ≤ 1085; exact Nat.le_trans (Nat.add_le_add_left (mc_le kb) n) hn, by show k + _ ≤ 12157; exact Nat.le_trans (Nat.add_le_add_left (ms_le kb) k) hk⟩) rfl (Nat.le_of_ble_eq_true rfl) (hW _ (fun M1 hA => ?_))
  refine GW.wid (n' := n + 1) (k' := k + 6) (Nat.add_le_add_left (mc_le kb) n) (Nat.add_le_add_left (ms_le kb) k) ?_
  refine gw_istore hc (by decide) (dc_at lc16_d 13 1014 (.istore 5) 2 rfl) ?_
  change GW ev t_law g (n + 1) (k + 6) 1016 (LK i kk) [] M1
  refine gw_aload_n hc (dc_at lc16_d 14 1016 (.aload_n 2) 1 rfl) rfl ?_
  refine law_arg hc hX lc16_a590 (by omega) (by omega) rfl rfl ?_
  refine law_arg hc hX lc16_a595 (by omega) (by omega) rfl rfl ?_
  refine gw_callV hc (d' := 6) [vI (scI xs i 1), vI (scI xs i 2)] [] vm_X8_station rfl kl_148 (dc_at lc16_d 25 1029 (.invokevirtual 148) 3 rfl) (by rw [hR]; exact ⟨Nat.le_of_ble_eq_true rfl, Nat.le_of_ble_eq_true rfl⟩) (by rw [hR]; exact ⟨hn, hk⟩) rfl (Nat.le_of_ble_eq_true rfl) (hV M1 hA _ (fun b M2 hb ht he hR2 => ?_))
  change GW ev t_law g (n + 1) (k + 6) 1032 (LK i kk) [vI b] M2
  exact law_tail hc hR lc16_t (by decide) hb hkk ht he hn hk (h M2 hR2)
theorem lc17 (hc : GC ev t_law g) (hX : GX ev g N xs) (hR : gR g = room_1) (hM : RR M) {i : Int} (h0 : 0 ≤ i) (h1 : i + 5 ≤ N) (hn : n + 1 ≤ 1085) (hk : k + 6 ≤ 12157) (h : ∀ M2 : Mem, RR M2 → GW ev t_law g (n + 1) (k + 6) 1700 (LL i) [] M2) : GW ev t_law g n k 1065 (LL i) [] M := by
  obtain ⟨kb, kk, A, hkk, hW, hV⟩ := op_blocker (ev := ev) hM (scI_in xs i 1) (scI_in xs i 2)
  refine gw_aload_n hc (dc_at lc17_d 0 1065 (.aload_n 1) 1 rfl) rfl ?_
  refine law_arg hc hX lc17_a621 (by omega) (by omega) rfl rfl ?_
  refine law_arg hc hX lc17_a626 (by omega) (by omega) rfl rfl ?_
  refine gw_aload_n hc (dc_at lc17_d 11 1078 (.aload_n 3) 1 rfl) rfl ?_
  refine gw_callW (kb := kb) hc (d' := 9) [vR 0, vI (scI xs i 1), vI (scI xs i 2), vR 46] [] sw_L_blocker kl_149 (dc_at lc17_d 12 1079 (.invokestatic 149) 3 rfl) (by rw [hR]; exact ⟨Nat.le_of_ble_eq_true rfl, Nat.le_of_ble_eq_true rfl⟩) (by rw [hR]; exact ⟨by show n + _ ≤ 1085; exact Nat.le_trans (Nat.add_le_add_left (mc_le kb) n) hn, by show k + _ ≤ 12157; exact Nat.le_trans (Nat.add_le_add_left (ms_le kb) k) hk⟩) rfl (Nat.le_of_ble_eq_true rfl) (hW _ (fun M1 hA => ?_))
  refine GW.wid (n' := n + 1) (k' := k + 6) (Nat.add_le_add_left (mc_le kb) n) (Nat.add_le_add_left (ms_le kb) k) ?_
  refine gw_istore hc (by decide) (dc_at lc17_d 13 1082 (.istore 5) 2 rfl) ?_
  change GW ev t_law g (n + 1) (k + 6) 1084 (LK i kk) [] M1
  refine gw_aload_n hc (dc_at lc17_d 14 1084 (.aload_n 2) 1 rfl) rfl ?_
  refine law_arg hc hX lc17_a635 (by omega) (by omega) rfl rfl ?_
  refine law_arg hc hX lc17_a640 (by omega) (by omega) rfl rfl ?_
  refine gw_callV hc (d' := 4) [vI (scI xs i 1), vI (scI xs i 2)] [] vm_X8_blocker rfl kl_151 (dc_at lc17_d 25 1097 (.invokevirtual 151) 3 rfl) (by rw [hR]; exact ⟨Nat.le_of_ble_eq_true rfl, Nat.le_of_ble_eq_true rfl⟩) (by rw [hR]; exact ⟨hn, hk⟩) rfl (Nat.le_of_ble_eq_true rfl) (hV M1 hA _ (fun b M2 hb ht he hR2 => ?_))
  change GW ev t_law g (n + 1) (k + 6) 1100 (LK i kk) [vI b] M2
  exact law_tail hc hR lc17_t (by decide) hb hkk ht he hn hk (h M2 hR2)
theorem lc18 (hc : GC ev t_law g) (hX : GX ev g N xs) (hR : gR g = room_1) (hM : RR M) {i : Int} (h0 : 0 ≤ i) (h1 : i + 5 ≤ N) (hn : n + 1 ≤ 1085) (hk : k + 6 ≤ 12157) (h : ∀ M2 : Mem, RR M2 → GW ev t_law g (n + 1) (k + 6) 1700 (LL i) [] M2) : GW ev t_law g n k 1133 (LL i) [] M := by
  obtain ⟨kb, kk, A, hkk, hW, hV⟩ := op_link (ev := ev) hM (scI_in xs i 1) (scI_in xs i 2) (scI_in xs i 3)
  refine gw_aload_n hc (dc_at lc18_d 0 1133 (.aload_n 1) 1 rfl) rfl ?_
  refine law_arg hc hX lc18_a666 (by omega) (by omega) rfl rfl ?_
  refine law_arg hc hX lc18_a671 (by omega) (by omega) rfl rfl ?_
  refine law_arg hc hX lc18_a676 (by omega) (by omega) rfl rfl ?_
  refine gw_aload_n hc (dc_at lc18_d 16 1152 (.aload_n 3) 1 rfl) rfl ?_
  refine gw_callW (kb := kb) hc (d' := 9) [vR 0, vI (scI xs i 1), vI (scI xs i 2), vI (scI xs i 3), vR 46] [] sw_L_link kl_152 (dc_at lc18_d 17 1153 (.invokestatic 152) 3 rfl) (by rw [hR]; exact ⟨Nat.le_of_ble_eq_true rfl, Nat.le_of_ble_eq_true rfl⟩) (by rw [hR]; exact ⟨by show n + _ ≤ 1085; exact Nat.le_trans (Nat.add_le_add_left (mc_le kb) n) hn, by show k + _ ≤ 12157; exact Nat.le_trans (Nat.add_le_add_left (ms_le kb) k) hk⟩) rfl (Nat.le_of_ble_eq_true rfl) (hW _ (fun M1 hA => ?_))
  refine GW.wid (n' := n + 1) (k' := k + 6) (Nat.add_le_add_left (mc_le kb) n) (Nat.add_le_add_left (ms_le kb) k) ?_
  refine gw_istore hc (by decide) (dc_at lc18_d 18 1156 (.istore 5) 2 rfl) ?_
  change GW ev t_law g (n + 1) (k + 6) 1158 (LK i kk) [] M1
  refine gw_aload_n hc (dc_at lc18_d 19 1158 (.aload_n 2) 1 rfl) rfl ?_
  refine law_arg hc hX lc18_a685 (by omega) (by omega) rfl rfl ?_
  refine law_arg hc hX lc18_a690 (by omega) (by omega) rfl rfl ?_
  refine law_arg hc hX lc18_a695 (by omega) (by omega) rfl rfl ?_
  refine gw_callV hc (d' := 5) [vI (scI xs i 1), vI (scI xs i 2), vI (scI xs i 3)] [] vm_X8_link rfl kl_154 (dc_at lc18_d 35 1177 (.invokevirtual 154) 3 rfl) (by rw [hR]; exact ⟨Nat.le_of_ble_eq_true rfl, Nat.le_of_ble_eq_true rfl⟩) (by rw [hR]; exact ⟨hn, hk⟩) rfl (Nat.le_of_ble_eq_true rfl) (hV M1 hA _ (fun b M2 hb ht he hR2 => ?_))
  change GW ev t_law g (n + 1) (k + 6) 1180 (LK i kk) [vI b] M2
  exact law_tail hc hR lc18_t (by decide) hb hkk ht he hn hk (h M2 hR2)
theorem lc19 (hc : GC ev t_law g) (hX : GX ev g N xs) (hR : gR g = room_1) (hM : RR M) {i : Int} (h0 : 0 ≤ i) (h1 : i + 5 ≤ N) (hn : n + 1 ≤ 1085) (hk : k + 6 ≤ 12157) (h : ∀ M2 : Mem, RR M2 → GW ev t_law g (n + 1) (k + 6) 1700 (LL i) [] M2) : GW ev t_law g n k 1213 (LL i) [] M := by
  obtain ⟨kb, kk, A, hkk, hW, hV⟩ := op_mastFor (ev := ev) hM (scI_in xs i 1) (scI_in xs i 2)
  refine gw_aload_n hc (dc_at lc19_d 0 1213 (.aload_n 1) 1 rfl) rfl ?_
  refine law_arg hc hX lc19_a721 (by omega) (by omega) rfl rfl ?_
  refine law_arg hc hX lc19_a726 (by omega) (by omega) rfl rfl ?_
  refine gw_aload_n hc (dc_at lc19_d 11 1226 (.aload_n 3) 1 rfl) rfl ?_
  refine gw_callW (kb := kb) hc (d' := 9) [vR 0, vI (scI xs i 1), vI (scI xs i 2), vR 46] [] sw_L_mastFor kl_155 (dc_at lc19_d 12 1227 (.invokestatic 155) 3 rfl) (by rw [hR]; exact ⟨Nat.le_of_ble_eq_true rfl, Nat.le_of_ble_eq_true rfl⟩) (by rw [hR]; exact ⟨by show n + _ ≤ 1085; exact Nat.le_trans (Nat.add_le_add_left (mc_le kb) n) hn, by show k + _ ≤ 12157; exact Nat.le_trans (Nat.add_le_add_left (ms_le kb) k) hk⟩) rfl (Nat.le_of_ble_eq_true rfl) (hW _ (fun M1 hA => ?_))
  refine GW.wid (n' := n + 1) (k' := k + 6) (Nat.add_le_add_left (mc_le kb) n) (Nat.add_le_add_left (ms_le kb) k) ?_
  refine gw_istore hc (by decide) (dc_at lc19_d 13 1230 (.istore 5) 2 rfl) ?_
  change GW ev t_law g (n + 1) (k + 6) 1232 (LK i kk) [] M1
  refine gw_aload_n hc (dc_at lc19_d 14 1232 (.aload_n 2) 1 rfl) rfl ?_
  refine law_arg hc hX lc19_a735 (by omega) (by omega) rfl rfl ?_
  refine law_arg hc hX lc19_a740 (by omega) (by omega) rfl rfl ?_
  refine gw_callV hc (d' := 4) [vI (scI xs i 1), vI (scI xs i 2)] [] vm_X8_mastFor rfl kl_157 (dc_at lc19_d 25 1245 (.invokevirtual 157) 3 rfl) (by rw [hR]; exact ⟨Nat.le_of_ble_eq_true rfl, Nat.le_of_ble_eq_true rfl⟩) (by rw [hR]; exact ⟨hn, hk⟩) rfl (Nat.le_of_ble_eq_true rfl) (hV M1 hA _ (fun b M2 hb ht he hR2 => ?_))
  change GW ev t_law g (n + 1) (k + 6) 1248 (LK i kk) [vI b] M2
  exact law_tail hc hR lc19_t (by decide) hb hkk ht he hn hk (h M2 hR2)
theorem lc20 (hc : GC ev t_law g) (hX : GX ev g N xs) (hR : gR g = room_1) (hM : RR M) {i : Int} (h0 : 0 ≤ i) (h1 : i + 5 ≤ N) (hn : n + 1 ≤ 1085) (hk : k + 6 ≤ 12157) (h : ∀ M2 : Mem, RR M2 → GW ev t_law g (n + 1) (k + 6) 1700 (LL i) [] M2) : GW ev t_law g n k 1281 (LL i) [] M := by
  obtain ⟨kb, kk, A, hkk, hW, hV⟩ := op_bestCell (ev := ev) hM (scI_in xs i 1)
  refine gw_aload_n hc (dc_at lc20_d 0 1281 (.aload_n 1) 1 rfl) rfl ?_
  refine law_arg hc hX lc20_a766 (by omega) (by omega) rfl rfl ?_
  refine gw_aload_n hc (dc_at lc20_d 6 1288 (.aload_n 3) 1 rfl) rfl ?_
  refine gw_callW (kb := kb) hc (d' := 9) [vR 0, vI (scI xs i 1), vR 46] [] sw_L_bestCell kl_158 (dc_at lc20_d 7 1289 (.invokestatic 158) 3 rfl) (by rw [hR]; exact ⟨Nat.le_of_ble_eq_true rfl, Nat.le_of_ble_eq_true rfl⟩) (by rw [hR]; exact ⟨by show n + _ ≤ 1085; exact Nat.le_trans (Nat.add_le_add_left (mc_le kb) n) hn, by show k + _ ≤ 12157; exact Nat.le_trans (Nat.add_le_add_left (ms_le kb) k) hk⟩) rfl (Nat.le_of_ble_eq_true rfl) (hW _ (fun M1 hA => ?_))
  refine GW.wid (n' := n + 1) (k' := k + 6) (Nat.add_le_add_left (mc_le kb) n) (Nat.add_le_add_left (ms_le kb) k) ?_
  refine gw_istore hc (by decide) (dc_at lc20_d 8 1292 (.istore 5) 2 rfl) ?_
  change GW ev t_law g (n + 1) (k + 6) 1294 (LK i kk) [] M1
  refine gw_aload_n hc (dc_at lc20_d 9 1294 (.aload_n 2) 1 rfl) rfl ?_
  refine law_arg hc hX lc20_a775 (by omega) (by omega) rfl rfl ?_
  refine gw_callV hc (d' := 4) [vI (scI xs i 1)] [] vm_X8_bestCell rfl kl_160 (dc_at lc20_d 15 1301 (.invokevirtual 160) 3 rfl) (by rw [hR]; exact ⟨Nat.le_of_ble_eq_true rfl, Nat.le_of_ble_eq_true rfl⟩) (by rw [hR]; exact ⟨hn, hk⟩) rfl (Nat.le_of_ble_eq_true rfl) (hV M1 hA _ (fun b M2 hb ht he hR2 => ?_))
  change GW ev t_law g (n + 1) (k + 6) 1304 (LK i kk) [vI b] M2
  exact law_tail hc hR lc20_t (by decide) hb hkk ht he hn hk (h M2 hR2)
theorem lc21 (hc : GC ev t_law g) (hX : GX ev g N xs) (hR : gR g = room_1) (hM : RR M) {i : Int} (h0 : 0 ≤ i) (h1 : i + 5 ≤ N) (hn : n + 1 ≤ 1085) (hk : k + 6 ≤ 12157) (h : ∀ M2 : Mem, RR M2 → GW ev t_law g (n + 1) (k + 6) 1700 (LL i) [] M2) : GW ev t_law g n k 1337 (LL i) [] M := by
  obtain ⟨kb, kk, A, hkk, hW, hV⟩ := op_arrival (ev := ev) hM (scI_in xs i 1) (scI_in xs i 2) (scI_in xs i 3) (scI_in xs i 4)
  refine gw_aload_n hc (dc_at lc21_d 0 1337 (.aload_n 1) 1 rfl) rfl ?_
  refine law_arg hc hX lc21_a801 (by omega) (by omega) rfl rfl ?_
  refine law_arg hc hX lc21_a806 (by omega) (by omega) rfl rfl ?_
  refine law_arg hc hX lc21_a811 (by omega) (by omega) rfl rfl ?_
  refine law_arg hc hX lc21_a816 (by omega) (by omega) rfl rfl ?_
  refine gw_aload_n hc (dc_at lc21_d 21 1362 (.aload_n 3) 1 rfl) rfl ?_
  refine gw_callW (kb := kb) hc (d' := 9) [vR 0, vI (scI xs i 1), vI (scI xs i 2), vI (scI xs i 3), vI (scI xs i 4), vR 46] [] sw_L_arrival kl_161 (dc_at lc21_d 22 1363 (.invokestatic 161) 3 rfl) (by rw [hR]; exact ⟨Nat.le_of_ble_eq_true rfl, Nat.le_of_ble_eq_true rfl⟩) (by rw [hR]; exact ⟨by show n + _ ≤ 1085; exact Nat.le_trans (Nat.add_le_add_left (mc_le kb) n) hn, by show k + _ ≤ 12157; exact Nat.le_trans (Nat.add_le_add_left (ms_le kb) k) hk⟩) rfl (Nat.le_of_ble_eq_true rfl) (hW _ (fun M1 hA => ?_))
  refine GW.wid (n' := n + 1) (k' := k + 6) (Nat.add_le_add_left (mc_le kb) n) (Nat.add_le_add_left (ms_le kb) k) ?_
  refine gw_istore hc (by decide) (dc_at lc21_d 23 1366 (.istore 5) 2 rfl) ?_
  change GW ev t_law g (n + 1) (k + 6) 1368 (LK i kk) [] M1
  refine gw_aload_n hc (dc_at lc21_d 24 1368 (.aload_n 2) 1 rfl) rfl ?_
  refine law_arg hc hX lc21_a825 (by omega) (by omega) rfl rfl ?_
  refine law_arg hc hX lc21_a830 (by omega) (by omega) rfl rfl ?_
  refine law_arg hc hX lc21_a835 (by omega) (by omega) rfl rfl ?_
  refine law_arg hc hX lc21_a840 (by omega) (by omega) rfl rfl ?_
  refine gw_callV hc (d' := 7) [vI (scI xs i 1), vI (scI xs i 2), vI (scI xs i 3), vI (scI xs i 4)] [] vm_X8_arrival rfl kl_163 (dc_at lc21_d 45 1393 (.invokevirtual 163) 3 rfl) (by rw [hR]; exact ⟨Nat.le_of_ble_eq_true rfl, Nat.le_of_ble_eq_true rfl⟩) (by rw [hR]; exact ⟨hn, hk⟩) rfl (Nat.le_of_ble_eq_true rfl) (hV M1 hA _ (fun b M2 hb ht he hR2 => ?_))
  change GW ev t_law g (n + 1) (k + 6) 1396 (LK i kk) [vI b] M2
  exact law_tail hc hR lc21_t (by decide) hb hkk ht he hn hk (h M2 hR2)
theorem lc22 (hc : GC ev t_law g) (hX : GX ev g N xs) (hR : gR g = room_1) (hM : RR M) {i : Int} (h0 : 0 ≤ i) (h1 : i + 5 ≤ N) (hn : n + 1 ≤ 1085) (hk : k + 6 ≤ 12157) (h : ∀ M2 : Mem, RR M2 → GW ev t_law g (n + 1) (k + 6) 1700 (LL i) [] M2) : GW ev t_law g n k 1429 (LL i) [] M := by
  obtain ⟨kb, kk, A, hkk, hW, hV⟩ := op_message (ev := ev) hM (scI_in xs i 1) (scI_in xs i 2)
  refine gw_aload_n hc (dc_at lc22_d 0 1429 (.aload_n 1) 1 rfl) rfl ?_
  refine law_arg hc hX lc22_a866 (by omega) (by omega) rfl rfl ?_
  refine law_arg hc hX lc22_a871 (by omega) (by omega) rfl rfl ?_
  refine gw_aload_n hc (dc_at lc22_d 11 1442 (.aload_n 3) 1 rfl) rfl ?_
  refine gw_callW (kb := kb) hc (d' := 9) [vR 0, vI (scI xs i 1), vI (scI xs i 2), vR 46] [] sw_L_message kl_164 (dc_at lc22_d 12 1443 (.invokestatic 164) 3 rfl) (by rw [hR]; exact ⟨Nat.le_of_ble_eq_true rfl, Nat.le_of_ble_eq_true rfl⟩) (by rw [hR]; exact ⟨by show n + _ ≤ 1085; exact Nat.le_trans (Nat.add_le_add_left (mc_le kb) n) hn, by show k + _ ≤ 12157; exact Nat.le_trans (Nat.add_le_add_left (ms_le kb) k) hk⟩) rfl (Nat.le_of_ble_eq_true rfl) (hW _ (fun M1 hA => ?_))
  refine GW.wid (n' := n + 1) (k' := k + 6) (Nat.add_le_add_left (mc_le kb) n) (Nat.add_le_add_left (ms_le kb) k) ?_
  refine gw_istore hc (by decide) (dc_at lc22_d 13 1446 (.istore 5) 2 rfl) ?_
  change GW ev t_law g (n + 1) (k + 6) 1448 (LK i kk) [] M1
  refine gw_aload_n hc (dc_at lc22_d 14 1448 (.aload_n 2) 1 rfl) rfl ?_
  refine law_arg hc hX lc22_a880 (by omega) (by omega) rfl rfl ?_
  refine law_arg hc hX lc22_a885 (by omega) (by omega) rfl rfl ?_
  refine gw_callV hc (d' := 2) [vI (scI xs i 1), vI (scI xs i 2)] [] vm_X8_message rfl kl_166 (dc_at lc22_d 25 1461 (.invokevirtual 166) 3 rfl) (by rw [hR]; exact ⟨Nat.le_of_ble_eq_true rfl, Nat.le_of_ble_eq_true rfl⟩) (by rw [hR]; exact ⟨hn, hk⟩) rfl (Nat.le_of_ble_eq_true rfl) (hV M1 hA _ (fun b M2 hb ht he hR2 => ?_))
  change GW ev t_law g (n + 1) (k + 6) 1464 (LK i kk) [vI b] M2
  exact law_tail hc hR lc22_t (by decide) hb hkk ht he hn hk (h M2 hR2)
theorem lc23 (hc : GC ev t_law g) (hX : GX ev g N xs) (hR : gR g = room_1) (hM : RR M) {i : Int} (h0 : 0 ≤ i) (h1 : i + 5 ≤ N) (hn : n + 1 ≤ 1085) (hk : k + 6 ≤ 12157) (h : ∀ M2 : Mem, RR M2 → GW ev t_law g (n + 1) (k + 6) 1700 (LL i) [] M2) : GW ev t_law g n k 1497 (LL i) [] M := by
  obtain ⟨kb, kk, A, hkk, hW, hV⟩ := op_hop (ev := ev) hM (scI_in xs i 1) (scI_in xs i 2) (scI_in xs i 3)
  refine gw_aload_n hc (dc_at lc23_d 0 1497 (.aload_n 1) 1 rfl) rfl ?_
  refine law_arg hc hX lc23_a911 (by omega) (by omega) rfl rfl ?_
  refine law_arg hc hX lc23_a916 (by omega) (by omega) rfl rfl ?_
  refine law_arg hc hX lc23_a921 (by omega) (by omega) rfl rfl ?_
  refine gw_aload_n hc (dc_at lc23_d 16 1516 (.aload_n 3) 1 rfl) rfl ?_
  refine gw_callW (kb := kb) hc (d' := 9) [vR 0, vI (scI xs i 1), vI (scI xs i 2), vI (scI xs i 3), vR 46] [] sw_L_hop kl_167 (dc_at lc23_d 17 1517 (.invokestatic 167) 3 rfl) (by rw [hR]; exact ⟨Nat.le_of_ble_eq_true rfl, Nat.le_of_ble_eq_true rfl⟩) (by rw [hR]; exact ⟨by show n + _ ≤ 1085; exact Nat.le_trans (Nat.add_le_add_left (mc_le kb) n) hn, by show k + _ ≤ 12157; exact Nat.le_trans (Nat.add_le_add_left (ms_le kb) k) hk⟩) rfl (Nat.le_of_ble_eq_true rfl) (hW _ (fun M1 hA => ?_))
  refine GW.wid (n' := n + 1) (k' := k + 6) (Nat.add_le_add_left (mc_le kb) n) (Nat.add_le_add_left (ms_le kb) k) ?_
  refine gw_istore hc (by decide) (dc_at lc23_d 18 1520 (.istore 5) 2 rfl) ?_
  change GW ev t_law g (n + 1) (k + 6) 1522 (LK i kk) [] M1
  refine gw_aload_n hc (dc_at lc23_d 19 1522 (.aload_n 2) 1 rfl) rfl ?_
  refine law_arg hc hX lc23_a930 (by omega) (by omega) rfl rfl ?_
  refine law_arg hc hX lc23_a935 (by omega) (by omega) rfl rfl ?_
  refine law_arg hc hX lc23_a940 (by omega) (by omega) rfl rfl ?_
  refine gw_callV hc (d' := 2) [vI (scI xs i 1), vI (scI xs i 2), vI (scI xs i 3)] [] vm_X8_hop rfl kl_169 (dc_at lc23_d 35 1541 (.invokevirtual 169) 3 rfl) (by rw [hR]; exact ⟨Nat.le_of_ble_eq_true rfl, Nat.le_of_ble_eq_true rfl⟩) (by rw [hR]; exact ⟨hn, hk⟩) rfl (Nat.le_of_ble_eq_true rfl) (hV M1 hA _ (fun b M2 hb ht he hR2 => ?_))
  change GW ev t_law g (n + 1) (k + 6) 1544 (LK i kk) [vI b] M2
  exact law_tail hc hR lc23_t (by decide) hb hkk ht he hn hk (h M2 hR2)
theorem lc24 (hc : GC ev t_law g) (hX : GX ev g N xs) (hR : gR g = room_1) (hM : RR M) {i : Int} (h0 : 0 ≤ i) (h1 : i + 5 ≤ N) (hn : n + 1 ≤ 1085) (hk : k + 6 ≤ 12157) (h : ∀ M2 : Mem, RR M2 → GW ev t_law g (n + 1) (k + 6) 1700 (LL i) [] M2) : GW ev t_law g n k 1577 (LL i) [] M := by
  obtain ⟨kb, kk, A, hkk, hW, hV⟩ := op_busy (ev := ev) hM (scI_in xs i 1) (scI_in xs i 2)
  refine gw_aload_n hc (dc_at lc24_d 0 1577 (.aload_n 1) 1 rfl) rfl ?_
  refine law_arg hc hX lc24_a966 (by omega) (by omega) rfl rfl ?_
  refine law_arg hc hX lc24_a971 (by omega) (by omega) rfl rfl ?_
  refine gw_aload_n hc (dc_at lc24_d 11 1590 (.aload_n 3) 1 rfl) rfl ?_
  refine gw_callW (kb := kb) hc (d' := 9) [vR 0, vI (scI xs i 1), vI (scI xs i 2), vR 46] [] sw_L_busy kl_170 (dc_at lc24_d 12 1591 (.invokestatic 170) 3 rfl) (by rw [hR]; exact ⟨Nat.le_of_ble_eq_true rfl, Nat.le_of_ble_eq_true rfl⟩) (by rw [hR]; exact ⟨by show n + _ ≤ 1085; exact Nat.le_trans (Nat.add_le_add_left (mc_le kb) n) hn, by show k + _ ≤ 12157; exact Nat.le_trans (Nat.add_le_add_left (ms_le kb) k) hk⟩) rfl (Nat.le_of_ble_eq_true rfl) (hW _ (fun M1 hA => ?_))
  refine GW.wid (n' := n + 1) (k' := k + 6) (Nat.add_le_add_left (mc_le kb) n) (Nat.add_le_add_left (ms_le kb) k) ?_
  refine gw_istore hc (by decide) (dc_at lc24_d 13 1594 (.istore 5) 2 rfl) ?_
  change GW ev t_law g (n + 1) (k + 6) 1596 (LK i kk) [] M1
  refine gw_aload_n hc (dc_at lc24_d 14 1596 (.aload_n 2) 1 rfl) rfl ?_
  refine law_arg hc hX lc24_a980 (by omega) (by omega) rfl rfl ?_
  refine law_arg hc hX lc24_a985 (by omega) (by omega) rfl rfl ?_
  refine gw_callV hc (d' := 2) [vI (scI xs i 1), vI (scI xs i 2)] [] vm_X8_busy rfl kl_172 (dc_at lc24_d 25 1609 (.invokevirtual 172) 3 rfl) (by rw [hR]; exact ⟨Nat.le_of_ble_eq_true rfl, Nat.le_of_ble_eq_true rfl⟩) (by rw [hR]; exact ⟨hn, hk⟩) rfl (Nat.le_of_ble_eq_true rfl) (hV M1 hA _ (fun b M2 hb ht he hR2 => ?_))
  change GW ev t_law g (n + 1) (k + 6) 1612 (LK i kk) [vI b] M2
  exact law_tail hc hR lc24_t (by decide) hb hkk ht he hn hk (h M2 hR2)
end LAW2
