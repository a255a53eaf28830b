section LAW
variable {ev : Ev} {g : GT} {N : Nat} {xs : Nat → Int32} {n k : Nat} {M : Mem}
theorem law_arg (hc : GC ev t_law g) (hX : GX ev g N xs) {p : Nat} {i j : Int} {L : Lo} {st : List AV} (hd : dcB (mC t_law) (argPg p j) = true) (h0 : 0 ≤ i + j) (h1 : i + j < N) (g0 : lget L 0 = some (vR 47)) (g4 : lget L 4 = some (vI i)) (h : GW ev t_law g n k (p + 6) L (vI (scI xs i j) :: st) M) : GW ev t_law g n k p L st M := by
  refine gw_aload_n hc (dc_at hd 0 p (.aload_n 0) 1 rfl) g0 ?_
  refine gw_iload hc (dc_at hd 1 (p + 1) (.iload 4) 2 rfl) g4 ?_
  refine gw_iconst hc (dc_at hd 2 (p + 3) (.iconst j) 1 rfl) ?_
  refine gw_iadd hc (dc_at hd 3 (p + 4) .iadd 1 rfl) ?_
  exact gw_sld hc hX h0 h1 (dc_at hd 4 (p + 5) .iaload 1 rfl) h
theorem law_tail (hc : GC ev t_law g) (hR : gR g = room_1) {p : Nat} {off : Int} {i kk b : Int} (hd : dcB (mC t_law) (tailPg p off) = true) (ht : ((p + 30 : Nat) : Int) + off = ((1700 : Nat) : Int)) (hb : Inr b) (hkk : 0 ≤ kk ∧ kk ≤ 3) (h0 : M 27 0 = kk) (h46 : kk = 0 → M 46 0 = b) (hn : n ≤ 1085) (hk : k ≤ 12157) (h : GW ev t_law g n k 1700 (LL i) [] M) : GW ev t_law g n k p (LK i kk) [vI b] M := by
  have ik : Inr kk := ⟨by omega, by omega⟩
  refine gw_istore hc (by decide) (dc_at hd 0 p (.istore 6) 2 rfl) ?_
  change GW ev t_law g n k (p + 2) [some (vR 47), some (vR 0), some (vR 27), some (vR 46), some (vI i), some (vI kk), some (vI b), none, none] [] M
  refine gw_aload_n hc (dc_at hd 1 (p + 2) (.aload_n 2) 1 rfl) rfl ?_
  refine gw_callV hc (d' := 0) [] [] vm_X8_thrown rfl kl_thrown (dc_at hd 2 (p + 3) (.invokevirtual 94) 3 rfl) (by rw [hR]; exact ⟨Nat.le_of_ble_eq_true rfl, Nat.le_of_ble_eq_true rfl⟩) (by rw [hR]; exact ⟨hn, hk⟩) rfl (Nat.le_of_ble_eq_true rfl) (c_X8_thrown (fun r zr => ?_))
  rw [zr, h0]
  change GW ev t_law g n k (p + 6) [some (vR 47), some (vR 0), some (vR 27), some (vR 46), some (vI i), some (vI kk), some (vI b), none, none] [vI kk] M
  refine gw_iload hc (dc_at hd 3 (p + 6) (.iload 5) 2 rfl) rfl ?_
  refine gw_icmp_eq (to := p + 13) hc ik ik (by show ((p + 8 : Nat) : Int) + 5 = _; omega) (dc_at hd 4 (p + 8) (.if_icmp .eq 5) 3 rfl) (fun _ => ?_) (fun q => absurd rfl q)
  refine gw_iload hc (dc_at hd 7 (p + 13) (.iload 5) 2 rfl) rfl ?_
  refine gw_if_ne (to := p + 30) hc ik (by show ((p + 15 : Nat) : Int) + 15 = _; omega) (dc_at hd 8 (p + 15) (.ifCond .ne 15) 3 rfl) (fun _ => ?_) (fun q => ?_)
  · refine gw_goto (to := 1700) hc ht (dc_at hd 18 (p + 30) (.goto off) 3 rfl) ?_
    exact GW.sub (LL i) (by simp [lsub, LL]) h
  · refine gw_aload_n hc (dc_at hd 9 (p + 18) (.aload_n 3) 1 rfl) rfl ?_
    refine gw_iconst hc (dc_at hd 10 (p + 19) (.iconst 0) 1 rfl) ?_
    refine gw_lald hc (dc_at hd 11 (p + 20) .laload 1 rfl) ?_
    refine gw_iload hc (dc_at hd 12 (p + 21) (.iload 6) 2 rfl) rfl ?_
    refine gw_i2l hc hb (dc_at hd 13 (p + 23) .i2l 1 rfl) ?_
    refine gw_lcmp hc (h46 q) (dc_at hd 14 (p + 24) .lcmp 1 rfl) ?_
    refine gw_if_eq (to := p + 30) hc ⟨by omega, by omega⟩ (by show ((p + 25 : Nat) : Int) + 5 = _; omega) (dc_at hd 15 (p + 25) (.ifCond .eq 5) 3 rfl) (fun _ => ?_) (fun q => absurd rfl q)
    refine gw_goto (to := 1700) hc ht (dc_at hd 18 (p + 30) (.goto off) 3 rfl) ?_
    exact GW.sub (LL i) (by simp [lsub, LL]) h
end LAW
