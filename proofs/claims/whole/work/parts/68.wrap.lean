def dcB (c : ByteArray) (pg : Pg) : Bool := pg.all (fun e => decide (decode c e.1 = .ok (e.2.1, e.2.2)))
theorem dc_at {c : ByteArray} {pg : Pg} (h : dcB c pg = true) (i : Nat) (pc : Nat) (ins : Instr) (len : Nat) (he : pg[i]? = some (pc, ins, len)) : decode c pc = .ok (ins, len) := by
  unfold dcB at h
  have h1 := List.all_eq_true.mp h (pc, ins, len) (List.mem_of_getElem? he)
  simp only [decide_eq_true_eq] at h1
  exact h1
theorem lkL_13 : Cond.classLink RL 13 "java/lang/IndexOutOfBoundsException" ∈ lw_big := bm 629 _ (by decide +kernel) (by decide +kernel)
theorem csL_13 : Cond.castable "java/lang/IndexOutOfBoundsException" "java/lang/IndexOutOfBoundsException" ∈ nwT := by decide +kernel
theorem lkL_15 : Cond.classLink RL 15 "java/lang/IllegalArgumentException" ∈ lw_big := bm 630 _ (by decide +kernel) (by decide +kernel)
theorem csL_15 : Cond.castable "java/lang/IllegalArgumentException" "java/lang/IllegalArgumentException" ∈ nwT := by decide +kernel
theorem lkL_25 : Cond.classLink RL 25 "java/lang/IllegalStateException" ∈ lw_big := bm 746 _ (by decide +kernel) (by decide +kernel)
theorem csL_25 : Cond.castable "java/lang/IllegalStateException" "java/lang/IllegalStateException" ∈ nwT := by decide +kernel
def p_L_setHeight : Pg := [(0, .aload_n 3, 1), (1, .iconst 0, 1), (2, .aload_n 0, 1), (3, .iload_n 1, 1), (4, .iload_n 2, 1), (5, .invokevirtual 7, 3), (8, .i2l, 1), (9, .lastore, 1), (10, .goto 11, 3), (13, .astore 4, 2), (15, .iconst 1, 1), (16, .ireturn, 1), (17, .astore 4, 2), (19, .iconst 2, 1), (20, .ireturn, 1), (21, .iconst 0, 1), (22, .ireturn, 1)]
def t_L_setHeight : MT := (yL_setHeight, cL_setHeight, 5, some .int, [], [])
theorem pd_L_setHeight : dcB (mC t_L_setHeight) p_L_setHeight = true := by decide +kernel
abbrev hh_L_setHeight : List (Nat × Nat × Nat × Nat) := [(0, 10, 13, 13), (0, 10, 17, 15)]
theorem sw_L_setHeight : SWok t_L_setHeight hh_L_setHeight 4 := ⟨bm 627 _ (by decide +kernel) (by decide +kernel), bm 67 _ (by decide +kernel) (by decide +kernel), bm 628 _ (by decide +kernel) (by decide +kernel), by decide +kernel, by decide⟩
theorem hL_L_setHeight : Cond.methodLink RL 7 yX7_setHeight ∈ lw_big := bm 631 _ (by decide +kernel) (by decide +kernel)
theorem w_L_setHeight {ev : Ev} {M : Mem} {Q : Int → Mem → Prop} (a1 a2 : Int) (h : ∀ Q2 : Out → Mem → Prop, (∀ (r : Int) (M2 : Mem), Inr r → Q 0 (upM M2 46 0 r) → Q2 (.inl (some (vI r))) M2) → AM ev false 7 t_X7_setHeight [vR 0, vI a1, vI a2] M Q2) : WM ev false 9 t_L_setHeight hh_L_setHeight [vR 0, vI a1, vI a2, vR 46] M Q := by
  refine WM.of (by decide +kernel) (Nat.le_of_ble_eq_true rfl) (fun g hc hw => ?_)
  have hR := hw.1
  change GW ev t_L_setHeight g 0 0 0 [some (vR 0), some (vI a1), some (vI a2), some (vR 46), none] [] M
  refine gw_aload_n hc (dc_at pd_L_setHeight 0 0 (.aload_n 3) 1 rfl) rfl ?_
  refine gw_iconst hc (dc_at pd_L_setHeight 1 1 (.iconst 0) 1 rfl) ?_
  refine gw_aload_n hc (dc_at pd_L_setHeight 2 2 (.aload_n 0) 1 rfl) rfl ?_
  refine gw_iload_n hc (dc_at pd_L_setHeight 3 3 (.iload_n 1) 1 rfl) rfl ?_
  refine gw_iload_n hc (dc_at pd_L_setHeight 4 4 (.iload_n 2) 1 rfl) rfl ?_
  refine gw_callV hc (d' := 7) [vI a1, vI a2] [vI 0, vR 46] vm_X7_setHeight rfl hL_L_setHeight (dc_at pd_L_setHeight 5 5 (.invokevirtual 7) 3 rfl) (by rw [hR]; exact ⟨Nat.le_of_ble_eq_true rfl, Nat.le_of_ble_eq_true rfl⟩) ⟨Nat.zero_le _, Nat.zero_le _⟩ rfl (Nat.le_of_ble_eq_true rfl) (h _ (fun r M2 hi hq => ?_))
  change GW ev t_L_setHeight g 0 0 8 [some (vR 0), some (vI a1), some (vI a2), some (vR 46), none] [vI r, vI 0, vR 46] M2
  refine gw_i2l hc hi (dc_at pd_L_setHeight 6 8 (.i2l) 1 rfl) ?_
  refine gw_last hc (dc_at pd_L_setHeight 7 9 (.lastore) 1 rfl) ?_
  refine gw_goto (to := 21) hc (by decide) (dc_at pd_L_setHeight 8 10 (.goto 11) 3 rfl) ?_
  refine gw_iconst hc (dc_at pd_L_setHeight 15 21 (.iconst 0) 1 rfl) ?_
  exact gw_iret hc hw rfl hq (dc_at pd_L_setHeight 16 22 (.ireturn) 1 rfl)
theorem w_L_setHeight_x1 {ev : Ev} {M : Mem} {Q : Int → Mem → Prop} (a1 a2 : Int) (h : ∀ Q2 : Out → Mem → Prop, (∀ (M2 : Mem), Q 1 M2 → Q2 (.inr "java/lang/IndexOutOfBoundsException") M2) → AM ev true 7 t_X7_setHeight [vR 0, vI a1, vI a2] M Q2) : WM ev true 9 t_L_setHeight hh_L_setHeight [vR 0, vI a1, vI a2, vR 46] M Q := by
  refine WM.of (by decide +kernel) (Nat.le_of_ble_eq_true rfl) (fun g hc hw => ?_)
  have hR := hw.1
  have hnc := hc.2.2.2.2.2.2
  change GW ev t_L_setHeight g 0 0 0 [some (vR 0), some (vI a1), some (vI a2), some (vR 46), none] [] M
  refine gw_aload_n hc (dc_at pd_L_setHeight 0 0 (.aload_n 3) 1 rfl) rfl ?_
  refine gw_iconst hc (dc_at pd_L_setHeight 1 1 (.iconst 0) 1 rfl) ?_
  refine gw_aload_n hc (dc_at pd_L_setHeight 2 2 (.aload_n 0) 1 rfl) rfl ?_
  refine gw_iload_n hc (dc_at pd_L_setHeight 3 3 (.iload_n 1) 1 rfl) rfl ?_
  refine gw_iload_n hc (dc_at pd_L_setHeight 4 4 (.iload_n 2) 1 rfl) rfl ?_
  refine gw_callVT hc hw (d' := 7) [vI a1, vI a2] [vI 0, vR 46] "java/lang/IndexOutOfBoundsException" vm_X7_setHeight rfl hL_L_setHeight (dc_at pd_L_setHeight 5 5 (.invokevirtual 7) 3 rfl) (by decide) rfl (Nat.le_of_ble_eq_true rfl) [] ⟨0, 10, 13, 13⟩ [⟨0, 10, 17, 15⟩] rfl (fun z hz => by simp at hz) rfl (by decide) lkL_13 csL_13 (gw_ast hc (by decide) (dc_at pd_L_setHeight 9 13 (.astore 4) 2 rfl)) (h _ (fun M2 hq => ⟨rfl, ?_⟩))
  change GW ev t_L_setHeight g 1 6 15 [some (vR 0), some (vI a1), some (vI a2), some (vR 46), none] [] M2
  refine gw_iconst hc (dc_at pd_L_setHeight 10 15 (.iconst 1) 1 rfl) ?_
  exact gw_iret hc hw rfl hq (dc_at pd_L_setHeight 11 16 (.ireturn) 1 rfl)
theorem w_L_setHeight_x2 {ev : Ev} {M : Mem} {Q : Int → Mem → Prop} (a1 a2 : Int) (h : ∀ Q2 : Out → Mem → Prop, (∀ (M2 : Mem), Q 2 M2 → Q2 (.inr "java/lang/IllegalArgumentException") M2) → AM ev true 7 t_X7_setHeight [vR 0, vI a1, vI a2] M Q2) : WM ev true 9 t_L_setHeight hh_L_setHeight [vR 0, vI a1, vI a2, vR 46] M Q := by
  refine WM.of (by decide +kernel) (Nat.le_of_ble_eq_true rfl) (fun g hc hw => ?_)
  have hR := hw.1
  have hnc := hc.2.2.2.2.2.2
  change GW ev t_L_setHeight g 0 0 0 [some (vR 0), some (vI a1), some (vI a2), some (vR 46), none] [] M
  refine gw_aload_n hc (dc_at pd_L_setHeight 0 0 (.aload_n 3) 1 rfl) rfl ?_
  refine gw_iconst hc (dc_at pd_L_setHeight 1 1 (.iconst 0) 1 rfl) ?_
  refine gw_aload_n hc (dc_at pd_L_setHeight 2 2 (.aload_n 0) 1 rfl) rfl ?_
  refine gw_iload_n hc (dc_at pd_L_setHeight 3 3 (.iload_n 1) 1 rfl) rfl ?_
  refine gw_iload_n hc (dc_at pd_L_setHeight 4 4 (.iload_n 2) 1 rfl) rfl ?_
  refine gw_callVT hc hw (d' := 7) [vI a1, vI a2] [vI 0, vR 46] "java/lang/IllegalArgumentException" vm_X7_setHeight rfl hL_L_setHeight (dc_at pd_L_setHeight 5 5 (.invokevirtual 7) 3 rfl) (by decide) rfl (Nat.le_of_ble_eq_true rfl) [⟨0, 10, 13, 13⟩] ⟨0, 10, 17, 15⟩ [] rfl (fun z hz => by
    simp only [List.mem_cons, List.not_mem_nil, or_false] at hz
    rcases hz with rfl
    · exact ⟨by decide, _, lkL_13, hnc.1⟩) rfl (by decide) lkL_15 csL_15 (gw_ast hc (by decide) (dc_at pd_L_setHeight 12 17 (.astore 4) 2 rfl)) (h _ (fun M2 hq => ⟨rfl, ?_⟩))
  change GW ev t_L_setHeight g 1 6 19 [some (vR 0), some (vI a1), some (vI a2), some (vR 46), none] [] M2
  refine gw_iconst hc (dc_at pd_L_setHeight 13 19 (.iconst 2) 1 rfl) ?_
  exact gw_iret hc hw rfl hq (dc_at pd_L_setHeight 14 20 (.ireturn) 1 rfl)
def p_L_hill : Pg := [(0, .aload 4, 2), (2, .iconst 0, 1), (3, .aload_n 0, 1), (4, .iload_n 1, 1), (5, .iload_n 2, 1), (6, .iload_n 3, 1), (7, .invokevirtual 17, 3), (10, .i2l, 1), (11, .lastore, 1), (12, .goto 11, 3), (15, .astore 5, 2), (17, .iconst 1, 1), (18, .ireturn, 1), (19, .astore 5, 2), (21, .iconst 2, 1), (22, .ireturn, 1), (23, .iconst 0, 1), (24, .ireturn, 1)]
def t_L_hill : MT := (yL_hill, cL_hill, 6, some .int, [], [])
theorem pd_L_hill : dcB (mC t_L_hill) p_L_hill = true := by decide +kernel
abbrev hh_L_hill : List (Nat × Nat × Nat × Nat) := [(0, 12, 15, 13), (0, 12, 19, 15)]
theorem sw_L_hill : SWok t_L_hill hh_L_hill 5 := ⟨bm 731 _ (by decide +kernel) (by decide +kernel), bm 67 _ (by decide +kernel) (by decide +kernel), bm 732 _ (by decide +kernel) (by decide +kernel), by decide +kernel, by decide⟩
theorem hL_L_hill : Cond.methodLink RL 17 yX7_hill ∈ lw_big := bm 733 _ (by decide +kernel) (by decide +kernel)
theorem w_L_hill {ev : Ev} {M : Mem} {Q : Int → Mem → Prop} (a1 a2 a3 : Int) (h : ∀ Q2 : Out → Mem → Prop, (∀ (r : Int) (M2 : Mem), Inr r → Q 0 (upM M2 46 0 r) → Q2 (.inl (some (vI r))) M2) → AM ev false 7 t_X7_hill [vR 0, vI a1, vI a2, vI a3] M Q2) : WM ev false 9 t_L_hill hh_L_hill [vR 0, vI a1, vI a2, vI a3, vR 46] M Q := by
  refine WM.of (by decide +kernel) (Nat.le_of_ble_eq_true rfl) (fun g hc hw => ?_)
  have hR := hw.1
  change GW ev t_L_hill g 0 0 0 [some (vR 0), some (vI a1), some (vI a2), some (vI a3), some (vR 46), none] [] M
  refine gw_aload hc (dc_at pd_L_hill 0 0 (.aload 4) 2 rfl) rfl ?_
  refine gw_iconst hc (dc_at pd_L_hill 1 2 (.iconst 0) 1 rfl) ?_
  refine gw_aload_n hc (dc_at pd_L_hill 2 3 (.aload_n 0) 1 rfl) rfl ?_
  refine gw_iload_n hc (dc_at pd_L_hill 3 4 (.iload_n 1) 1 rfl) rfl ?_
  refine gw_iload_n hc (dc_at pd_L_hill 4 5 (.iload_n 2) 1 rfl) rfl ?_
  refine gw_iload_n hc (dc_at pd_L_hill 5 6 (.iload_n 3) 1 rfl) rfl ?_
  refine gw_callV hc (d' := 7) [vI a1, vI a2, vI a3] [vI 0, vR 46] vm_X7_hill rfl hL_L_hill (dc_at pd_L_hill 6 7 (.invokevirtual 17) 3 rfl) (by rw [hR]; exact ⟨Nat.le_of_ble_eq_true rfl, Nat.le_of_ble_eq_true rfl⟩) ⟨Nat.zero_le _, Nat.zero_le _⟩ rfl (Nat.le_of_ble_eq_true rfl) (h _ (fun r M2 hi hq => ?_))
  change GW ev t_L_hill g 0 0 10 [some (vR 0), some (vI a1), some (vI a2), some (vI a3), some (vR 46), none] [vI r, vI 0, vR 46] M2
  refine gw_i2l hc hi (dc_at pd_L_hill 7 10 (.i2l) 1 rfl) ?_
  refine gw_last hc (dc_at pd_L_hill 8 11 (.lastore) 1 rfl) ?_
  refine gw_goto (to := 23) hc (by decide) (dc_at pd_L_hill 9 12 (.goto 11) 3 rfl) ?_
  refine gw_iconst hc (dc_at pd_L_hill 16 23 (.iconst 0) 1 rfl) ?_
  exact gw_iret hc hw rfl hq (dc_at pd_L_hill 17 24 (.ireturn) 1 rfl)
theorem w_L_hill_x1 {ev : Ev} {M : Mem} {Q : Int → Mem → Prop} (a1 a2 a3 : Int) (h : ∀ Q2 : Out → Mem → Prop, (∀ (M2 : Mem), Q 1 M2 → Q2 (.inr "java/lang/IndexOutOfBoundsException") M2) → AM ev true 7 t_X7_hill [vR 0, vI a1, vI a2, vI a3] M Q2) : WM ev true 9 t_L_hill hh_L_hill [vR 0, vI a1, vI a2, vI a3, vR 46] M Q := by
  refine WM.of (by decide +kernel) (Nat.le_of_ble_eq_true rfl) (fun g hc hw => ?_)
  have hR := hw.1
  have hnc := hc.2.2.2.2.2.2
  change GW ev t_L_hill g 0 0 0 [some (vR 0), some (vI a1), some (vI a2), some (vI a3), some (vR 46), none] [] M
  refine gw_aload hc (dc_at pd_L_hill 0 0 (.aload 4) 2 rfl) rfl ?_
  refine gw_iconst hc (dc_at pd_L_hill 1 2 (.iconst 0) 1 rfl) ?_
  refine gw_aload_n hc (dc_at pd_L_hill 2 3 (.aload_n 0) 1 rfl) rfl ?_
  refine gw_iload_n hc (dc_at pd_L_hill 3 4 (.iload_n 1) 1 rfl) rfl ?_
  refine gw_iload_n hc (dc_at pd_L_hill 4 5 (.iload_n 2) 1 rfl) rfl ?_
  refine gw_iload_n hc (dc_at pd_L_hill 5 6 (.iload_n 3) 1 rfl) rfl ?_
  refine gw_callVT hc hw (d' := 7) [vI a1, vI a2, vI a3] [vI 0, vR 46] "java/lang/IndexOutOfBoundsException" vm_X7_hill rfl hL_L_hill (dc_at pd_L_hill 6 7 (.invokevirtual 17) 3 rfl) (by decide) rfl (Nat.le_of_ble_eq_true rfl) [] ⟨0, 12, 15, 13⟩ [⟨0, 12, 19, 15⟩] rfl (fun z hz => by simp at hz) rfl (by decide) lkL_13 csL_13 (gw_ast hc (by decide) (dc_at pd_L_hill 10 15 (.astore 5) 2 rfl)) (h _ (fun M2 hq => ⟨rfl, ?_⟩))
  change GW ev t_L_hill g 1 6 17 [some (vR 0), some (vI a1), some (vI a2), some (vI a3), some (vR 46), none] [] M2
  refine gw_iconst hc (dc_at pd_L_hill 11 17 (.iconst 1) 1 rfl) ?_
  exact gw_iret hc hw rfl hq (dc_at pd_L_hill 12 18 (.ireturn) 1 rfl)
theorem w_L_hill_x2 {ev : Ev} {M : Mem} {Q : Int → Mem → Prop} (a1 a2 a3 : Int) (h : ∀ Q2 : Out → Mem → Prop, (∀ (M2 : Mem), Q 2 M2 → Q2 (.inr "java/lang/IllegalArgumentException") M2) → AM ev true 7 t_X7_hill [vR 0, vI a1, vI a2, vI a3] M Q2) : WM ev true 9 t_L_hill hh_L_hill [vR 0, vI a1, vI a2, vI a3, vR 46] M Q := by
  refine WM.of (by decide +kernel) (Nat.le_of_ble_eq_true rfl) (fun g hc hw => ?_)
  have hR := hw.1
  have hnc := hc.2.2.2.2.2.2
  change GW ev t_L_hill g 0 0 0 [some (vR 0), some (vI a1), some (vI a2), some (vI a3), some (vR 46), none] [] M
  refine gw_aload hc (dc_at pd_L_hill 0 0 (.aload 4) 2 rfl) rfl ?_
  refine gw_iconst hc (dc_at pd_L_hill 1 2 (.iconst 0) 1 rfl) ?_
  refine gw_aload_n hc (dc_at pd_L_hill 2 3 (.aload_n 0) 1 rfl) rfl ?_
  refine gw_iload_n hc (dc_at pd_L_hill 3 4 (.iload_n 1) 1 rfl) rfl ?_
  refine gw_iload_n hc (dc_at pd_L_hill 4 5 (.iload_n 2) 1 rfl) rfl ?_
  refine gw_iload_n hc (dc_at pd_L_hill 5 6 (.iload_n 3) 1 rfl) rfl ?_
  refine gw_callVT hc hw (d' := 7) [vI a1, vI a2, vI a3] [vI 0, vR 46] "java/lang/IllegalArgumentException" vm_X7_hill rfl hL_L_hill (dc_at pd_L_hill 6 7 (.invokevirtual 17) 3 rfl) (by decide) rfl (Nat.le_of_ble_eq_true rfl) [⟨0, 12, 15, 13⟩] ⟨0, 12, 19, 15⟩ [] rfl (fun z hz => by
    simp only [List.mem_cons, List.not_mem_nil, or_false] at hz
    rcases hz with rfl
    · exact ⟨by decide, _, lkL_13, hnc.1⟩) rfl (by decide) lkL_15 csL_15 (gw_ast hc (by decide) (dc_at pd_L_hill 13 19 (.astore 5) 2 rfl)) (h _ (fun M2 hq => ⟨rfl, ?_⟩))
  change GW ev t_L_hill g 1 6 21 [some (vR 0), some (vI a1), some (vI a2), some (vI a3), some (vR 46), none] [] M2
  refine gw_iconst hc (dc_at pd_L_hill 14 21 (.iconst 2) 1 rfl) ?_
  exact gw_iret hc hw rfl hq (dc_at pd_L_hill 15 22 (.ireturn) 1 rfl)
def p_L_append : Pg := [(0, .aload_n 2, 1), (1, .iconst 0, 1), (2, .aload_n 0, 1), (3, .iload_n 1, 1), (4, .invokevirtual 21, 3), (7, .i2l, 1), (8, .lastore, 1), (9, .goto 9, 3), (12, .astore_n 3, 1), (13, .iconst 1, 1), (14, .ireturn, 1), (15, .astore_n 3, 1), (16, .iconst 2, 1), (17, .ireturn, 1), (18, .iconst 0, 1), (19, .ireturn, 1)]
def t_L_append : MT := (yL_append, cL_append, 4, some .int, [], [])
theorem pd_L_append : dcB (mC t_L_append) p_L_append = true := by decide +kernel
abbrev hh_L_append : List (Nat × Nat × Nat × Nat) := [(0, 9, 12, 15), (0, 9, 15, 25)]
theorem sw_L_append : SWok t_L_append hh_L_append 3 := ⟨bm 744 _ (by decide +kernel) (by decide +kernel), bm 67 _ (by decide +kernel) (by decide +kernel), bm 745 _ (by decide +kernel) (by decide +kernel), by decide +kernel, by decide⟩
theorem hL_L_append : Cond.methodLink RL 21 yX7_append ∈ lw_big := bm 747 _ (by decide +kernel) (by decide +kernel)
theorem w_L_append {ev : Ev} {M : Mem} {Q : Int → Mem → Prop} (a1 : Int) (h : ∀ Q2 : Out → Mem → Prop, (∀ (r : Int) (M2 : Mem), Inr r → Q 0 (upM M2 46 0 r) → Q2 (.inl (some (vI r))) M2) → AM ev false 7 t_X7_append [vR 0, vI a1] M Q2) : WM ev false 9 t_L_append hh_L_append [vR 0, vI a1, vR 46] M Q := by
  refine WM.of (by decide +kernel) (Nat.le_of_ble_eq_true rfl) (fun g hc hw => ?_)
  have hR := hw.1
  change GW ev t_L_append g 0 0 0 [some (vR 0), some (vI a1), some (vR 46), none] [] M
  refine gw_aload_n hc (dc_at pd_L_append 0 0 (.aload_n 2) 1 rfl) rfl ?_
  refine gw_iconst hc (dc_at pd_L_append 1 1 (.iconst 0) 1 rfl) ?_
  refine gw_aload_n hc (dc_at pd_L_append 2 2 (.aload_n 0) 1 rfl) rfl ?_
  refine gw_iload_n hc (dc_at pd_L_append 3 3 (.iload_n 1) 1 rfl) rfl ?_
  refine gw_callV hc (d' := 7) [vI a1] [vI 0, vR 46] vm_X7_append rfl hL_L_append (dc_at pd_L_append 4 4 (.invokevirtual 21) 3 rfl) (by rw [hR]; exact ⟨Nat.le_of_ble_eq_true rfl, Nat.le_of_ble_eq_true rfl⟩) ⟨Nat.zero_le _, Nat.zero_le _⟩ rfl (Nat.le_of_ble_eq_true rfl) (h _ (fun r M2 hi hq => ?_))
  change GW ev t_L_append g 0 0 7 [some (vR 0), some (vI a1), some (vR 46), none] [vI r, vI 0, vR 46] M2
  refine gw_i2l hc hi (dc_at pd_L_append 5 7 (.i2l) 1 rfl) ?_
  refine gw_last hc (dc_at pd_L_append 6 8 (.lastore) 1 rfl) ?_
  refine gw_goto (to := 18) hc (by decide) (dc_at pd_L_append 7 9 (.goto 9) 3 rfl) ?_
  refine gw_iconst hc (dc_at pd_L_append 14 18 (.iconst 0) 1 rfl) ?_
  exact gw_iret hc hw rfl hq (dc_at pd_L_append 15 19 (.ireturn) 1 rfl)
theorem w_L_append_x1 {ev : Ev} {M : Mem} {Q : Int → Mem → Prop} (a1 : Int) (h : ∀ Q2 : Out → Mem → Prop, (∀ (M2 : Mem), Q 1 M2 → Q2 (.inr "java/lang/IllegalArgumentException") M2) → AM ev true 7 t_X7_append [vR 0, vI a1] M Q2) : WM ev true 9 t_L_append hh_L_append [vR 0, vI a1, vR 46] M Q := by
  refine WM.of (by decide +kernel) (Nat.le_of_ble_eq_true rfl) (fun g hc hw => ?_)
  have hR := hw.1
  have hnc := hc.2.2.2.2.2.2
  change GW ev t_L_append g 0 0 0 [some (vR 0), some (vI a1), some (vR 46), none] [] M
  refine gw_aload_n hc (dc_at pd_L_append 0 0 (.aload_n 2) 1 rfl) rfl ?_
  refine gw_iconst hc (dc_at pd_L_append 1 1 (.iconst 0) 1 rfl) ?_
  refine gw_aload_n hc (dc_at pd_L_append 2 2 (.aload_n 0) 1 rfl) rfl ?_
  refine gw_iload_n hc (dc_at pd_L_append 3 3 (.iload_n 1) 1 rfl) rfl ?_
  refine gw_callVT hc hw (d' := 7) [vI a1] [vI 0, vR 46] "java/lang/IllegalArgumentException" vm_X7_append rfl hL_L_append (dc_at pd_L_append 4 4 (.invokevirtual 21) 3 rfl) (by decide) rfl (Nat.le_of_ble_eq_true rfl) [] ⟨0, 9, 12, 15⟩ [⟨0, 9, 15, 25⟩] rfl (fun z hz => by simp at hz) rfl (by decide) lkL_15 csL_15 (gw_astn hc (by decide) (dc_at pd_L_append 8 12 (.astore_n 3) 1 rfl)) (h _ (fun M2 hq => ⟨rfl, ?_⟩))
  change GW ev t_L_append g 1 6 13 [some (vR 0), some (vI a1), some (vR 46), none] [] M2
  refine gw_iconst hc (dc_at pd_L_append 9 13 (.iconst 1) 1 rfl) ?_
  exact gw_iret hc hw rfl hq (dc_at pd_L_append 10 14 (.ireturn) 1 rfl)
theorem w_L_append_x2 {ev : Ev} {M : Mem} {Q : Int → Mem → Prop} (a1 : Int) (h : ∀ Q2 : Out → Mem → Prop, (∀ (M2 : Mem), Q 2 M2 → Q2 (.inr "java/lang/IllegalStateException") M2) → AM ev true 7 t_X7_append [vR 0, vI a1] M Q2) : WM ev true 9 t_L_append hh_L_append [vR 0, vI a1, vR 46] M Q := by
  refine WM.of (by decide +kernel) (Nat.le_of_ble_eq_true rfl) (fun g hc hw => ?_)
  have hR := hw.1
  have hnc := hc.2.2.2.2.2.2
  change GW ev t_L_append g 0 0 0 [some (vR 0), some (vI a1), some (vR 46), none] [] M
  refine gw_aload_n hc (dc_at pd_L_append 0 0 (.aload_n 2) 1 rfl) rfl ?_
  refine gw_iconst hc (dc_at pd_L_append 1 1 (.iconst 0) 1 rfl) ?_
  refine gw_aload_n hc (dc_at pd_L_append 2 2 (.aload_n 0) 1 rfl) rfl ?_
  refine gw_iload_n hc (dc_at pd_L_append 3 3 (.iload_n 1) 1 rfl) rfl ?_
  refine gw_callVT hc hw (d' := 7) [vI a1] [vI 0, vR 46] "java/lang/IllegalStateException" vm_X7_append rfl hL_L_append (dc_at pd_L_append 4 4 (.invokevirtual 21) 3 rfl) (by decide) rfl (Nat.le_of_ble_eq_true rfl) [⟨0, 9, 12, 15⟩] ⟨0, 9, 15, 25⟩ [] rfl (fun z hz => by
    simp only [List.mem_cons, List.not_mem_nil, or_false] at hz
    rcases hz with rfl
    · exact ⟨by decide, _, lkL_15, hnc.2.2⟩) rfl (by decide) lkL_25 csL_25 (gw_astn hc (by decide) (dc_at pd_L_append 11 15 (.astore_n 3) 1 rfl)) (h _ (fun M2 hq => ⟨rfl, ?_⟩))
  change GW ev t_L_append g 1 6 16 [some (vR 0), some (vI a1), some (vR 46), none] [] M2
  refine gw_iconst hc (dc_at pd_L_append 12 16 (.iconst 2) 1 rfl) ?_
  exact gw_iret hc hw rfl hq (dc_at pd_L_append 13 17 (.ireturn) 1 rfl)
def p_L_load : Pg := [(0, .aload_n 2, 1), (1, .iconst 0, 1), (2, .aload_n 0, 1), (3, .iload_n 1, 1), (4, .invokevirtual 27, 3), (7, .i2l, 1), (8, .lastore, 1), (9, .goto 12, 3), (12, .astore_n 3, 1), (13, .iconst 1, 1), (14, .ireturn, 1), (15, .astore_n 3, 1), (16, .iconst 2, 1), (17, .ireturn, 1), (18, .astore_n 3, 1), (19, .iconst 3, 1), (20, .ireturn, 1), (21, .iconst 0, 1), (22, .ireturn, 1)]
def t_L_load : MT := (yL_load, cL_load, 4, some .int, [], [])
theorem pd_L_load : dcB (mC t_L_load) p_L_load = true := by decide +kernel
abbrev hh_L_load : List (Nat × Nat × Nat × Nat) := [(0, 9, 12, 13), (0, 9, 15, 15), (0, 9, 18, 25)]
theorem sw_L_load : SWok t_L_load hh_L_load 3 := ⟨bm 772 _ (by decide +kernel) (by decide +kernel), bm 67 _ (by decide +kernel) (by decide +kernel), bm 773 _ (by decide +kernel) (by decide +kernel), by decide +kernel, by decide⟩
theorem hL_L_load : Cond.methodLink RL 27 yX7_load ∈ lw_big := bm 774 _ (by decide +kernel) (by decide +kernel)
theorem w_L_load {ev : Ev} {M : Mem} {Q : Int → Mem → Prop} (a1 : Int) (h : ∀ Q2 : Out → Mem → Prop, (∀ (r : Int) (M2 : Mem), Inr r → Q 0 (upM M2 46 0 r) → Q2 (.inl (some (vI r))) M2) → AM ev false 7 t_X7_load [vR 0, vI a1] M Q2) : WM ev false 9 t_L_load hh_L_load [vR 0, vI a1, vR 46] M Q := by
  refine WM.of (by decide +kernel) (Nat.le_of_ble_eq_true rfl) (fun g hc hw => ?_)
  have hR := hw.1
  change GW ev t_L_load g 0 0 0 [some (vR 0), some (vI a1), some (vR 46), none] [] M
  refine gw_aload_n hc (dc_at pd_L_load 0 0 (.aload_n 2) 1 rfl) rfl ?_
  refine gw_iconst hc (dc_at pd_L_load 1 1 (.iconst 0) 1 rfl) ?_
  refine gw_aload_n hc (dc_at pd_L_load 2 2 (.aload_n 0) 1 rfl) rfl ?_
  refine gw_iload_n hc (dc_at pd_L_load 3 3 (.iload_n 1) 1 rfl) rfl ?_
  refine gw_callV hc (d' := 7) [vI a1] [vI 0, vR 46] vm_X7_load rfl hL_L_load (dc_at pd_L_load 4 4 (.invokevirtual 27) 3 rfl) (by rw [hR]; exact ⟨Nat.le_of_ble_eq_true rfl, Nat.le_of_ble_eq_true rfl⟩) ⟨Nat.zero_le _, Nat.zero_le _⟩ rfl (Nat.le_of_ble_eq_true rfl) (h _ (fun r M2 hi hq => ?_))
  change GW ev t_L_load g 0 0 7 [some (vR 0), some (vI a1), some (vR 46), none] [vI r, vI 0, vR 46] M2
  refine gw_i2l hc hi (dc_at pd_L_load 5 7 (.i2l) 1 rfl) ?_
  refine gw_last hc (dc_at pd_L_load 6 8 (.lastore) 1 rfl) ?_
  refine gw_goto (to := 21) hc (by decide) (dc_at pd_L_load 7 9 (.goto 12) 3 rfl) ?_
  refine gw_iconst hc (dc_at pd_L_load 17 21 (.iconst 0) 1 rfl) ?_
  exact gw_iret hc hw rfl hq (dc_at pd_L_load 18 22 (.ireturn) 1 rfl)
theorem w_L_load_x1 {ev : Ev} {M : Mem} {Q : Int → Mem → Prop} (a1 : Int) (h : ∀ Q2 : Out → Mem → Prop, (∀ (M2 : Mem), Q 1 M2 → Q2 (.inr "java/lang/IndexOutOfBoundsException") M2) → AM ev true 7 t_X7_load [vR 0, vI a1] M Q2) : WM ev true 9 t_L_load hh_L_load [vR 0, vI a1, vR 46] M Q := by
  refine WM.of (by decide +kernel) (Nat.le_of_ble_eq_true rfl) (fun g hc hw => ?_)
  have hR := hw.1
  have hnc := hc.2.2.2.2.2.2
  change GW ev t_L_load g 0 0 0 [some (vR 0), some (vI a1), some (vR 46), none] [] M
  refine gw_aload_n hc (dc_at pd_L_load 0 0 (.aload_n 2) 1 rfl) rfl ?_
  refine gw_iconst hc (dc_at pd_L_load 1 1 (.iconst 0) 1 rfl) ?_
  refine gw_aload_n hc (dc_at pd_L_load 2 2 (.aload_n 0) 1 rfl) rfl ?_
  refine gw_iload_n hc (dc_at pd_L_load 3 3 (.iload_n 1) 1 rfl) rfl ?_
  refine gw_callVT hc hw (d' := 7) [vI a1] [vI 0, vR 46] "java/lang/IndexOutOfBoundsException" vm_X7_load rfl hL_L_load (dc_at pd_L_load 4 4 (.invokevirtual 27) 3 rfl) (by decide) rfl (Nat.le_of_ble_eq_true rfl) [] ⟨0, 9, 12, 13⟩ [⟨0, 9, 15, 15⟩, ⟨0, 9, 18, 25⟩] rfl (fun z hz => by simp at hz) rfl (by decide) lkL_13 csL_13 (gw_astn hc (by decide) (dc_at pd_L_load 8 12 (.astore_n 3) 1 rfl)) (h _ (fun M2 hq => ⟨rfl, ?_⟩))
  change GW ev t_L_load g 1 6 13 [some (vR 0), some (vI a1), some (vR 46), none] [] M2
  refine gw_iconst hc (dc_at pd_L_load 9 13 (.iconst 1) 1 rfl) ?_
  exact gw_iret hc hw rfl hq (dc_at pd_L_load 10 14 (.ireturn) 1 rfl)
theorem w_L_load_x2 {ev : Ev} {M : Mem} {Q : Int → Mem → Prop} (a1 : Int) (h : ∀ Q2 : Out → Mem → Prop, (∀ (M2 : Mem), Q 2 M2 → Q2 (.inr "java/lang/IllegalArgumentException") M2) → AM ev true 7 t_X7_load [vR 0, vI a1] M Q2) : WM ev true 9 t_L_load hh_L_load [vR 0, vI a1, vR 46] M Q := by
  refine WM.of (by decide +kernel) (Nat.le_of_ble_eq_true rfl) (fun g hc hw => ?_)
  have hR := hw.1
  have hnc := hc.2.2.2.2.2.2
  change GW ev t_L_load g 0 0 0 [some (vR 0), some (vI a1), some (vR 46), none] [] M
  refine gw_aload_n hc (dc_at pd_L_load 0 0 (.aload_n 2) 1 rfl) rfl ?_
  refine gw_iconst hc (dc_at pd_L_load 1 1 (.iconst 0) 1 rfl) ?_
  refine gw_aload_n hc (dc_at pd_L_load 2 2 (.aload_n 0) 1 rfl) rfl ?_
  refine gw_iload_n hc (dc_at pd_L_load 3 3 (.iload_n 1) 1 rfl) rfl ?_
  refine gw_callVT hc hw (d' := 7) [vI a1] [vI 0, vR 46] "java/lang/IllegalArgumentException" vm_X7_load rfl hL_L_load (dc_at pd_L_load 4 4 (.invokevirtual 27) 3 rfl) (by decide) rfl (Nat.le_of_ble_eq_true rfl) [⟨0, 9, 12, 13⟩] ⟨0, 9, 15, 15⟩ [⟨0, 9, 18, 25⟩] rfl (fun z hz => by
    simp only [List.mem_cons, List.not_mem_nil, or_false] at hz
    rcases hz with rfl
    · exact ⟨by decide, _, lkL_13, hnc.1⟩) rfl (by decide) lkL_15 csL_15 (gw_astn hc (by decide) (dc_at pd_L_load 11 15 (.astore_n 3) 1 rfl)) (h _ (fun M2 hq => ⟨rfl, ?_⟩))
  change GW ev t_L_load g 1 6 16 [some (vR 0), some (vI a1), some (vR 46), none] [] M2
  refine gw_iconst hc (dc_at pd_L_load 12 16 (.iconst 2) 1 rfl) ?_
  exact gw_iret hc hw rfl hq (dc_at pd_L_load 13 17 (.ireturn) 1 rfl)
theorem w_L_load_x3 {ev : Ev} {M : Mem} {Q : Int → Mem → Prop} (a1 : Int) (h : ∀ Q2 : Out → Mem → Prop, (∀ (M2 : Mem), Q 3 M2 → Q2 (.inr "java/lang/IllegalStateException") M2) → AM ev true 7 t_X7_load [vR 0, vI a1] M Q2) : WM ev true 9 t_L_load hh_L_load [vR 0, vI a1, vR 46] M Q := by
  refine WM.of (by decide +kernel) (Nat.le_of_ble_eq_true rfl) (fun g hc hw => ?_)
  have hR := hw.1
  have hnc := hc.2.2.2.2.2.2
  change GW ev t_L_load g 0 0 0 [some (vR 0), some (vI a1), some (vR 46), none] [] M
  refine gw_aload_n hc (dc_at pd_L_load 0 0 (.aload_n 2) 1 rfl) rfl ?_
  refine gw_iconst hc (dc_at pd_L_load 1 1 (.iconst 0) 1 rfl) ?_
  refine gw_aload_n hc (dc_at pd_L_load 2 2 (.aload_n 0) 1 rfl) rfl ?_
  refine gw_iload_n hc (dc_at pd_L_load 3 3 (.iload_n 1) 1 rfl) rfl ?_
  refine gw_callVT hc hw (d' := 7) [vI a1] [vI 0, vR 46] "java/lang/IllegalStateException" vm_X7_load rfl hL_L_load (dc_at pd_L_load 4 4 (.invokevirtual 27) 3 rfl) (by decide) rfl (Nat.le_of_ble_eq_true rfl) [⟨0, 9, 12, 13⟩, ⟨0, 9, 15, 15⟩] ⟨0, 9, 18, 25⟩ [] rfl (fun z hz => by
    simp only [List.mem_cons, List.not_mem_nil, or_false] at hz
    rcases hz with rfl | rfl
    · exact ⟨by decide, _, lkL_13, hnc.2.1⟩
    · exact ⟨by decide, _, lkL_15, hnc.2.2⟩) rfl (by decide) lkL_25 csL_25 (gw_astn hc (by decide) (dc_at pd_L_load 14 18 (.astore_n 3) 1 rfl)) (h _ (fun M2 hq => ⟨rfl, ?_⟩))
  change GW ev t_L_load g 1 6 19 [some (vR 0), some (vI a1), some (vR 46), none] [] M2
  refine gw_iconst hc (dc_at pd_L_load 15 19 (.iconst 3) 1 rfl) ?_
  exact gw_iret hc hw rfl hq (dc_at pd_L_load 16 20 (.ireturn) 1 rfl)
def p_L_addStation : Pg := [(0, .aload 4, 2), (2, .iconst 0, 1), (3, .aload_n 0, 1), (4, .iload_n 1, 1), (5, .iload_n 2, 1), (6, .iload_n 3, 1), (7, .invokevirtual 30, 3), (10, .i2l, 1), (11, .lastore, 1), (12, .goto 15, 3), (15, .astore 5, 2), (17, .iconst 1, 1), (18, .ireturn, 1), (19, .astore 5, 2), (21, .iconst 2, 1), (22, .ireturn, 1), (23, .astore 5, 2), (25, .iconst 3, 1), (26, .ireturn, 1), (27, .iconst 0, 1), (28, .ireturn, 1)]
def t_L_addStation : MT := (yL_addStation, cL_addStation, 6, some .int, [], [])
theorem pd_L_addStation : dcB (mC t_L_addStation) p_L_addStation = true := by decide +kernel
abbrev hh_L_addStation : List (Nat × Nat × Nat × Nat) := [(0, 12, 15, 13), (0, 12, 19, 15), (0, 12, 23, 25)]
theorem sw_L_addStation : SWok t_L_addStation hh_L_addStation 5 := ⟨bm 796 _ (by decide +kernel) (by decide +kernel), bm 67 _ (by decide +kernel) (by decide +kernel), bm 797 _ (by decide +kernel) (by decide +kernel), by decide +kernel, by decide⟩
theorem hL_L_addStation : Cond.methodLink RL 30 yX7_addStation ∈ lw_big := bm 798 _ (by decide +kernel) (by decide +kernel)
theorem w_L_addStation {ev : Ev} {M : Mem} {Q : Int → Mem → Prop} (a1 a2 a3 : Int) (h : ∀ Q2 : Out → Mem → Prop, (∀ (r : Int) (M2 : Mem), Inr r → Q 0 (upM M2 46 0 r) → Q2 (.inl (some (vI r))) M2) → AM ev false 7 t_X7_addStation [vR 0, vI a1, vI a2, vI a3] M Q2) : WM ev false 9 t_L_addStation hh_L_addStation [vR 0, vI a1, vI a2, vI a3, vR 46] M Q := by
  refine WM.of (by decide +kernel) (Nat.le_of_ble_eq_true rfl) (fun g hc hw => ?_)
  have hR := hw.1
  change GW ev t_L_addStation g 0 0 0 [some (vR 0), some (vI a1), some (vI a2), some (vI a3), some (vR 46), none] [] M
  refine gw_aload hc (dc_at pd_L_addStation 0 0 (.aload 4) 2 rfl) rfl ?_
  refine gw_iconst hc (dc_at pd_L_addStation 1 2 (.iconst 0) 1 rfl) ?_
  refine gw_aload_n hc (dc_at pd_L_addStation 2 3 (.aload_n 0) 1 rfl) rfl ?_
  refine gw_iload_n hc (dc_at pd_L_addStation 3 4 (.iload_n 1) 1 rfl) rfl ?_
  refine gw_iload_n hc (dc_at pd_L_addStation 4 5 (.iload_n 2) 1 rfl) rfl ?_
  refine gw_iload_n hc (dc_at pd_L_addStation 5 6 (.iload_n 3) 1 rfl) rfl ?_
  refine gw_callV hc (d' := 7) [vI a1, vI a2, vI a3] [vI 0, vR 46] vm_X7_addStation rfl hL_L_addStation (dc_at pd_L_addStation 6 7 (.invokevirtual 30) 3 rfl) (by rw [hR]; exact ⟨Nat.le_of_ble_eq_true rfl, Nat.le_of_ble_eq_true rfl⟩) ⟨Nat.zero_le _, Nat.zero_le _⟩ rfl (Nat.le_of_ble_eq_true rfl) (h _ (fun r M2 hi hq => ?_))
  change GW ev t_L_addStation g 0 0 10 [some (vR 0), some (vI a1), some (vI a2), some (vI a3), some (vR 46), none] [vI r, vI 0, vR 46] M2
  refine gw_i2l hc hi (dc_at pd_L_addStation 7 10 (.i2l) 1 rfl) ?_
  refine gw_last hc (dc_at pd_L_addStation 8 11 (.lastore) 1 rfl) ?_
  refine gw_goto (to := 27) hc (by decide) (dc_at pd_L_addStation 9 12 (.goto 15) 3 rfl) ?_
  refine gw_iconst hc (dc_at pd_L_addStation 19 27 (.iconst 0) 1 rfl) ?_
  exact gw_iret hc hw rfl hq (dc_at pd_L_addStation 20 28 (.ireturn) 1 rfl)
theorem w_L_addStation_x1 {ev : Ev} {M : Mem} {Q : Int → Mem → Prop} (a1 a2 a3 : Int) (h : ∀ Q2 : Out → Mem → Prop, (∀ (M2 : Mem), Q 1 M2 → Q2 (.inr "java/lang/IndexOutOfBoundsException") M2) → AM ev true 7 t_X7_addStation [vR 0, vI a1, vI a2, vI a3] M Q2) : WM ev true 9 t_L_addStation hh_L_addStation [vR 0, vI a1, vI a2, vI a3, vR 46] M Q := by
  refine WM.of (by decide +kernel) (Nat.le_of_ble_eq_true rfl) (fun g hc hw => ?_)
  have hR := hw.1
  have hnc := hc.2.2.2.2.2.2
  change GW ev t_L_addStation g 0 0 0 [some (vR 0), some (vI a1), some (vI a2), some (vI a3), some (vR 46), none] [] M
  refine gw_aload hc (dc_at pd_L_addStation 0 0 (.aload 4) 2 rfl) rfl ?_
  refine gw_iconst hc (dc_at pd_L_addStation 1 2 (.iconst 0) 1 rfl) ?_
  refine gw_aload_n hc (dc_at pd_L_addStation 2 3 (.aload_n 0) 1 rfl) rfl ?_
  refine gw_iload_n hc (dc_at pd_L_addStation 3 4 (.iload_n 1) 1 rfl) rfl ?_
  refine gw_iload_n hc (dc_at pd_L_addStation 4 5 (.iload_n 2) 1 rfl) rfl ?_
  refine gw_iload_n hc (dc_at pd_L_addStation 5 6 (.iload_n 3) 1 rfl) rfl ?_
  refine gw_callVT hc hw (d' := 7) [vI a1, vI a2, vI a3] [vI 0, vR 46] "java/lang/IndexOutOfBoundsException" vm_X7_addStation rfl hL_L_addStation (dc_at pd_L_addStation 6 7 (.invokevirtual 30) 3 rfl) (by decide) rfl (Nat.le_of_ble_eq_true rfl) [] ⟨0, 12, 15, 13⟩ [⟨0, 12, 19, 15⟩, ⟨0, 12, 23, 25⟩] rfl (fun z hz => by simp at hz) rfl (by decide) lkL_13 csL_13 (gw_ast hc (by decide) (dc_at pd_L_addStation 10 15 (.astore 5) 2 rfl)) (h _ (fun M2 hq => ⟨rfl, ?_⟩))
  change GW ev t_L_addStation g 1 6 17 [some (vR 0), some (vI a1), some (vI a2), some (vI a3), some (vR 46), none] [] M2
  refine gw_iconst hc (dc_at pd_L_addStation 11 17 (.iconst 1) 1 rfl) ?_
  exact gw_iret hc hw rfl hq (dc_at pd_L_addStation 12 18 (.ireturn) 1 rfl)
theorem w_L_addStation_x2 {ev : Ev} {M : Mem} {Q : Int → Mem → Prop} (a1 a2 a3 : Int) (h : ∀ Q2 : Out → Mem → Prop, (∀ (M2 : Mem), Q 2 M2 → Q2 (.inr "java/lang/IllegalArgumentException") M2) → AM ev true 7 t_X7_addStation [vR 0, vI a1, vI a2, vI a3] M Q2) : WM ev true 9 t_L_addStation hh_L_addStation [vR 0, vI a1, vI a2, vI a3, vR 46] M Q := by
  refine WM.of (by decide +kernel) (Nat.le_of_ble_eq_true rfl) (fun g hc hw => ?_)
  have hR := hw.1
  have hnc := hc.2.2.2.2.2.2
  change GW ev t_L_addStation g 0 0 0 [some (vR 0), some (vI a1), some (vI a2), some (vI a3), some (vR 46), none] [] M
  refine gw_aload hc (dc_at pd_L_addStation 0 0 (.aload 4) 2 rfl) rfl ?_
  refine gw_iconst hc (dc_at pd_L_addStation 1 2 (.iconst 0) 1 rfl) ?_
  refine gw_aload_n hc (dc_at pd_L_addStation 2 3 (.aload_n 0) 1 rfl) rfl ?_
  refine gw_iload_n hc (dc_at pd_L_addStation 3 4 (.iload_n 1) 1 rfl) rfl ?_
  refine gw_iload_n hc (dc_at pd_L_addStation 4 5 (.iload_n 2) 1 rfl) rfl ?_
  refine gw_iload_n hc (dc_at pd_L_addStation 5 6 (.iload_n 3) 1 rfl) rfl ?_
  refine gw_callVT hc hw (d' := 7) [vI a1, vI a2, vI a3] [vI 0, vR 46] "java/lang/IllegalArgumentException" vm_X7_addStation rfl hL_L_addStation (dc_at pd_L_addStation 6 7 (.invokevirtual 30) 3 rfl) (by decide) rfl (Nat.le_of_ble_eq_true rfl) [⟨0, 12, 15, 13⟩] ⟨0, 12, 19, 15⟩ [⟨0, 12, 23, 25⟩] rfl (fun z hz => by
    simp only [List.mem_cons, List.not_mem_nil, or_false] at hz
    rcases hz with rfl
    · exact ⟨by decide, _, lkL_13, hnc.1⟩) rfl (by decide) lkL_15 csL_15 (gw_ast hc (by decide) (dc_at pd_L_addStation 13 19 (.astore 5) 2 rfl)) (h _ (fun M2 hq => ⟨rfl, ?_⟩))
  change GW ev t_L_addStation g 1 6 21 [some (vR 0), some (vI a1), some (vI a2), some (vI a3), some (vR 46), none] [] M2
  refine gw_iconst hc (dc_at pd_L_addStation 14 21 (.iconst 2) 1 rfl) ?_
  exact gw_iret hc hw rfl hq (dc_at pd_L_addStation 15 22 (.ireturn) 1 rfl)
theorem w_L_addStation_x3 {ev : Ev} {M : Mem} {Q : Int → Mem → Prop} (a1 a2 a3 : Int) (h : ∀ Q2 : Out → Mem → Prop, (∀ (M2 : Mem), Q 3 M2 → Q2 (.inr "java/lang/IllegalStateException") M2) → AM ev true 7 t_X7_addStation [vR 0, vI a1, vI a2, vI a3] M Q2) : WM ev true 9 t_L_addStation hh_L_addStation [vR 0, vI a1, vI a2, vI a3, vR 46] M Q := by
  refine WM.of (by decide +kernel) (Nat.le_of_ble_eq_true rfl) (fun g hc hw => ?_)
  have hR := hw.1
  have hnc := hc.2.2.2.2.2.2
  change GW ev t_L_addStation g 0 0 0 [some (vR 0), some (vI a1), some (vI a2), some (vI a3), some (vR 46), none] [] M
  refine gw_aload hc (dc_at pd_L_addStation 0 0 (.aload 4) 2 rfl) rfl ?_
  refine gw_iconst hc (dc_at pd_L_addStation 1 2 (.iconst 0) 1 rfl) ?_
  refine gw_aload_n hc (dc_at pd_L_addStation 2 3 (.aload_n 0) 1 rfl) rfl ?_
  refine gw_iload_n hc (dc_at pd_L_addStation 3 4 (.iload_n 1) 1 rfl) rfl ?_
  refine gw_iload_n hc (dc_at pd_L_addStation 4 5 (.iload_n 2) 1 rfl) rfl ?_
  refine gw_iload_n hc (dc_at pd_L_addStation 5 6 (.iload_n 3) 1 rfl) rfl ?_
  refine gw_callVT hc hw (d' := 7) [vI a1, vI a2, vI a3] [vI 0, vR 46] "java/lang/IllegalStateException" vm_X7_addStation rfl hL_L_addStation (dc_at pd_L_addStation 6 7 (.invokevirtual 30) 3 rfl) (by decide) rfl (Nat.le_of_ble_eq_true rfl) [⟨0, 12, 15, 13⟩, ⟨0, 12, 19, 15⟩] ⟨0, 12, 23, 25⟩ [] rfl (fun z hz => by
    simp only [List.mem_cons, List.not_mem_nil, or_false] at hz
    rcases hz with rfl | rfl
    · exact ⟨by decide, _, lkL_13, hnc.2.1⟩
    · exact ⟨by decide, _, lkL_15, hnc.2.2⟩) rfl (by decide) lkL_25 csL_25 (gw_ast hc (by decide) (dc_at pd_L_addStation 16 23 (.astore 5) 2 rfl)) (h _ (fun M2 hq => ⟨rfl, ?_⟩))
  change GW ev t_L_addStation g 1 6 25 [some (vR 0), some (vI a1), some (vI a2), some (vI a3), some (vR 46), none] [] M2
  refine gw_iconst hc (dc_at pd_L_addStation 17 25 (.iconst 3) 1 rfl) ?_
  exact gw_iret hc hw rfl hq (dc_at pd_L_addStation 18 26 (.ireturn) 1 rfl)
def p_L_setMast : Pg := [(0, .aload_n 3, 1), (1, .iconst 0, 1), (2, .aload_n 0, 1), (3, .iload_n 1, 1), (4, .iload_n 2, 1), (5, .invokevirtual 33, 3), (8, .i2l, 1), (9, .lastore, 1), (10, .goto 11, 3), (13, .astore 4, 2), (15, .iconst 1, 1), (16, .ireturn, 1), (17, .astore 4, 2), (19, .iconst 2, 1), (20, .ireturn, 1), (21, .iconst 0, 1), (22, .ireturn, 1)]
def t_L_setMast : MT := (yL_setMast, cL_setMast, 5, some .int, [], [])
theorem pd_L_setMast : dcB (mC t_L_setMast) p_L_setMast = true := by decide +kernel
abbrev hh_L_setMast : List (Nat × Nat × Nat × Nat) := [(0, 10, 13, 13), (0, 10, 17, 15)]
theorem sw_L_setMast : SWok t_L_setMast hh_L_setMast 4 := ⟨bm 813 _ (by decide +kernel) (by decide +kernel), bm 67 _ (by decide +kernel) (by decide +kernel), bm 814 _ (by decide +kernel) (by decide +kernel), by decide +kernel, by decide⟩
theorem hL_L_setMast : Cond.methodLink RL 33 yX7_setMast ∈ lw_big := bm 815 _ (by decide +kernel) (by decide +kernel)
theorem w_L_setMast {ev : Ev} {M : Mem} {Q : Int → Mem → Prop} (a1 a2 : Int) (h : ∀ Q2 : Out → Mem → Prop, (∀ (r : Int) (M2 : Mem), Inr r → Q 0 (upM M2 46 0 r) → Q2 (.inl (some (vI r))) M2) → AM ev false 7 t_X7_setMast [vR 0, vI a1, vI a2] M Q2) : WM ev false 9 t_L_setMast hh_L_setMast [vR 0, vI a1, vI a2, vR 46] M Q := by
  refine WM.of (by decide +kernel) (Nat.le_of_ble_eq_true rfl) (fun g hc hw => ?_)
  have hR := hw.1
  change GW ev t_L_setMast g 0 0 0 [some (vR 0), some (vI a1), some (vI a2), some (vR 46), none] [] M
  refine gw_aload_n hc (dc_at pd_L_setMast 0 0 (.aload_n 3) 1 rfl) rfl ?_
  refine gw_iconst hc (dc_at pd_L_setMast 1 1 (.iconst 0) 1 rfl) ?_
  refine gw_aload_n hc (dc_at pd_L_setMast 2 2 (.aload_n 0) 1 rfl) rfl ?_
  refine gw_iload_n hc (dc_at pd_L_setMast 3 3 (.iload_n 1) 1 rfl) rfl ?_
  refine gw_iload_n hc (dc_at pd_L_setMast 4 4 (.iload_n 2) 1 rfl) rfl ?_
  refine gw_callV hc (d' := 7) [vI a1, vI a2] [vI 0, vR 46] vm_X7_setMast rfl hL_L_setMast (dc_at pd_L_setMast 5 5 (.invokevirtual 33) 3 rfl) (by rw [hR]; exact ⟨Nat.le_of_ble_eq_true rfl, Nat.le_of_ble_eq_true rfl⟩) ⟨Nat.zero_le _, Nat.zero_le _⟩ rfl (Nat.le_of_ble_eq_true rfl) (h _ (fun r M2 hi hq => ?_))
  change GW ev t_L_setMast g 0 0 8 [some (vR 0), some (vI a1), some (vI a2), some (vR 46), none] [vI r, vI 0, vR 46] M2
  refine gw_i2l hc hi (dc_at pd_L_setMast 6 8 (.i2l) 1 rfl) ?_
  refine gw_last hc (dc_at pd_L_setMast 7 9 (.lastore) 1 rfl) ?_
  refine gw_goto (to := 21) hc (by decide) (dc_at pd_L_setMast 8 10 (.goto 11) 3 rfl) ?_
  refine gw_iconst hc (dc_at pd_L_setMast 15 21 (.iconst 0) 1 rfl) ?_
  exact gw_iret hc hw rfl hq (dc_at pd_L_setMast 16 22 (.ireturn) 1 rfl)
theorem w_L_setMast_x1 {ev : Ev} {M : Mem} {Q : Int → Mem → Prop} (a1 a2 : Int) (h : ∀ Q2 : Out → Mem → Prop, (∀ (M2 : Mem), Q 1 M2 → Q2 (.inr "java/lang/IndexOutOfBoundsException") M2) → AM ev true 7 t_X7_setMast [vR 0, vI a1, vI a2] M Q2) : WM ev true 9 t_L_setMast hh_L_setMast [vR 0, vI a1, vI a2, vR 46] M Q := by
  refine WM.of (by decide +kernel) (Nat.le_of_ble_eq_true rfl) (fun g hc hw => ?_)
  have hR := hw.1
  have hnc := hc.2.2.2.2.2.2
  change GW ev t_L_setMast g 0 0 0 [some (vR 0), some (vI a1), some (vI a2), some (vR 46), none] [] M
  refine gw_aload_n hc (dc_at pd_L_setMast 0 0 (.aload_n 3) 1 rfl) rfl ?_
  refine gw_iconst hc (dc_at pd_L_setMast 1 1 (.iconst 0) 1 rfl) ?_
  refine gw_aload_n hc (dc_at pd_L_setMast 2 2 (.aload_n 0) 1 rfl) rfl ?_
  refine gw_iload_n hc (dc_at pd_L_setMast 3 3 (.iload_n 1) 1 rfl) rfl ?_
  refine gw_iload_n hc (dc_at pd_L_setMast 4 4 (.iload_n 2) 1 rfl) rfl ?_
  refine gw_callVT hc hw (d' := 7) [vI a1, vI a2] [vI 0, vR 46] "java/lang/IndexOutOfBoundsException" vm_X7_setMast rfl hL_L_setMast (dc_at pd_L_setMast 5 5 (.invokevirtual 33) 3 rfl) (by decide) rfl (Nat.le_of_ble_eq_true rfl) [] ⟨0, 10, 13, 13⟩ [⟨0, 10, 17, 15⟩] rfl (fun z hz => by simp at hz) rfl (by decide) lkL_13 csL_13 (gw_ast hc (by decide) (dc_at pd_L_setMast 9 13 (.astore 4) 2 rfl)) (h _ (fun M2 hq => ⟨rfl, ?_⟩))
  change GW ev t_L_setMast g 1 6 15 [some (vR 0), some (vI a1), some (vI a2), some (vR 46), none] [] M2
  refine gw_iconst hc (dc_at pd_L_setMast 10 15 (.iconst 1) 1 rfl) ?_
  exact gw_iret hc hw rfl hq (dc_at pd_L_setMast 11 16 (.ireturn) 1 rfl)
theorem w_L_setMast_x2 {ev : Ev} {M : Mem} {Q : Int → Mem → Prop} (a1 a2 : Int) (h : ∀ Q2 : Out → Mem → Prop, (∀ (M2 : Mem), Q 2 M2 → Q2 (.inr "java/lang/IllegalArgumentException") M2) → AM ev true 7 t_X7_setMast [vR 0, vI a1, vI a2] M Q2) : WM ev true 9 t_L_setMast hh_L_setMast [vR 0, vI a1, vI a2, vR 46] M Q := by
  refine WM.of (by decide +kernel) (Nat.le_of_ble_eq_true rfl) (fun g hc hw => ?_)
  have hR := hw.1
  have hnc := hc.2.2.2.2.2.2
  change GW ev t_L_setMast g 0 0 0 [some (vR 0), some (vI a1), some (vI a2), some (vR 46), none] [] M
  refine gw_aload_n hc (dc_at pd_L_setMast 0 0 (.aload_n 3) 1 rfl) rfl ?_
  refine gw_iconst hc (dc_at pd_L_setMast 1 1 (.iconst 0) 1 rfl) ?_
  refine gw_aload_n hc (dc_at pd_L_setMast 2 2 (.aload_n 0) 1 rfl) rfl ?_
  refine gw_iload_n hc (dc_at pd_L_setMast 3 3 (.iload_n 1) 1 rfl) rfl ?_
  refine gw_iload_n hc (dc_at pd_L_setMast 4 4 (.iload_n 2) 1 rfl) rfl ?_
  refine gw_callVT hc hw (d' := 7) [vI a1, vI a2] [vI 0, vR 46] "java/lang/IllegalArgumentException" vm_X7_setMast rfl hL_L_setMast (dc_at pd_L_setMast 5 5 (.invokevirtual 33) 3 rfl) (by decide) rfl (Nat.le_of_ble_eq_true rfl) [⟨0, 10, 13, 13⟩] ⟨0, 10, 17, 15⟩ [] rfl (fun z hz => by
    simp only [List.mem_cons, List.not_mem_nil, or_false] at hz
    rcases hz with rfl
    · exact ⟨by decide, _, lkL_13, hnc.1⟩) rfl (by decide) lkL_15 csL_15 (gw_ast hc (by decide) (dc_at pd_L_setMast 12 17 (.astore 4) 2 rfl)) (h _ (fun M2 hq => ⟨rfl, ?_⟩))
  change GW ev t_L_setMast g 1 6 19 [some (vR 0), some (vI a1), some (vI a2), some (vR 46), none] [] M2
  refine gw_iconst hc (dc_at pd_L_setMast 13 19 (.iconst 2) 1 rfl) ?_
  exact gw_iret hc hw rfl hq (dc_at pd_L_setMast 14 20 (.ireturn) 1 rfl)
def p_L_lend : Pg := [(0, .aload_n 3, 1), (1, .iconst 0, 1), (2, .aload_n 0, 1), (3, .iload_n 1, 1), (4, .iload_n 2, 1), (5, .invokevirtual 36, 3), (8, .i2l, 1), (9, .lastore, 1), (10, .goto 11, 3), (13, .astore 4, 2), (15, .iconst 1, 1), (16, .ireturn, 1), (17, .astore 4, 2), (19, .iconst 2, 1), (20, .ireturn, 1), (21, .iconst 0, 1), (22, .ireturn, 1)]
def t_L_lend : MT := (yL_lend, cL_lend, 5, some .int, [], [])
theorem pd_L_lend : dcB (mC t_L_lend) p_L_lend = true := by decide +kernel
abbrev hh_L_lend : List (Nat × Nat × Nat × Nat) := [(0, 10, 13, 13), (0, 10, 17, 25)]
theorem sw_L_lend : SWok t_L_lend hh_L_lend 4 := ⟨bm 830 _ (by decide +kernel) (by decide +kernel), bm 67 _ (by decide +kernel) (by decide +kernel), bm 831 _ (by decide +kernel) (by decide +kernel), by decide +kernel, by decide⟩
theorem hL_L_lend : Cond.methodLink RL 36 yX7_lend ∈ lw_big := bm 832 _ (by decide +kernel) (by decide +kernel)
theorem w_L_lend {ev : Ev} {M : Mem} {Q : Int → Mem → Prop} (a1 a2 : Int) (h : ∀ Q2 : Out → Mem → Prop, (∀ (r : Int) (M2 : Mem), Inr r → Q 0 (upM M2 46 0 r) → Q2 (.inl (some (vI r))) M2) → AM ev false 7 t_X7_lend [vR 0, vI a1, vI a2] M Q2) : WM ev false 9 t_L_lend hh_L_lend [vR 0, vI a1, vI a2, vR 46] M Q := by
  refine WM.of (by decide +kernel) (Nat.le_of_ble_eq_true rfl) (fun g hc hw => ?_)
  have hR := hw.1
  change GW ev t_L_lend g 0 0 0 [some (vR 0), some (vI a1), some (vI a2), some (vR 46), none] [] M
  refine gw_aload_n hc (dc_at pd_L_lend 0 0 (.aload_n 3) 1 rfl) rfl ?_
  refine gw_iconst hc (dc_at pd_L_lend 1 1 (.iconst 0) 1 rfl) ?_
  refine gw_aload_n hc (dc_at pd_L_lend 2 2 (.aload_n 0) 1 rfl) rfl ?_
  refine gw_iload_n hc (dc_at pd_L_lend 3 3 (.iload_n 1) 1 rfl) rfl ?_
  refine gw_iload_n hc (dc_at pd_L_lend 4 4 (.iload_n 2) 1 rfl) rfl ?_
  refine gw_callV hc (d' := 7) [vI a1, vI a2] [vI 0, vR 46] vm_X7_lend rfl hL_L_lend (dc_at pd_L_lend 5 5 (.invokevirtual 36) 3 rfl) (by rw [hR]; exact ⟨Nat.le_of_ble_eq_true rfl, Nat.le_of_ble_eq_true rfl⟩) ⟨Nat.zero_le _, Nat.zero_le _⟩ rfl (Nat.le_of_ble_eq_true rfl) (h _ (fun r M2 hi hq => ?_))
  change GW ev t_L_lend g 0 0 8 [some (vR 0), some (vI a1), some (vI a2), some (vR 46), none] [vI r, vI 0, vR 46] M2
  refine gw_i2l hc hi (dc_at pd_L_lend 6 8 (.i2l) 1 rfl) ?_
  refine gw_last hc (dc_at pd_L_lend 7 9 (.lastore) 1 rfl) ?_
  refine gw_goto (to := 21) hc (by decide) (dc_at pd_L_lend 8 10 (.goto 11) 3 rfl) ?_
  refine gw_iconst hc (dc_at pd_L_lend 15 21 (.iconst 0) 1 rfl) ?_
  exact gw_iret hc hw rfl hq (dc_at pd_L_lend 16 22 (.ireturn) 1 rfl)
theorem w_L_lend_x1 {ev : Ev} {M : Mem} {Q : Int → Mem → Prop} (a1 a2 : Int) (h : ∀ Q2 : Out → Mem → Prop, (∀ (M2 : Mem), Q 1 M2 → Q2 (.inr "java/lang/IndexOutOfBoundsException") M2) → AM ev true 7 t_X7_lend [vR 0, vI a1, vI a2] M Q2) : WM ev true 9 t_L_lend hh_L_lend [vR 0, vI a1, vI a2, vR 46] M Q := by
  refine WM.of (by decide +kernel) (Nat.le_of_ble_eq_true rfl) (fun g hc hw => ?_)
  have hR := hw.1
  have hnc := hc.2.2.2.2.2.2
  change GW ev t_L_lend g 0 0 0 [some (vR 0), some (vI a1), some (vI a2), some (vR 46), none] [] M
  refine gw_aload_n hc (dc_at pd_L_lend 0 0 (.aload_n 3) 1 rfl) rfl ?_
  refine gw_iconst hc (dc_at pd_L_lend 1 1 (.iconst 0) 1 rfl) ?_
  refine gw_aload_n hc (dc_at pd_L_lend 2 2 (.aload_n 0) 1 rfl) rfl ?_
  refine gw_iload_n hc (dc_at pd_L_lend 3 3 (.iload_n 1) 1 rfl) rfl ?_
  refine gw_iload_n hc (dc_at pd_L_lend 4 4 (.iload_n 2) 1 rfl) rfl ?_
  refine gw_callVT hc hw (d' := 7) [vI a1, vI a2] [vI 0, vR 46] "java/lang/IndexOutOfBoundsException" vm_X7_lend rfl hL_L_lend (dc_at pd_L_lend 5 5 (.invokevirtual 36) 3 rfl) (by decide) rfl (Nat.le_of_ble_eq_true rfl) [] ⟨0, 10, 13, 13⟩ [⟨0, 10, 17, 25⟩] rfl (fun z hz => by simp at hz) rfl (by decide) lkL_13 csL_13 (gw_ast hc (by decide) (dc_at pd_L_lend 9 13 (.astore 4) 2 rfl)) (h _ (fun M2 hq => ⟨rfl, ?_⟩))
  change GW ev t_L_lend g 1 6 15 [some (vR 0), some (vI a1), some (vI a2), some (vR 46), none] [] M2
  refine gw_iconst hc (dc_at pd_L_lend 10 15 (.iconst 1) 1 rfl) ?_
  exact gw_iret hc hw rfl hq (dc_at pd_L_lend 11 16 (.ireturn) 1 rfl)
theorem w_L_lend_x2 {ev : Ev} {M : Mem} {Q : Int → Mem → Prop} (a1 a2 : Int) (h : ∀ Q2 : Out → Mem → Prop, (∀ (M2 : Mem), Q 2 M2 → Q2 (.inr "java/lang/IllegalStateException") M2) → AM ev true 7 t_X7_lend [vR 0, vI a1, vI a2] M Q2) : WM ev true 9 t_L_lend hh_L_lend [vR 0, vI a1, vI a2, vR 46] M Q := by
  refine WM.of (by decide +kernel) (Nat.le_of_ble_eq_true rfl) (fun g hc hw => ?_)
  have hR := hw.1
  have hnc := hc.2.2.2.2.2.2
  change GW ev t_L_lend g 0 0 0 [some (vR 0), some (vI a1), some (vI a2), some (vR 46), none] [] M
  refine gw_aload_n hc (dc_at pd_L_lend 0 0 (.aload_n 3) 1 rfl) rfl ?_
  refine gw_iconst hc (dc_at pd_L_lend 1 1 (.iconst 0) 1 rfl) ?_
  refine gw_aload_n hc (dc_at pd_L_lend 2 2 (.aload_n 0) 1 rfl) rfl ?_
  refine gw_iload_n hc (dc_at pd_L_lend 3 3 (.iload_n 1) 1 rfl) rfl ?_
  refine gw_iload_n hc (dc_at pd_L_lend 4 4 (.iload_n 2) 1 rfl) rfl ?_
  refine gw_callVT hc hw (d' := 7) [vI a1, vI a2] [vI 0, vR 46] "java/lang/IllegalStateException" vm_X7_lend rfl hL_L_lend (dc_at pd_L_lend 5 5 (.invokevirtual 36) 3 rfl) (by decide) rfl (Nat.le_of_ble_eq_true rfl) [⟨0, 10, 13, 13⟩] ⟨0, 10, 17, 25⟩ [] rfl (fun z hz => by
    simp only [List.mem_cons, List.not_mem_nil, or_false] at hz
    rcases hz with rfl
    · exact ⟨by decide, _, lkL_13, hnc.2.1⟩) rfl (by decide) lkL_25 csL_25 (gw_ast hc (by decide) (dc_at pd_L_lend 12 17 (.astore 4) 2 rfl)) (h _ (fun M2 hq => ⟨rfl, ?_⟩))
  change GW ev t_L_lend g 1 6 19 [some (vR 0), some (vI a1), some (vI a2), some (vR 46), none] [] M2
  refine gw_iconst hc (dc_at pd_L_lend 13 19 (.iconst 2) 1 rfl) ?_
  exact gw_iret hc hw rfl hq (dc_at pd_L_lend 14 20 (.ireturn) 1 rfl)
def p_L_addCloud : Pg := [(0, .aload 5, 2), (2, .iconst 0, 1), (3, .aload_n 0, 1), (4, .iload_n 1, 1), (5, .iload_n 2, 1), (6, .iload_n 3, 1), (7, .iload 4, 2), (9, .invokevirtual 39, 3), (12, .i2l, 1), (13, .lastore, 1), (14, .goto 15, 3), (17, .astore 6, 2), (19, .iconst 1, 1), (20, .ireturn, 1), (21, .astore 6, 2), (23, .iconst 2, 1), (24, .ireturn, 1), (25, .astore 6, 2), (27, .iconst 3, 1), (28, .ireturn, 1), (29, .iconst 0, 1), (30, .ireturn, 1)]
def t_L_addCloud : MT := (yL_addCloud, cL_addCloud, 7, some .int, [], [])
theorem pd_L_addCloud : dcB (mC t_L_addCloud) p_L_addCloud = true := by decide +kernel
abbrev hh_L_addCloud : List (Nat × Nat × Nat × Nat) := [(0, 14, 17, 13), (0, 14, 21, 15), (0, 14, 25, 25)]
theorem sw_L_addCloud : SWok t_L_addCloud hh_L_addCloud 6 := ⟨bm 842 _ (by decide +kernel) (by decide +kernel), bm 67 _ (by decide +kernel) (by decide +kernel), bm 843 _ (by decide +kernel) (by decide +kernel), by decide +kernel, by decide⟩
theorem hL_L_addCloud : Cond.methodLink RL 39 yX7_addCloud ∈ lw_big := bm 844 _ (by decide +kernel) (by decide +kernel)
theorem w_L_addCloud {ev : Ev} {M : Mem} {Q : Int → Mem → Prop} (a1 a2 a3 a4 : Int) (h : ∀ Q2 : Out → Mem → Prop, (∀ (r : Int) (M2 : Mem), Inr r → Q 0 (upM M2 46 0 r) → Q2 (.inl (some (vI r))) M2) → AM ev false 7 t_X7_addCloud [vR 0, vI a1, vI a2, vI a3, vI a4] M Q2) : WM ev false 9 t_L_addCloud hh_L_addCloud [vR 0, vI a1, vI a2, vI a3, vI a4, vR 46] M Q := by
  refine WM.of (by decide +kernel) (Nat.le_of_ble_eq_true rfl) (fun g hc hw => ?_)
  have hR := hw.1
  change GW ev t_L_addCloud g 0 0 0 [some (vR 0), some (vI a1), some (vI a2), some (vI a3), some (vI a4), some (vR 46), none] [] M
  refine gw_aload hc (dc_at pd_L_addCloud 0 0 (.aload 5) 2 rfl) rfl ?_
  refine gw_iconst hc (dc_at pd_L_addCloud 1 2 (.iconst 0) 1 rfl) ?_
  refine gw_aload_n hc (dc_at pd_L_addCloud 2 3 (.aload_n 0) 1 rfl) rfl ?_
  refine gw_iload_n hc (dc_at pd_L_addCloud 3 4 (.iload_n 1) 1 rfl) rfl ?_
  refine gw_iload_n hc (dc_at pd_L_addCloud 4 5 (.iload_n 2) 1 rfl) rfl ?_
  refine gw_iload_n hc (dc_at pd_L_addCloud 5 6 (.iload_n 3) 1 rfl) rfl ?_
  refine gw_iload hc (dc_at pd_L_addCloud 6 7 (.iload 4) 2 rfl) rfl ?_
  refine gw_callV hc (d' := 7) [vI a1, vI a2, vI a3, vI a4] [vI 0, vR 46] vm_X7_addCloud rfl hL_L_addCloud (dc_at pd_L_addCloud 7 9 (.invokevirtual 39) 3 rfl) (by rw [hR]; exact ⟨Nat.le_of_ble_eq_true rfl, Nat.le_of_ble_eq_true rfl⟩) ⟨Nat.zero_le _, Nat.zero_le _⟩ rfl (Nat.le_of_ble_eq_true rfl) (h _ (fun r M2 hi hq => ?_))
  change GW ev t_L_addCloud g 0 0 12 [some (vR 0), some (vI a1), some (vI a2), some (vI a3), some (vI a4), some (vR 46), none] [vI r, vI 0, vR 46] M2
  refine gw_i2l hc hi (dc_at pd_L_addCloud 8 12 (.i2l) 1 rfl) ?_
  refine gw_last hc (dc_at pd_L_addCloud 9 13 (.lastore) 1 rfl) ?_
  refine gw_goto (to := 29) hc (by decide) (dc_at pd_L_addCloud 10 14 (.goto 15) 3 rfl) ?_
  refine gw_iconst hc (dc_at pd_L_addCloud 20 29 (.iconst 0) 1 rfl) ?_
  exact gw_iret hc hw rfl hq (dc_at pd_L_addCloud 21 30 (.ireturn) 1 rfl)
theorem w_L_addCloud_x1 {ev : Ev} {M : Mem} {Q : Int → Mem → Prop} (a1 a2 a3 a4 : Int) (h : ∀ Q2 : Out → Mem → Prop, (∀ (M2 : Mem), Q 1 M2 → Q2 (.inr "java/lang/IndexOutOfBoundsException") M2) → AM ev true 7 t_X7_addCloud [vR 0, vI a1, vI a2, vI a3, vI a4] M Q2) : WM ev true 9 t_L_addCloud hh_L_addCloud [vR 0, vI a1, vI a2, vI a3, vI a4, vR 46] M Q := by
  refine WM.of (by decide +kernel) (Nat.le_of_ble_eq_true rfl) (fun g hc hw => ?_)
  have hR := hw.1
  have hnc := hc.2.2.2.2.2.2
  change GW ev t_L_addCloud g 0 0 0 [some (vR 0), some (vI a1), some (vI a2), some (vI a3), some (vI a4), some (vR 46), none] [] M
  refine gw_aload hc (dc_at pd_L_addCloud 0 0 (.aload 5) 2 rfl) rfl ?_
  refine gw_iconst hc (dc_at pd_L_addCloud 1 2 (.iconst 0) 1 rfl) ?_
  refine gw_aload_n hc (dc_at pd_L_addCloud 2 3 (.aload_n 0) 1 rfl) rfl ?_
  refine gw_iload_n hc (dc_at pd_L_addCloud 3 4 (.iload_n 1) 1 rfl) rfl ?_
  refine gw_iload_n hc (dc_at pd_L_addCloud 4 5 (.iload_n 2) 1 rfl) rfl ?_
  refine gw_iload_n hc (dc_at pd_L_addCloud 5 6 (.iload_n 3) 1 rfl) rfl ?_
  refine gw_iload hc (dc_at pd_L_addCloud 6 7 (.iload 4) 2 rfl) rfl ?_
  refine gw_callVT hc hw (d' := 7) [vI a1, vI a2, vI a3, vI a4] [vI 0, vR 46] "java/lang/IndexOutOfBoundsException" vm_X7_addCloud rfl hL_L_addCloud (dc_at pd_L_addCloud 7 9 (.invokevirtual 39) 3 rfl) (by decide) rfl (Nat.le_of_ble_eq_true rfl) [] ⟨0, 14, 17, 13⟩ [⟨0, 14, 21, 15⟩, ⟨0, 14, 25, 25⟩] rfl (fun z hz => by simp at hz) rfl (by decide) lkL_13 csL_13 (gw_ast hc (by decide) (dc_at pd_L_addCloud 11 17 (.astore 6) 2 rfl)) (h _ (fun M2 hq => ⟨rfl, ?_⟩))
  change GW ev t_L_addCloud g 1 6 19 [some (vR 0), some (vI a1), some (vI a2), some (vI a3), some (vI a4), some (vR 46), none] [] M2
  refine gw_iconst hc (dc_at pd_L_addCloud 12 19 (.iconst 1) 1 rfl) ?_
  exact gw_iret hc hw rfl hq (dc_at pd_L_addCloud 13 20 (.ireturn) 1 rfl)
theorem w_L_addCloud_x2 {ev : Ev} {M : Mem} {Q : Int → Mem → Prop} (a1 a2 a3 a4 : Int) (h : ∀ Q2 : Out → Mem → Prop, (∀ (M2 : Mem), Q 2 M2 → Q2 (.inr "java/lang/IllegalArgumentException") M2) → AM ev true 7 t_X7_addCloud [vR 0, vI a1, vI a2, vI a3, vI a4] M Q2) : WM ev true 9 t_L_addCloud hh_L_addCloud [vR 0, vI a1, vI a2, vI a3, vI a4, vR 46] M Q := by
  refine WM.of (by decide +kernel) (Nat.le_of_ble_eq_true rfl) (fun g hc hw => ?_)
  have hR := hw.1
  have hnc := hc.2.2.2.2.2.2
  change GW ev t_L_addCloud g 0 0 0 [some (vR 0), some (vI a1), some (vI a2), some (vI a3), some (vI a4), some (vR 46), none] [] M
  refine gw_aload hc (dc_at pd_L_addCloud 0 0 (.aload 5) 2 rfl) rfl ?_
  refine gw_iconst hc (dc_at pd_L_addCloud 1 2 (.iconst 0) 1 rfl) ?_
  refine gw_aload_n hc (dc_at pd_L_addCloud 2 3 (.aload_n 0) 1 rfl) rfl ?_
  refine gw_iload_n hc (dc_at pd_L_addCloud 3 4 (.iload_n 1) 1 rfl) rfl ?_
  refine gw_iload_n hc (dc_at pd_L_addCloud 4 5 (.iload_n 2) 1 rfl) rfl ?_
  refine gw_iload_n hc (dc_at pd_L_addCloud 5 6 (.iload_n 3) 1 rfl) rfl ?_
  refine gw_iload hc (dc_at pd_L_addCloud 6 7 (.iload 4) 2 rfl) rfl ?_
  refine gw_callVT hc hw (d' := 7) [vI a1, vI a2, vI a3, vI a4] [vI 0, vR 46] "java/lang/IllegalArgumentException" vm_X7_addCloud rfl hL_L_addCloud (dc_at pd_L_addCloud 7 9 (.invokevirtual 39) 3 rfl) (by decide) rfl (Nat.le_of_ble_eq_true rfl) [⟨0, 14, 17, 13⟩] ⟨0, 14, 21, 15⟩ [⟨0, 14, 25, 25⟩] rfl (fun z hz => by
    simp only [List.mem_cons, List.not_mem_nil, or_false] at hz
    rcases hz with rfl
    · exact ⟨by decide, _, lkL_13, hnc.1⟩) rfl (by decide) lkL_15 csL_15 (gw_ast hc (by decide) (dc_at pd_L_addCloud 14 21 (.astore 6) 2 rfl)) (h _ (fun M2 hq => ⟨rfl, ?_⟩))
  change GW ev t_L_addCloud g 1 6 23 [some (vR 0), some (vI a1), some (vI a2), some (vI a3), some (vI a4), some (vR 46), none] [] M2
  refine gw_iconst hc (dc_at pd_L_addCloud 15 23 (.iconst 2) 1 rfl) ?_
  exact gw_iret hc hw rfl hq (dc_at pd_L_addCloud 16 24 (.ireturn) 1 rfl)
theorem w_L_addCloud_x3 {ev : Ev} {M : Mem} {Q : Int → Mem → Prop} (a1 a2 a3 a4 : Int) (h : ∀ Q2 : Out → Mem → Prop, (∀ (M2 : Mem), Q 3 M2 → Q2 (.inr "java/lang/IllegalStateException") M2) → AM ev true 7 t_X7_addCloud [vR 0, vI a1, vI a2, vI a3, vI a4] M Q2) : WM ev true 9 t_L_addCloud hh_L_addCloud [vR 0, vI a1, vI a2, vI a3, vI a4, vR 46] M Q := by
  refine WM.of (by decide +kernel) (Nat.le_of_ble_eq_true rfl) (fun g hc hw => ?_)
  have hR := hw.1
  have hnc := hc.2.2.2.2.2.2
  change GW ev t_L_addCloud g 0 0 0 [some (vR 0), some (vI a1), some (vI a2), some (vI a3), some (vI a4), some (vR 46), none] [] M
  refine gw_aload hc (dc_at pd_L_addCloud 0 0 (.aload 5) 2 rfl) rfl ?_
  refine gw_iconst hc (dc_at pd_L_addCloud 1 2 (.iconst 0) 1 rfl) ?_
  refine gw_aload_n hc (dc_at pd_L_addCloud 2 3 (.aload_n 0) 1 rfl) rfl ?_
  refine gw_iload_n hc (dc_at pd_L_addCloud 3 4 (.iload_n 1) 1 rfl) rfl ?_
  refine gw_iload_n hc (dc_at pd_L_addCloud 4 5 (.iload_n 2) 1 rfl) rfl ?_
  refine gw_iload_n hc (dc_at pd_L_addCloud 5 6 (.iload_n 3) 1 rfl) rfl ?_
  refine gw_iload hc (dc_at pd_L_addCloud 6 7 (.iload 4) 2 rfl) rfl ?_
  refine gw_callVT hc hw (d' := 7) [vI a1, vI a2, vI a3, vI a4] [vI 0, vR 46] "java/lang/IllegalStateException" vm_X7_addCloud rfl hL_L_addCloud (dc_at pd_L_addCloud 7 9 (.invokevirtual 39) 3 rfl) (by decide) rfl (Nat.le_of_ble_eq_true rfl) [⟨0, 14, 17, 13⟩, ⟨0, 14, 21, 15⟩] ⟨0, 14, 25, 25⟩ [] rfl (fun z hz => by
    simp only [List.mem_cons, List.not_mem_nil, or_false] at hz
    rcases hz with rfl | rfl
    · exact ⟨by decide, _, lkL_13, hnc.2.1⟩
    · exact ⟨by decide, _, lkL_15, hnc.2.2⟩) rfl (by decide) lkL_25 csL_25 (gw_ast hc (by decide) (dc_at pd_L_addCloud 17 25 (.astore 6) 2 rfl)) (h _ (fun M2 hq => ⟨rfl, ?_⟩))
  change GW ev t_L_addCloud g 1 6 27 [some (vR 0), some (vI a1), some (vI a2), some (vI a3), some (vI a4), some (vR 46), none] [] M2
  refine gw_iconst hc (dc_at pd_L_addCloud 18 27 (.iconst 3) 1 rfl) ?_
  exact gw_iret hc hw rfl hq (dc_at pd_L_addCloud 19 28 (.ireturn) 1 rfl)
def p_L_send : Pg := [(0, .aload 5, 2), (2, .iconst 0, 1), (3, .aload_n 0, 1), (4, .iload_n 1, 1), (5, .iload_n 2, 1), (6, .iload_n 3, 1), (7, .iload 4, 2), (9, .invokevirtual 43, 3), (12, .i2l, 1), (13, .lastore, 1), (14, .goto 15, 3), (17, .astore 6, 2), (19, .iconst 1, 1), (20, .ireturn, 1), (21, .astore 6, 2), (23, .iconst 2, 1), (24, .ireturn, 1), (25, .astore 6, 2), (27, .iconst 3, 1), (28, .ireturn, 1), (29, .iconst 0, 1), (30, .ireturn, 1)]
def t_L_send : MT := (yL_send, cL_send, 7, some .int, [], [])
theorem pd_L_send : dcB (mC t_L_send) p_L_send = true := by decide +kernel
abbrev hh_L_send : List (Nat × Nat × Nat × Nat) := [(0, 14, 17, 13), (0, 14, 21, 15), (0, 14, 25, 25)]
theorem sw_L_send : SWok t_L_send hh_L_send 6 := ⟨bm 856 _ (by decide +kernel) (by decide +kernel), bm 67 _ (by decide +kernel) (by decide +kernel), bm 857 _ (by decide +kernel) (by decide +kernel), by decide +kernel, by decide⟩
theorem hL_L_send : Cond.methodLink RL 43 yX7_send ∈ lw_big := bm 858 _ (by decide +kernel) (by decide +kernel)
theorem w_L_send {ev : Ev} {M : Mem} {Q : Int → Mem → Prop} (a1 a2 a3 a4 : Int) (h : ∀ Q2 : Out → Mem → Prop, (∀ (r : Int) (M2 : Mem), Inr r → Q 0 (upM M2 46 0 r) → Q2 (.inl (some (vI r))) M2) → AM ev false 8 t_X7_send [vR 0, vI a1, vI a2, vI a3, vI a4] M Q2) : WM ev false 9 t_L_send hh_L_send [vR 0, vI a1, vI a2, vI a3, vI a4, vR 46] M Q := by
  refine WM.of (by decide +kernel) (Nat.le_of_ble_eq_true rfl) (fun g hc hw => ?_)
  have hR := hw.1
  change GW ev t_L_send g 0 0 0 [some (vR 0), some (vI a1), some (vI a2), some (vI a3), some (vI a4), some (vR 46), none] [] M
  refine gw_aload hc (dc_at pd_L_send 0 0 (.aload 5) 2 rfl) rfl ?_
  refine gw_iconst hc (dc_at pd_L_send 1 2 (.iconst 0) 1 rfl) ?_
  refine gw_aload_n hc (dc_at pd_L_send 2 3 (.aload_n 0) 1 rfl) rfl ?_
  refine gw_iload_n hc (dc_at pd_L_send 3 4 (.iload_n 1) 1 rfl) rfl ?_
  refine gw_iload_n hc (dc_at pd_L_send 4 5 (.iload_n 2) 1 rfl) rfl ?_
  refine gw_iload_n hc (dc_at pd_L_send 5 6 (.iload_n 3) 1 rfl) rfl ?_
  refine gw_iload hc (dc_at pd_L_send 6 7 (.iload 4) 2 rfl) rfl ?_
  refine gw_callV hc (d' := 8) [vI a1, vI a2, vI a3, vI a4] [vI 0, vR 46] vm_X7_send rfl hL_L_send (dc_at pd_L_send 7 9 (.invokevirtual 43) 3 rfl) (by rw [hR]; exact ⟨Nat.le_of_ble_eq_true rfl, Nat.le_of_ble_eq_true rfl⟩) ⟨Nat.zero_le _, Nat.zero_le _⟩ rfl (Nat.le_of_ble_eq_true rfl) (h _ (fun r M2 hi hq => ?_))
  change GW ev t_L_send g 0 0 12 [some (vR 0), some (vI a1), some (vI a2), some (vI a3), some (vI a4), some (vR 46), none] [vI r, vI 0, vR 46] M2
  refine gw_i2l hc hi (dc_at pd_L_send 8 12 (.i2l) 1 rfl) ?_
  refine gw_last hc (dc_at pd_L_send 9 13 (.lastore) 1 rfl) ?_
  refine gw_goto (to := 29) hc (by decide) (dc_at pd_L_send 10 14 (.goto 15) 3 rfl) ?_
  refine gw_iconst hc (dc_at pd_L_send 20 29 (.iconst 0) 1 rfl) ?_
  exact gw_iret hc hw rfl hq (dc_at pd_L_send 21 30 (.ireturn) 1 rfl)
theorem w_L_send_x1 {ev : Ev} {M : Mem} {Q : Int → Mem → Prop} (a1 a2 a3 a4 : Int) (h : ∀ Q2 : Out → Mem → Prop, (∀ (M2 : Mem), Q 1 M2 → Q2 (.inr "java/lang/IndexOutOfBoundsException") M2) → AM ev true 8 t_X7_send [vR 0, vI a1, vI a2, vI a3, vI a4] M Q2) : WM ev true 9 t_L_send hh_L_send [vR 0, vI a1, vI a2, vI a3, vI a4, vR 46] M Q := by
  refine WM.of (by decide +kernel) (Nat.le_of_ble_eq_true rfl) (fun g hc hw => ?_)
  have hR := hw.1
  have hnc := hc.2.2.2.2.2.2
  change GW ev t_L_send g 0 0 0 [some (vR 0), some (vI a1), some (vI a2), some (vI a3), some (vI a4), some (vR 46), none] [] M
  refine gw_aload hc (dc_at pd_L_send 0 0 (.aload 5) 2 rfl) rfl ?_
  refine gw_iconst hc (dc_at pd_L_send 1 2 (.iconst 0) 1 rfl) ?_
  refine gw_aload_n hc (dc_at pd_L_send 2 3 (.aload_n 0) 1 rfl) rfl ?_
  refine gw_iload_n hc (dc_at pd_L_send 3 4 (.iload_n 1) 1 rfl) rfl ?_
  refine gw_iload_n hc (dc_at pd_L_send 4 5 (.iload_n 2) 1 rfl) rfl ?_
  refine gw_iload_n hc (dc_at pd_L_send 5 6 (.iload_n 3) 1 rfl) rfl ?_
  refine gw_iload hc (dc_at pd_L_send 6 7 (.iload 4) 2 rfl) rfl ?_
  refine gw_callVT hc hw (d' := 8) [vI a1, vI a2, vI a3, vI a4] [vI 0, vR 46] "java/lang/IndexOutOfBoundsException" vm_X7_send rfl hL_L_send (dc_at pd_L_send 7 9 (.invokevirtual 43) 3 rfl) (by decide) rfl (Nat.le_of_ble_eq_true rfl) [] ⟨0, 14, 17, 13⟩ [⟨0, 14, 21, 15⟩, ⟨0, 14, 25, 25⟩] rfl (fun z hz => by simp at hz) rfl (by decide) lkL_13 csL_13 (gw_ast hc (by decide) (dc_at pd_L_send 11 17 (.astore 6) 2 rfl)) (h _ (fun M2 hq => ⟨rfl, ?_⟩))
  change GW ev t_L_send g 1 6 19 [some (vR 0), some (vI a1), some (vI a2), some (vI a3), some (vI a4), some (vR 46), none] [] M2
  refine gw_iconst hc (dc_at pd_L_send 12 19 (.iconst 1) 1 rfl) ?_
  exact gw_iret hc hw rfl hq (dc_at pd_L_send 13 20 (.ireturn) 1 rfl)
theorem w_L_send_x2 {ev : Ev} {M : Mem} {Q : Int → Mem → Prop} (a1 a2 a3 a4 : Int) (h : ∀ Q2 : Out → Mem → Prop, (∀ (M2 : Mem), Q 2 M2 → Q2 (.inr "java/lang/IllegalArgumentException") M2) → AM ev true 8 t_X7_send [vR 0, vI a1, vI a2, vI a3, vI a4] M Q2) : WM ev true 9 t_L_send hh_L_send [vR 0, vI a1, vI a2, vI a3, vI a4, vR 46] M Q := by
  refine WM.of (by decide +kernel) (Nat.le_of_ble_eq_true rfl) (fun g hc hw => ?_)
  have hR := hw.1
  have hnc := hc.2.2.2.2.2.2
  change GW ev t_L_send g 0 0 0 [some (vR 0), some (vI a1), some (vI a2), some (vI a3), some (vI a4), some (vR 46), none] [] M
  refine gw_aload hc (dc_at pd_L_send 0 0 (.aload 5) 2 rfl) rfl ?_
  refine gw_iconst hc (dc_at pd_L_send 1 2 (.iconst 0) 1 rfl) ?_
  refine gw_aload_n hc (dc_at pd_L_send 2 3 (.aload_n 0) 1 rfl) rfl ?_
  refine gw_iload_n hc (dc_at pd_L_send 3 4 (.iload_n 1) 1 rfl) rfl ?_
  refine gw_iload_n hc (dc_at pd_L_send 4 5 (.iload_n 2) 1 rfl) rfl ?_
  refine gw_iload_n hc (dc_at pd_L_send 5 6 (.iload_n 3) 1 rfl) rfl ?_
  refine gw_iload hc (dc_at pd_L_send 6 7 (.iload 4) 2 rfl) rfl ?_
  refine gw_callVT hc hw (d' := 8) [vI a1, vI a2, vI a3, vI a4] [vI 0, vR 46] "java/lang/IllegalArgumentException" vm_X7_send rfl hL_L_send (dc_at pd_L_send 7 9 (.invokevirtual 43) 3 rfl) (by decide) rfl (Nat.le_of_ble_eq_true rfl) [⟨0, 14, 17, 13⟩] ⟨0, 14, 21, 15⟩ [⟨0, 14, 25, 25⟩] rfl (fun z hz => by
    simp only [List.mem_cons, List.not_mem_nil, or_false] at hz
    rcases hz with rfl
    · exact ⟨by decide, _, lkL_13, hnc.1⟩) rfl (by decide) lkL_15 csL_15 (gw_ast hc (by decide) (dc_at pd_L_send 14 21 (.astore 6) 2 rfl)) (h _ (fun M2 hq => ⟨rfl, ?_⟩))
  change GW ev t_L_send g 1 6 23 [some (vR 0), some (vI a1), some (vI a2), some (vI a3), some (vI a4), some (vR 46), none] [] M2
  refine gw_iconst hc (dc_at pd_L_send 15 23 (.iconst 2) 1 rfl) ?_
  exact gw_iret hc hw rfl hq (dc_at pd_L_send 16 24 (.ireturn) 1 rfl)
theorem w_L_send_x3 {ev : Ev} {M : Mem} {Q : Int → Mem → Prop} (a1 a2 a3 a4 : Int) (h : ∀ Q2 : Out → Mem → Prop, (∀ (M2 : Mem), Q 3 M2 → Q2 (.inr "java/lang/IllegalStateException") M2) → AM ev true 8 t_X7_send [vR 0, vI a1, vI a2, vI a3, vI a4] M Q2) : WM ev true 9 t_L_send hh_L_send [vR 0, vI a1, vI a2, vI a3, vI a4, vR 46] M Q := by
  refine WM.of (by decide +kernel) (Nat.le_of_ble_eq_true rfl) (fun g hc hw => ?_)
  have hR := hw.1
  have hnc := hc.2.2.2.2.2.2
  change GW ev t_L_send g 0 0 0 [some (vR 0), some (vI a1), some (vI a2), some (vI a3), some (vI a4), some (vR 46), none] [] M
  refine gw_aload hc (dc_at pd_L_send 0 0 (.aload 5) 2 rfl) rfl ?_
  refine gw_iconst hc (dc_at pd_L_send 1 2 (.iconst 0) 1 rfl) ?_
  refine gw_aload_n hc (dc_at pd_L_send 2 3 (.aload_n 0) 1 rfl) rfl ?_
  refine gw_iload_n hc (dc_at pd_L_send 3 4 (.iload_n 1) 1 rfl) rfl ?_
  refine gw_iload_n hc (dc_at pd_L_send 4 5 (.iload_n 2) 1 rfl) rfl ?_
  refine gw_iload_n hc (dc_at pd_L_send 5 6 (.iload_n 3) 1 rfl) rfl ?_
  refine gw_iload hc (dc_at pd_L_send 6 7 (.iload 4) 2 rfl) rfl ?_
  refine gw_callVT hc hw (d' := 8) [vI a1, vI a2, vI a3, vI a4] [vI 0, vR 46] "java/lang/IllegalStateException" vm_X7_send rfl hL_L_send (dc_at pd_L_send 7 9 (.invokevirtual 43) 3 rfl) (by decide) rfl (Nat.le_of_ble_eq_true rfl) [⟨0, 14, 17, 13⟩, ⟨0, 14, 21, 15⟩] ⟨0, 14, 25, 25⟩ [] rfl (fun z hz => by
    simp only [List.mem_cons, List.not_mem_nil, or_false] at hz
    rcases hz with rfl | rfl
    · exact ⟨by decide, _, lkL_13, hnc.2.1⟩
    · exact ⟨by decide, _, lkL_15, hnc.2.2⟩) rfl (by decide) lkL_25 csL_25 (gw_ast hc (by decide) (dc_at pd_L_send 17 25 (.astore 6) 2 rfl)) (h _ (fun M2 hq => ⟨rfl, ?_⟩))
  change GW ev t_L_send g 1 6 27 [some (vR 0), some (vI a1), some (vI a2), some (vI a3), some (vI a4), some (vR 46), none] [] M2
  refine gw_iconst hc (dc_at pd_L_send 18 27 (.iconst 3) 1 rfl) ?_
  exact gw_iret hc hw rfl hq (dc_at pd_L_send 19 28 (.ireturn) 1 rfl)
def p_L_cancel : Pg := [(0, .aload_n 2, 1), (1, .iconst 0, 1), (2, .aload_n 0, 1), (3, .iload_n 1, 1), (4, .invokevirtual 46, 3), (7, .i2l, 1), (8, .lastore, 1), (9, .goto 6, 3), (12, .astore_n 3, 1), (13, .iconst 1, 1), (14, .ireturn, 1), (15, .iconst 0, 1), (16, .ireturn, 1)]
def t_L_cancel : MT := (yL_cancel, cL_cancel, 4, some .int, [], [])
theorem pd_L_cancel : dcB (mC t_L_cancel) p_L_cancel = true := by decide +kernel
abbrev hh_L_cancel : List (Nat × Nat × Nat × Nat) := [(0, 9, 12, 13)]
theorem sw_L_cancel : SWok t_L_cancel hh_L_cancel 3 := ⟨bm 870 _ (by decide +kernel) (by decide +kernel), bm 67 _ (by decide +kernel) (by decide +kernel), bm 871 _ (by decide +kernel) (by decide +kernel), by decide +kernel, by decide⟩
theorem hL_L_cancel : Cond.methodLink RL 46 yX7_cancel ∈ lw_big := bm 872 _ (by decide +kernel) (by decide +kernel)
theorem w_L_cancel {ev : Ev} {M : Mem} {Q : Int → Mem → Prop} (a1 : Int) (h : ∀ Q2 : Out → Mem → Prop, (∀ (r : Int) (M2 : Mem), Inr r → Q 0 (upM M2 46 0 r) → Q2 (.inl (some (vI r))) M2) → AM ev false 7 t_X7_cancel [vR 0, vI a1] M Q2) : WM ev false 9 t_L_cancel hh_L_cancel [vR 0, vI a1, vR 46] M Q := by
  refine WM.of (by decide +kernel) (Nat.le_of_ble_eq_true rfl) (fun g hc hw => ?_)
  have hR := hw.1
  change GW ev t_L_cancel g 0 0 0 [some (vR 0), some (vI a1), some (vR 46), none] [] M
  refine gw_aload_n hc (dc_at pd_L_cancel 0 0 (.aload_n 2) 1 rfl) rfl ?_
  refine gw_iconst hc (dc_at pd_L_cancel 1 1 (.iconst 0) 1 rfl) ?_
  refine gw_aload_n hc (dc_at pd_L_cancel 2 2 (.aload_n 0) 1 rfl) rfl ?_
  refine gw_iload_n hc (dc_at pd_L_cancel 3 3 (.iload_n 1) 1 rfl) rfl ?_
  refine gw_callV hc (d' := 7) [vI a1] [vI 0, vR 46] vm_X7_cancel rfl hL_L_cancel (dc_at pd_L_cancel 4 4 (.invokevirtual 46) 3 rfl) (by rw [hR]; exact ⟨Nat.le_of_ble_eq_true rfl, Nat.le_of_ble_eq_true rfl⟩) ⟨Nat.zero_le _, Nat.zero_le _⟩ rfl (Nat.le_of_ble_eq_true rfl) (h _ (fun r M2 hi hq => ?_))
  change GW ev t_L_cancel g 0 0 7 [some (vR 0), some (vI a1), some (vR 46), none] [vI r, vI 0, vR 46] M2
  refine gw_i2l hc hi (dc_at pd_L_cancel 5 7 (.i2l) 1 rfl) ?_
  refine gw_last hc (dc_at pd_L_cancel 6 8 (.lastore) 1 rfl) ?_
  refine gw_goto (to := 15) hc (by decide) (dc_at pd_L_cancel 7 9 (.goto 6) 3 rfl) ?_
  refine gw_iconst hc (dc_at pd_L_cancel 11 15 (.iconst 0) 1 rfl) ?_
  exact gw_iret hc hw rfl hq (dc_at pd_L_cancel 12 16 (.ireturn) 1 rfl)
theorem w_L_cancel_x1 {ev : Ev} {M : Mem} {Q : Int → Mem → Prop} (a1 : Int) (h : ∀ Q2 : Out → Mem → Prop, (∀ (M2 : Mem), Q 1 M2 → Q2 (.inr "java/lang/IndexOutOfBoundsException") M2) → AM ev true 7 t_X7_cancel [vR 0, vI a1] M Q2) : WM ev true 9 t_L_cancel hh_L_cancel [vR 0, vI a1, vR 46] M Q := by
  refine WM.of (by decide +kernel) (Nat.le_of_ble_eq_true rfl) (fun g hc hw => ?_)
  have hR := hw.1
  have hnc := hc.2.2.2.2.2.2
  change GW ev t_L_cancel g 0 0 0 [some (vR 0), some (vI a1), some (vR 46), none] [] M
  refine gw_aload_n hc (dc_at pd_L_cancel 0 0 (.aload_n 2) 1 rfl) rfl ?_
  refine gw_iconst hc (dc_at pd_L_cancel 1 1 (.iconst 0) 1 rfl) ?_
  refine gw_aload_n hc (dc_at pd_L_cancel 2 2 (.aload_n 0) 1 rfl) rfl ?_
  refine gw_iload_n hc (dc_at pd_L_cancel 3 3 (.iload_n 1) 1 rfl) rfl ?_
  refine gw_callVT hc hw (d' := 7) [vI a1] [vI 0, vR 46] "java/lang/IndexOutOfBoundsException" vm_X7_cancel rfl hL_L_cancel (dc_at pd_L_cancel 4 4 (.invokevirtual 46) 3 rfl) (by decide) rfl (Nat.le_of_ble_eq_true rfl) [] ⟨0, 9, 12, 13⟩ [] rfl (fun z hz => by simp at hz) rfl (by decide) lkL_13 csL_13 (gw_astn hc (by decide) (dc_at pd_L_cancel 8 12 (.astore_n 3) 1 rfl)) (h _ (fun M2 hq => ⟨rfl, ?_⟩))
  change GW ev t_L_cancel g 1 6 13 [some (vR 0), some (vI a1), some (vR 46), none] [] M2
  refine gw_iconst hc (dc_at pd_L_cancel 9 13 (.iconst 1) 1 rfl) ?_
  exact gw_iret hc hw rfl hq (dc_at pd_L_cancel 10 14 (.ireturn) 1 rfl)
def p_L_count : Pg := [(0, .aload_n 2, 1), (1, .iconst 0, 1), (2, .aload_n 0, 1), (3, .iload_n 1, 1), (4, .invokevirtual 49, 3), (7, .i2l, 1), (8, .lastore, 1), (9, .goto 6, 3), (12, .astore_n 3, 1), (13, .iconst 1, 1), (14, .ireturn, 1), (15, .iconst 0, 1), (16, .ireturn, 1)]
def t_L_count : MT := (yL_count, cL_count, 4, some .int, [], [])
theorem pd_L_count : dcB (mC t_L_count) p_L_count = true := by decide +kernel
abbrev hh_L_count : List (Nat × Nat × Nat × Nat) := [(0, 9, 12, 15)]
theorem sw_L_count : SWok t_L_count hh_L_count 3 := ⟨bm 890 _ (by decide +kernel) (by decide +kernel), bm 67 _ (by decide +kernel) (by decide +kernel), bm 891 _ (by decide +kernel) (by decide +kernel), by decide +kernel, by decide⟩
theorem hL_L_count : Cond.methodLink RL 49 yX7_count ∈ lw_big := bm 892 _ (by decide +kernel) (by decide +kernel)
theorem w_L_count {ev : Ev} {M : Mem} {Q : Int → Mem → Prop} (a1 : Int) (h : ∀ Q2 : Out → Mem → Prop, (∀ (r : Int) (M2 : Mem), Inr r → Q 0 (upM M2 46 0 r) → Q2 (.inl (some (vI r))) M2) → AM ev false 7 t_X7_count [vR 0, vI a1] M Q2) : WM ev false 9 t_L_count hh_L_count [vR 0, vI a1, vR 46] M Q := by
  refine WM.of (by decide +kernel) (Nat.le_of_ble_eq_true rfl) (fun g hc hw => ?_)
  have hR := hw.1
  change GW ev t_L_count g 0 0 0 [some (vR 0), some (vI a1), some (vR 46), none] [] M
  refine gw_aload_n hc (dc_at pd_L_count 0 0 (.aload_n 2) 1 rfl) rfl ?_
  refine gw_iconst hc (dc_at pd_L_count 1 1 (.iconst 0) 1 rfl) ?_
  refine gw_aload_n hc (dc_at pd_L_count 2 2 (.aload_n 0) 1 rfl) rfl ?_
  refine gw_iload_n hc (dc_at pd_L_count 3 3 (.iload_n 1) 1 rfl) rfl ?_
  refine gw_callV hc (d' := 7) [vI a1] [vI 0, vR 46] vm_X7_count rfl hL_L_count (dc_at pd_L_count 4 4 (.invokevirtual 49) 3 rfl) (by rw [hR]; exact ⟨Nat.le_of_ble_eq_true rfl, Nat.le_of_ble_eq_true rfl⟩) ⟨Nat.zero_le _, Nat.zero_le _⟩ rfl (Nat.le_of_ble_eq_true rfl) (h _ (fun r M2 hi hq => ?_))
  change GW ev t_L_count g 0 0 7 [some (vR 0), some (vI a1), some (vR 46), none] [vI r, vI 0, vR 46] M2
  refine gw_i2l hc hi (dc_at pd_L_count 5 7 (.i2l) 1 rfl) ?_
  refine gw_last hc (dc_at pd_L_count 6 8 (.lastore) 1 rfl) ?_
  refine gw_goto (to := 15) hc (by decide) (dc_at pd_L_count 7 9 (.goto 6) 3 rfl) ?_
  refine gw_iconst hc (dc_at pd_L_count 11 15 (.iconst 0) 1 rfl) ?_
  exact gw_iret hc hw rfl hq (dc_at pd_L_count 12 16 (.ireturn) 1 rfl)
theorem w_L_count_x1 {ev : Ev} {M : Mem} {Q : Int → Mem → Prop} (a1 : Int) (h : ∀ Q2 : Out → Mem → Prop, (∀ (M2 : Mem), Q 1 M2 → Q2 (.inr "java/lang/IllegalArgumentException") M2) → AM ev true 7 t_X7_count [vR 0, vI a1] M Q2) : WM ev true 9 t_L_count hh_L_count [vR 0, vI a1, vR 46] M Q := by
  refine WM.of (by decide +kernel) (Nat.le_of_ble_eq_true rfl) (fun g hc hw => ?_)
  have hR := hw.1
  have hnc := hc.2.2.2.2.2.2
  change GW ev t_L_count g 0 0 0 [some (vR 0), some (vI a1), some (vR 46), none] [] M
  refine gw_aload_n hc (dc_at pd_L_count 0 0 (.aload_n 2) 1 rfl) rfl ?_
  refine gw_iconst hc (dc_at pd_L_count 1 1 (.iconst 0) 1 rfl) ?_
  refine gw_aload_n hc (dc_at pd_L_count 2 2 (.aload_n 0) 1 rfl) rfl ?_
  refine gw_iload_n hc (dc_at pd_L_count 3 3 (.iload_n 1) 1 rfl) rfl ?_
  refine gw_callVT hc hw (d' := 7) [vI a1] [vI 0, vR 46] "java/lang/IllegalArgumentException" vm_X7_count rfl hL_L_count (dc_at pd_L_count 4 4 (.invokevirtual 49) 3 rfl) (by decide) rfl (Nat.le_of_ble_eq_true rfl) [] ⟨0, 9, 12, 15⟩ [] rfl (fun z hz => by simp at hz) rfl (by decide) lkL_15 csL_15 (gw_astn hc (by decide) (dc_at pd_L_count 8 12 (.astore_n 3) 1 rfl)) (h _ (fun M2 hq => ⟨rfl, ?_⟩))
  change GW ev t_L_count g 1 6 13 [some (vR 0), some (vI a1), some (vR 46), none] [] M2
  refine gw_iconst hc (dc_at pd_L_count 9 13 (.iconst 1) 1 rfl) ?_
  exact gw_iret hc hw rfl hq (dc_at pd_L_count 10 14 (.ireturn) 1 rfl)
def p_L_station : Pg := [(0, .aload_n 3, 1), (1, .iconst 0, 1), (2, .aload_n 0, 1), (3, .iload_n 1, 1), (4, .iload_n 2, 1), (5, .invokevirtual 52, 3), (8, .i2l, 1), (9, .lastore, 1), (10, .goto 11, 3), (13, .astore 4, 2), (15, .iconst 1, 1), (16, .ireturn, 1), (17, .astore 4, 2), (19, .iconst 2, 1), (20, .ireturn, 1), (21, .iconst 0, 1), (22, .ireturn, 1)]
def t_L_station : MT := (yL_station, cL_station, 5, some .int, [], [])
theorem pd_L_station : dcB (mC t_L_station) p_L_station = true := by decide +kernel
abbrev hh_L_station : List (Nat × Nat × Nat × Nat) := [(0, 10, 13, 13), (0, 10, 17, 15)]
theorem sw_L_station : SWok t_L_station hh_L_station 4 := ⟨bm 897 _ (by decide +kernel) (by decide +kernel), bm 67 _ (by decide +kernel) (by decide +kernel), bm 898 _ (by decide +kernel) (by decide +kernel), by decide +kernel, by decide⟩
theorem hL_L_station : Cond.methodLink RL 52 yX7_station ∈ lw_big := bm 899 _ (by decide +kernel) (by decide +kernel)
theorem w_L_station {ev : Ev} {M : Mem} {Q : Int → Mem → Prop} (a1 a2 : Int) (h : ∀ Q2 : Out → Mem → Prop, (∀ (r : Int) (M2 : Mem), Inr r → Q 0 (upM M2 46 0 r) → Q2 (.inl (some (vI r))) M2) → AM ev false 7 t_X7_station [vR 0, vI a1, vI a2] M Q2) : WM ev false 9 t_L_station hh_L_station [vR 0, vI a1, vI a2, vR 46] M Q := by
  refine WM.of (by decide +kernel) (Nat.le_of_ble_eq_true rfl) (fun g hc hw => ?_)
  have hR := hw.1
  change GW ev t_L_station g 0 0 0 [some (vR 0), some (vI a1), some (vI a2), some (vR 46), none] [] M
  refine gw_aload_n hc (dc_at pd_L_station 0 0 (.aload_n 3) 1 rfl) rfl ?_
  refine gw_iconst hc (dc_at pd_L_station 1 1 (.iconst 0) 1 rfl) ?_
  refine gw_aload_n hc (dc_at pd_L_station 2 2 (.aload_n 0) 1 rfl) rfl ?_
  refine gw_iload_n hc (dc_at pd_L_station 3 3 (.iload_n 1) 1 rfl) rfl ?_
  refine gw_iload_n hc (dc_at pd_L_station 4 4 (.iload_n 2) 1 rfl) rfl ?_
  refine gw_callV hc (d' := 7) [vI a1, vI a2] [vI 0, vR 46] vm_X7_station rfl hL_L_station (dc_at pd_L_station 5 5 (.invokevirtual 52) 3 rfl) (by rw [hR]; exact ⟨Nat.le_of_ble_eq_true rfl, Nat.le_of_ble_eq_true rfl⟩) ⟨Nat.zero_le _, Nat.zero_le _⟩ rfl (Nat.le_of_ble_eq_true rfl) (h _ (fun r M2 hi hq => ?_))
  change GW ev t_L_station g 0 0 8 [some (vR 0), some (vI a1), some (vI a2), some (vR 46), none] [vI r, vI 0, vR 46] M2
  refine gw_i2l hc hi (dc_at pd_L_station 6 8 (.i2l) 1 rfl) ?_
  refine gw_last hc (dc_at pd_L_station 7 9 (.lastore) 1 rfl) ?_
  refine gw_goto (to := 21) hc (by decide) (dc_at pd_L_station 8 10 (.goto 11) 3 rfl) ?_
  refine gw_iconst hc (dc_at pd_L_station 15 21 (.iconst 0) 1 rfl) ?_
  exact gw_iret hc hw rfl hq (dc_at pd_L_station 16 22 (.ireturn) 1 rfl)
theorem w_L_station_x1 {ev : Ev} {M : Mem} {Q : Int → Mem → Prop} (a1 a2 : Int) (h : ∀ Q2 : Out → Mem → Prop, (∀ (M2 : Mem), Q 1 M2 → Q2 (.inr "java/lang/IndexOutOfBoundsException") M2) → AM ev true 7 t_X7_station [vR 0, vI a1, vI a2] M Q2) : WM ev true 9 t_L_station hh_L_station [vR 0, vI a1, vI a2, vR 46] M Q := by
  refine WM.of (by decide +kernel) (Nat.le_of_ble_eq_true rfl) (fun g hc hw => ?_)
  have hR := hw.1
  have hnc := hc.2.2.2.2.2.2
  change GW ev t_L_station g 0 0 0 [some (vR 0), some (vI a1), some (vI a2), some (vR 46), none] [] M
  refine gw_aload_n hc (dc_at pd_L_station 0 0 (.aload_n 3) 1 rfl) rfl ?_
  refine gw_iconst hc (dc_at pd_L_station 1 1 (.iconst 0) 1 rfl) ?_
  refine gw_aload_n hc (dc_at pd_L_station 2 2 (.aload_n 0) 1 rfl) rfl ?_
  refine gw_iload_n hc (dc_at pd_L_station 3 3 (.iload_n 1) 1 rfl) rfl ?_
  refine gw_iload_n hc (dc_at pd_L_station 4 4 (.iload_n 2) 1 rfl) rfl ?_
  refine gw_callVT hc hw (d' := 7) [vI a1, vI a2] [vI 0, vR 46] "java/lang/IndexOutOfBoundsException" vm_X7_station rfl hL_L_station (dc_at pd_L_station 5 5 (.invokevirtual 52) 3 rfl) (by decide) rfl (Nat.le_of_ble_eq_true rfl) [] ⟨0, 10, 13, 13⟩ [⟨0, 10, 17, 15⟩] rfl (fun z hz => by simp at hz) rfl (by decide) lkL_13 csL_13 (gw_ast hc (by decide) (dc_at pd_L_station 9 13 (.astore 4) 2 rfl)) (h _ (fun M2 hq => ⟨rfl, ?_⟩))
  change GW ev t_L_station g 1 6 15 [some (vR 0), some (vI a1), some (vI a2), some (vR 46), none] [] M2
  refine gw_iconst hc (dc_at pd_L_station 10 15 (.iconst 1) 1 rfl) ?_
  exact gw_iret hc hw rfl hq (dc_at pd_L_station 11 16 (.ireturn) 1 rfl)
theorem w_L_station_x2 {ev : Ev} {M : Mem} {Q : Int → Mem → Prop} (a1 a2 : Int) (h : ∀ Q2 : Out → Mem → Prop, (∀ (M2 : Mem), Q 2 M2 → Q2 (.inr "java/lang/IllegalArgumentException") M2) → AM ev true 7 t_X7_station [vR 0, vI a1, vI a2] M Q2) : WM ev true 9 t_L_station hh_L_station [vR 0, vI a1, vI a2, vR 46] M Q := by
  refine WM.of (by decide +kernel) (Nat.le_of_ble_eq_true rfl) (fun g hc hw => ?_)
  have hR := hw.1
  have hnc := hc.2.2.2.2.2.2
  change GW ev t_L_station g 0 0 0 [some (vR 0), some (vI a1), some (vI a2), some (vR 46), none] [] M
  refine gw_aload_n hc (dc_at pd_L_station 0 0 (.aload_n 3) 1 rfl) rfl ?_
  refine gw_iconst hc (dc_at pd_L_station 1 1 (.iconst 0) 1 rfl) ?_
  refine gw_aload_n hc (dc_at pd_L_station 2 2 (.aload_n 0) 1 rfl) rfl ?_
  refine gw_iload_n hc (dc_at pd_L_station 3 3 (.iload_n 1) 1 rfl) rfl ?_
  refine gw_iload_n hc (dc_at pd_L_station 4 4 (.iload_n 2) 1 rfl) rfl ?_
  refine gw_callVT hc hw (d' := 7) [vI a1, vI a2] [vI 0, vR 46] "java/lang/IllegalArgumentException" vm_X7_station rfl hL_L_station (dc_at pd_L_station 5 5 (.invokevirtual 52) 3 rfl) (by decide) rfl (Nat.le_of_ble_eq_true rfl) [⟨0, 10, 13, 13⟩] ⟨0, 10, 17, 15⟩ [] rfl (fun z hz => by
    simp only [List.mem_cons, List.not_mem_nil, or_false] at hz
    rcases hz with rfl
    · exact ⟨by decide, _, lkL_13, hnc.1⟩) rfl (by decide) lkL_15 csL_15 (gw_ast hc (by decide) (dc_at pd_L_station 12 17 (.astore 4) 2 rfl)) (h _ (fun M2 hq => ⟨rfl, ?_⟩))
  change GW ev t_L_station g 1 6 19 [some (vR 0), some (vI a1), some (vI a2), some (vR 46), none] [] M2
  refine gw_iconst hc (dc_at pd_L_station 13 19 (.iconst 2) 1 rfl) ?_
  exact gw_iret hc hw rfl hq (dc_at pd_L_station 14 20 (.ireturn) 1 rfl)
def p_L_blocker : Pg := [(0, .aload_n 3, 1), (1, .iconst 0, 1), (2, .aload_n 0, 1), (3, .iload_n 1, 1), (4, .iload_n 2, 1), (5, .invokevirtual 55, 3), (8, .i2l, 1), (9, .lastore, 1), (10, .goto 11, 3), (13, .astore 4, 2), (15, .iconst 1, 1), (16, .ireturn, 1), (17, .astore 4, 2), (19, .iconst 2, 1), (20, .ireturn, 1), (21, .iconst 0, 1), (22, .ireturn, 1)]
def t_L_blocker : MT := (yL_blocker, cL_blocker, 5, some .int, [], [])
theorem pd_L_blocker : dcB (mC t_L_blocker) p_L_blocker = true := by decide +kernel
abbrev hh_L_blocker : List (Nat × Nat × Nat × Nat) := [(0, 10, 13, 13), (0, 10, 17, 15)]
theorem sw_L_blocker : SWok t_L_blocker hh_L_blocker 4 := ⟨bm 904 _ (by decide +kernel) (by decide +kernel), bm 67 _ (by decide +kernel) (by decide +kernel), bm 905 _ (by decide +kernel) (by decide +kernel), by decide +kernel, by decide⟩
theorem hL_L_blocker : Cond.methodLink RL 55 yX7_blocker ∈ lw_big := bm 906 _ (by decide +kernel) (by decide +kernel)
theorem w_L_blocker {ev : Ev} {M : Mem} {Q : Int → Mem → Prop} (a1 a2 : Int) (h : ∀ Q2 : Out → Mem → Prop, (∀ (r : Int) (M2 : Mem), Inr r → Q 0 (upM M2 46 0 r) → Q2 (.inl (some (vI r))) M2) → AM ev false 8 t_X7_blocker [vR 0, vI a1, vI a2] M Q2) : WM ev false 9 t_L_blocker hh_L_blocker [vR 0, vI a1, vI a2, vR 46] M Q := by
  refine WM.of (by decide +kernel) (Nat.le_of_ble_eq_true rfl) (fun g hc hw => ?_)
  have hR := hw.1
  change GW ev t_L_blocker g 0 0 0 [some (vR 0), some (vI a1), some (vI a2), some (vR 46), none] [] M
  refine gw_aload_n hc (dc_at pd_L_blocker 0 0 (.aload_n 3) 1 rfl) rfl ?_
  refine gw_iconst hc (dc_at pd_L_blocker 1 1 (.iconst 0) 1 rfl) ?_
  refine gw_aload_n hc (dc_at pd_L_blocker 2 2 (.aload_n 0) 1 rfl) rfl ?_
  refine gw_iload_n hc (dc_at pd_L_blocker 3 3 (.iload_n 1) 1 rfl) rfl ?_
  refine gw_iload_n hc (dc_at pd_L_blocker 4 4 (.iload_n 2) 1 rfl) rfl ?_
  refine gw_callV hc (d' := 8) [vI a1, vI a2] [vI 0, vR 46] vm_X7_blocker rfl hL_L_blocker (dc_at pd_L_blocker 5 5 (.invokevirtual 55) 3 rfl) (by rw [hR]; exact ⟨Nat.le_of_ble_eq_true rfl, Nat.le_of_ble_eq_true rfl⟩) ⟨Nat.zero_le _, Nat.zero_le _⟩ rfl (Nat.le_of_ble_eq_true rfl) (h _ (fun r M2 hi hq => ?_))
  change GW ev t_L_blocker g 0 0 8 [some (vR 0), some (vI a1), some (vI a2), some (vR 46), none] [vI r, vI 0, vR 46] M2
  refine gw_i2l hc hi (dc_at pd_L_blocker 6 8 (.i2l) 1 rfl) ?_
  refine gw_last hc (dc_at pd_L_blocker 7 9 (.lastore) 1 rfl) ?_
  refine gw_goto (to := 21) hc (by decide) (dc_at pd_L_blocker 8 10 (.goto 11) 3 rfl) ?_
  refine gw_iconst hc (dc_at pd_L_blocker 15 21 (.iconst 0) 1 rfl) ?_
  exact gw_iret hc hw rfl hq (dc_at pd_L_blocker 16 22 (.ireturn) 1 rfl)
theorem w_L_blocker_x1 {ev : Ev} {M : Mem} {Q : Int → Mem → Prop} (a1 a2 : Int) (h : ∀ Q2 : Out → Mem → Prop, (∀ (M2 : Mem), Q 1 M2 → Q2 (.inr "java/lang/IndexOutOfBoundsException") M2) → AM ev true 8 t_X7_blocker [vR 0, vI a1, vI a2] M Q2) : WM ev true 9 t_L_blocker hh_L_blocker [vR 0, vI a1, vI a2, vR 46] M Q := by
  refine WM.of (by decide +kernel) (Nat.le_of_ble_eq_true rfl) (fun g hc hw => ?_)
  have hR := hw.1
  have hnc := hc.2.2.2.2.2.2
  change GW ev t_L_blocker g 0 0 0 [some (vR 0), some (vI a1), some (vI a2), some (vR 46), none] [] M
  refine gw_aload_n hc (dc_at pd_L_blocker 0 0 (.aload_n 3) 1 rfl) rfl ?_
  refine gw_iconst hc (dc_at pd_L_blocker 1 1 (.iconst 0) 1 rfl) ?_
  refine gw_aload_n hc (dc_at pd_L_blocker 2 2 (.aload_n 0) 1 rfl) rfl ?_
  refine gw_iload_n hc (dc_at pd_L_blocker 3 3 (.iload_n 1) 1 rfl) rfl ?_
  refine gw_iload_n hc (dc_at pd_L_blocker 4 4 (.iload_n 2) 1 rfl) rfl ?_
  refine gw_callVT hc hw (d' := 8) [vI a1, vI a2] [vI 0, vR 46] "java/lang/IndexOutOfBoundsException" vm_X7_blocker rfl hL_L_blocker (dc_at pd_L_blocker 5 5 (.invokevirtual 55) 3 rfl) (by decide) rfl (Nat.le_of_ble_eq_true rfl) [] ⟨0, 10, 13, 13⟩ [⟨0, 10, 17, 15⟩] rfl (fun z hz => by simp at hz) rfl (by decide) lkL_13 csL_13 (gw_ast hc (by decide) (dc_at pd_L_blocker 9 13 (.astore 4) 2 rfl)) (h _ (fun M2 hq => ⟨rfl, ?_⟩))
  change GW ev t_L_blocker g 1 6 15 [some (vR 0), some (vI a1), some (vI a2), some (vR 46), none] [] M2
  refine gw_iconst hc (dc_at pd_L_blocker 10 15 (.iconst 1) 1 rfl) ?_
  exact gw_iret hc hw rfl hq (dc_at pd_L_blocker 11 16 (.ireturn) 1 rfl)
theorem w_L_blocker_x2 {ev : Ev} {M : Mem} {Q : Int → Mem → Prop} (a1 a2 : Int) (h : ∀ Q2 : Out → Mem → Prop, (∀ (M2 : Mem), Q 2 M2 → Q2 (.inr "java/lang/IllegalArgumentException") M2) → AM ev true 8 t_X7_blocker [vR 0, vI a1, vI a2] M Q2) : WM ev true 9 t_L_blocker hh_L_blocker [vR 0, vI a1, vI a2, vR 46] M Q := by
  refine WM.of (by decide +kernel) (Nat.le_of_ble_eq_true rfl) (fun g hc hw => ?_)
  have hR := hw.1
  have hnc := hc.2.2.2.2.2.2
  change GW ev t_L_blocker g 0 0 0 [some (vR 0), some (vI a1), some (vI a2), some (vR 46), none] [] M
  refine gw_aload_n hc (dc_at pd_L_blocker 0 0 (.aload_n 3) 1 rfl) rfl ?_
  refine gw_iconst hc (dc_at pd_L_blocker 1 1 (.iconst 0) 1 rfl) ?_
  refine gw_aload_n hc (dc_at pd_L_blocker 2 2 (.aload_n 0) 1 rfl) rfl ?_
  refine gw_iload_n hc (dc_at pd_L_blocker 3 3 (.iload_n 1) 1 rfl) rfl ?_
  refine gw_iload_n hc (dc_at pd_L_blocker 4 4 (.iload_n 2) 1 rfl) rfl ?_
  refine gw_callVT hc hw (d' := 8) [vI a1, vI a2] [vI 0, vR 46] "java/lang/IllegalArgumentException" vm_X7_blocker rfl hL_L_blocker (dc_at pd_L_blocker 5 5 (.invokevirtual 55) 3 rfl) (by decide) rfl (Nat.le_of_ble_eq_true rfl) [⟨0, 10, 13, 13⟩] ⟨0, 10, 17, 15⟩ [] rfl (fun z hz => by
    simp only [List.mem_cons, List.not_mem_nil, or_false] at hz
    rcases hz with rfl
    · exact ⟨by decide, _, lkL_13, hnc.1⟩) rfl (by decide) lkL_15 csL_15 (gw_ast hc (by decide) (dc_at pd_L_blocker 12 17 (.astore 4) 2 rfl)) (h _ (fun M2 hq => ⟨rfl, ?_⟩))
  change GW ev t_L_blocker g 1 6 19 [some (vR 0), some (vI a1), some (vI a2), some (vR 46), none] [] M2
  refine gw_iconst hc (dc_at pd_L_blocker 13 19 (.iconst 2) 1 rfl) ?_
  exact gw_iret hc hw rfl hq (dc_at pd_L_blocker 14 20 (.ireturn) 1 rfl)
def p_L_link : Pg := [(0, .aload 4, 2), (2, .iconst 0, 1), (3, .aload_n 0, 1), (4, .iload_n 1, 1), (5, .iload_n 2, 1), (6, .iload_n 3, 1), (7, .invokevirtual 58, 3), (10, .i2l, 1), (11, .lastore, 1), (12, .goto 11, 3), (15, .astore 5, 2), (17, .iconst 1, 1), (18, .ireturn, 1), (19, .astore 5, 2), (21, .iconst 2, 1), (22, .ireturn, 1), (23, .iconst 0, 1), (24, .ireturn, 1)]
def t_L_link : MT := (yL_link, cL_link, 6, some .int, [], [])
theorem pd_L_link : dcB (mC t_L_link) p_L_link = true := by decide +kernel
abbrev hh_L_link : List (Nat × Nat × Nat × Nat) := [(0, 12, 15, 13), (0, 12, 19, 15)]
theorem sw_L_link : SWok t_L_link hh_L_link 5 := ⟨bm 911 _ (by decide +kernel) (by decide +kernel), bm 67 _ (by decide +kernel) (by decide +kernel), bm 912 _ (by decide +kernel) (by decide +kernel), by decide +kernel, by decide⟩
theorem hL_L_link : Cond.methodLink RL 58 yX7_link ∈ lw_big := bm 913 _ (by decide +kernel) (by decide +kernel)
theorem w_L_link {ev : Ev} {M : Mem} {Q : Int → Mem → Prop} (a1 a2 a3 : Int) (h : ∀ Q2 : Out → Mem → Prop, (∀ (r : Int) (M2 : Mem), Inr r → Q 0 (upM M2 46 0 r) → Q2 (.inl (some (vI r))) M2) → AM ev false 8 t_X7_link [vR 0, vI a1, vI a2, vI a3] M Q2) : WM ev false 9 t_L_link hh_L_link [vR 0, vI a1, vI a2, vI a3, vR 46] M Q := by
  refine WM.of (by decide +kernel) (Nat.le_of_ble_eq_true rfl) (fun g hc hw => ?_)
  have hR := hw.1
  change GW ev t_L_link g 0 0 0 [some (vR 0), some (vI a1), some (vI a2), some (vI a3), some (vR 46), none] [] M
  refine gw_aload hc (dc_at pd_L_link 0 0 (.aload 4) 2 rfl) rfl ?_
  refine gw_iconst hc (dc_at pd_L_link 1 2 (.iconst 0) 1 rfl) ?_
  refine gw_aload_n hc (dc_at pd_L_link 2 3 (.aload_n 0) 1 rfl) rfl ?_
  refine gw_iload_n hc (dc_at pd_L_link 3 4 (.iload_n 1) 1 rfl) rfl ?_
  refine gw_iload_n hc (dc_at pd_L_link 4 5 (.iload_n 2) 1 rfl) rfl ?_
  refine gw_iload_n hc (dc_at pd_L_link 5 6 (.iload_n 3) 1 rfl) rfl ?_
  refine gw_callV hc (d' := 8) [vI a1, vI a2, vI a3] [vI 0, vR 46] vm_X7_link rfl hL_L_link (dc_at pd_L_link 6 7 (.invokevirtual 58) 3 rfl) (by rw [hR]; exact ⟨Nat.le_of_ble_eq_true rfl, Nat.le_of_ble_eq_true rfl⟩) ⟨Nat.zero_le _, Nat.zero_le _⟩ rfl (Nat.le_of_ble_eq_true rfl) (h _ (fun r M2 hi hq => ?_))
  change GW ev t_L_link g 0 0 10 [some (vR 0), some (vI a1), some (vI a2), some (vI a3), some (vR 46), none] [vI r, vI 0, vR 46] M2
  refine gw_i2l hc hi (dc_at pd_L_link 7 10 (.i2l) 1 rfl) ?_
  refine gw_last hc (dc_at pd_L_link 8 11 (.lastore) 1 rfl) ?_
  refine gw_goto (to := 23) hc (by decide) (dc_at pd_L_link 9 12 (.goto 11) 3 rfl) ?_
  refine gw_iconst hc (dc_at pd_L_link 16 23 (.iconst 0) 1 rfl) ?_
  exact gw_iret hc hw rfl hq (dc_at pd_L_link 17 24 (.ireturn) 1 rfl)
theorem w_L_link_x1 {ev : Ev} {M : Mem} {Q : Int → Mem → Prop} (a1 a2 a3 : Int) (h : ∀ Q2 : Out → Mem → Prop, (∀ (M2 : Mem), Q 1 M2 → Q2 (.inr "java/lang/IndexOutOfBoundsException") M2) → AM ev true 8 t_X7_link [vR 0, vI a1, vI a2, vI a3] M Q2) : WM ev true 9 t_L_link hh_L_link [vR 0, vI a1, vI a2, vI a3, vR 46] M Q := by
  refine WM.of (by decide +kernel) (Nat.le_of_ble_eq_true rfl) (fun g hc hw => ?_)
  have hR := hw.1
  have hnc := hc.2.2.2.2.2.2
  change GW ev t_L_link g 0 0 0 [some (vR 0), some (vI a1), some (vI a2), some (vI a3), some (vR 46), none] [] M
  refine gw_aload hc (dc_at pd_L_link 0 0 (.aload 4) 2 rfl) rfl ?_
  refine gw_iconst hc (dc_at pd_L_link 1 2 (.iconst 0) 1 rfl) ?_
  refine gw_aload_n hc (dc_at pd_L_link 2 3 (.aload_n 0) 1 rfl) rfl ?_
  refine gw_iload_n hc (dc_at pd_L_link 3 4 (.iload_n 1) 1 rfl) rfl ?_
  refine gw_iload_n hc (dc_at pd_L_link 4 5 (.iload_n 2) 1 rfl) rfl ?_
  refine gw_iload_n hc (dc_at pd_L_link 5 6 (.iload_n 3) 1 rfl) rfl ?_
  refine gw_callVT hc hw (d' := 8) [vI a1, vI a2, vI a3] [vI 0, vR 46] "java/lang/IndexOutOfBoundsException" vm_X7_link rfl hL_L_link (dc_at pd_L_link 6 7 (.invokevirtual 58) 3 rfl) (by decide) rfl (Nat.le_of_ble_eq_true rfl) [] ⟨0, 12, 15, 13⟩ [⟨0, 12, 19, 15⟩] rfl (fun z hz => by simp at hz) rfl (by decide) lkL_13 csL_13 (gw_ast hc (by decide) (dc_at pd_L_link 10 15 (.astore 5) 2 rfl)) (h _ (fun M2 hq => ⟨rfl, ?_⟩))
  change GW ev t_L_link g 1 6 17 [some (vR 0), some (vI a1), some (vI a2), some (vI a3), some (vR 46), none] [] M2
  refine gw_iconst hc (dc_at pd_L_link 11 17 (.iconst 1) 1 rfl) ?_
  exact gw_iret hc hw rfl hq (dc_at pd_L_link 12 18 (.ireturn) 1 rfl)
theorem w_L_link_x2 {ev : Ev} {M : Mem} {Q : Int → Mem → Prop} (a1 a2 a3 : Int) (h : ∀ Q2 : Out → Mem → Prop, (∀ (M2 : Mem), Q 2 M2 → Q2 (.inr "java/lang/IllegalArgumentException") M2) → AM ev true 8 t_X7_link [vR 0, vI a1, vI a2, vI a3] M Q2) : WM ev true 9 t_L_link hh_L_link [vR 0, vI a1, vI a2, vI a3, vR 46] M Q := by
  refine WM.of (by decide +kernel) (Nat.le_of_ble_eq_true rfl) (fun g hc hw => ?_)
  have hR := hw.1
  have hnc := hc.2.2.2.2.2.2
  change GW ev t_L_link g 0 0 0 [some (vR 0), some (vI a1), some (vI a2), some (vI a3), some (vR 46), none] [] M
  refine gw_aload hc (dc_at pd_L_link 0 0 (.aload 4) 2 rfl) rfl ?_
  refine gw_iconst hc (dc_at pd_L_link 1 2 (.iconst 0) 1 rfl) ?_
  refine gw_aload_n hc (dc_at pd_L_link 2 3 (.aload_n 0) 1 rfl) rfl ?_
  refine gw_iload_n hc (dc_at pd_L_link 3 4 (.iload_n 1) 1 rfl) rfl ?_
  refine gw_iload_n hc (dc_at pd_L_link 4 5 (.iload_n 2) 1 rfl) rfl ?_
  refine gw_iload_n hc (dc_at pd_L_link 5 6 (.iload_n 3) 1 rfl) rfl ?_
  refine gw_callVT hc hw (d' := 8) [vI a1, vI a2, vI a3] [vI 0, vR 46] "java/lang/IllegalArgumentException" vm_X7_link rfl hL_L_link (dc_at pd_L_link 6 7 (.invokevirtual 58) 3 rfl) (by decide) rfl (Nat.le_of_ble_eq_true rfl) [⟨0, 12, 15, 13⟩] ⟨0, 12, 19, 15⟩ [] rfl (fun z hz => by
    simp only [List.mem_cons, List.not_mem_nil, or_false] at hz
    rcases hz with rfl
    · exact ⟨by decide, _, lkL_13, hnc.1⟩) rfl (by decide) lkL_15 csL_15 (gw_ast hc (by decide) (dc_at pd_L_link 13 19 (.astore 5) 2 rfl)) (h _ (fun M2 hq => ⟨rfl, ?_⟩))
  change GW ev t_L_link g 1 6 21 [some (vR 0), some (vI a1), some (vI a2), some (vI a3), some (vR 46), none] [] M2
  refine gw_iconst hc (dc_at pd_L_link 14 21 (.iconst 2) 1 rfl) ?_
  exact gw_iret hc hw rfl hq (dc_at pd_L_link 15 22 (.ireturn) 1 rfl)
def p_L_mastFor : Pg := [(0, .aload_n 3, 1), (1, .iconst 0, 1), (2, .aload_n 0, 1), (3, .iload_n 1, 1), (4, .iload_n 2, 1), (5, .invokevirtual 61, 3), (8, .i2l, 1), (9, .lastore, 1), (10, .goto 11, 3), (13, .astore 4, 2), (15, .iconst 1, 1), (16, .ireturn, 1), (17, .astore 4, 2), (19, .iconst 2, 1), (20, .ireturn, 1), (21, .iconst 0, 1), (22, .ireturn, 1)]
def t_L_mastFor : MT := (yL_mastFor, cL_mastFor, 5, some .int, [], [])
theorem pd_L_mastFor : dcB (mC t_L_mastFor) p_L_mastFor = true := by decide +kernel
abbrev hh_L_mastFor : List (Nat × Nat × Nat × Nat) := [(0, 10, 13, 13), (0, 10, 17, 15)]
theorem sw_L_mastFor : SWok t_L_mastFor hh_L_mastFor 4 := ⟨bm 922 _ (by decide +kernel) (by decide +kernel), bm 67 _ (by decide +kernel) (by decide +kernel), bm 923 _ (by decide +kernel) (by decide +kernel), by decide +kernel, by decide⟩
theorem hL_L_mastFor : Cond.methodLink RL 61 yX7_mastFor ∈ lw_big := bm 924 _ (by decide +kernel) (by decide +kernel)
theorem w_L_mastFor {ev : Ev} {M : Mem} {Q : Int → Mem → Prop} (a1 a2 : Int) (h : ∀ Q2 : Out → Mem → Prop, (∀ (r : Int) (M2 : Mem), Inr r → Q 0 (upM M2 46 0 r) → Q2 (.inl (some (vI r))) M2) → AM ev false 8 t_X7_mastFor [vR 0, vI a1, vI a2] M Q2) : WM ev false 9 t_L_mastFor hh_L_mastFor [vR 0, vI a1, vI a2, vR 46] M Q := by
  refine WM.of (by decide +kernel) (Nat.le_of_ble_eq_true rfl) (fun g hc hw => ?_)
  have hR := hw.1
  change GW ev t_L_mastFor g 0 0 0 [some (vR 0), some (vI a1), some (vI a2), some (vR 46), none] [] M
  refine gw_aload_n hc (dc_at pd_L_mastFor 0 0 (.aload_n 3) 1 rfl) rfl ?_
  refine gw_iconst hc (dc_at pd_L_mastFor 1 1 (.iconst 0) 1 rfl) ?_
  refine gw_aload_n hc (dc_at pd_L_mastFor 2 2 (.aload_n 0) 1 rfl) rfl ?_
  refine gw_iload_n hc (dc_at pd_L_mastFor 3 3 (.iload_n 1) 1 rfl) rfl ?_
  refine gw_iload_n hc (dc_at pd_L_mastFor 4 4 (.iload_n 2) 1 rfl) rfl ?_
  refine gw_callV hc (d' := 8) [vI a1, vI a2] [vI 0, vR 46] vm_X7_mastFor rfl hL_L_mastFor (dc_at pd_L_mastFor 5 5 (.invokevirtual 61) 3 rfl) (by rw [hR]; exact ⟨Nat.le_of_ble_eq_true rfl, Nat.le_of_ble_eq_true rfl⟩) ⟨Nat.zero_le _, Nat.zero_le _⟩ rfl (Nat.le_of_ble_eq_true rfl) (h _ (fun r M2 hi hq => ?_))
  change GW ev t_L_mastFor g 0 0 8 [some (vR 0), some (vI a1), some (vI a2), some (vR 46), none] [vI r, vI 0, vR 46] M2
  refine gw_i2l hc hi (dc_at pd_L_mastFor 6 8 (.i2l) 1 rfl) ?_
  refine gw_last hc (dc_at pd_L_mastFor 7 9 (.lastore) 1 rfl) ?_
  refine gw_goto (to := 21) hc (by decide) (dc_at pd_L_mastFor 8 10 (.goto 11) 3 rfl) ?_
  refine gw_iconst hc (dc_at pd_L_mastFor 15 21 (.iconst 0) 1 rfl) ?_
  exact gw_iret hc hw rfl hq (dc_at pd_L_mastFor 16 22 (.ireturn) 1 rfl)
theorem w_L_mastFor_x1 {ev : Ev} {M : Mem} {Q : Int → Mem → Prop} (a1 a2 : Int) (h : ∀ Q2 : Out → Mem → Prop, (∀ (M2 : Mem), Q 1 M2 → Q2 (.inr "java/lang/IndexOutOfBoundsException") M2) → AM ev true 8 t_X7_mastFor [vR 0, vI a1, vI a2] M Q2) : WM ev true 9 t_L_mastFor hh_L_mastFor [vR 0, vI a1, vI a2, vR 46] M Q := by
  refine WM.of (by decide +kernel) (Nat.le_of_ble_eq_true rfl) (fun g hc hw => ?_)
  have hR := hw.1
  have hnc := hc.2.2.2.2.2.2
  change GW ev t_L_mastFor g 0 0 0 [some (vR 0), some (vI a1), some (vI a2), some (vR 46), none] [] M
  refine gw_aload_n hc (dc_at pd_L_mastFor 0 0 (.aload_n 3) 1 rfl) rfl ?_
  refine gw_iconst hc (dc_at pd_L_mastFor 1 1 (.iconst 0) 1 rfl) ?_
  refine gw_aload_n hc (dc_at pd_L_mastFor 2 2 (.aload_n 0) 1 rfl) rfl ?_
  refine gw_iload_n hc (dc_at pd_L_mastFor 3 3 (.iload_n 1) 1 rfl) rfl ?_
  refine gw_iload_n hc (dc_at pd_L_mastFor 4 4 (.iload_n 2) 1 rfl) rfl ?_
  refine gw_callVT hc hw (d' := 8) [vI a1, vI a2] [vI 0, vR 46] "java/lang/IndexOutOfBoundsException" vm_X7_mastFor rfl hL_L_mastFor (dc_at pd_L_mastFor 5 5 (.invokevirtual 61) 3 rfl) (by decide) rfl (Nat.le_of_ble_eq_true rfl) [] ⟨0, 10, 13, 13⟩ [⟨0, 10, 17, 15⟩] rfl (fun z hz => by simp at hz) rfl (by decide) lkL_13 csL_13 (gw_ast hc (by decide) (dc_at pd_L_mastFor 9 13 (.astore 4) 2 rfl)) (h _ (fun M2 hq => ⟨rfl, ?_⟩))
  change GW ev t_L_mastFor g 1 6 15 [some (vR 0), some (vI a1), some (vI a2), some (vR 46), none] [] M2
  refine gw_iconst hc (dc_at pd_L_mastFor 10 15 (.iconst 1) 1 rfl) ?_
  exact gw_iret hc hw rfl hq (dc_at pd_L_mastFor 11 16 (.ireturn) 1 rfl)
theorem w_L_mastFor_x2 {ev : Ev} {M : Mem} {Q : Int → Mem → Prop} (a1 a2 : Int) (h : ∀ Q2 : Out → Mem → Prop, (∀ (M2 : Mem), Q 2 M2 → Q2 (.inr "java/lang/IllegalArgumentException") M2) → AM ev true 8 t_X7_mastFor [vR 0, vI a1, vI a2] M Q2) : WM ev true 9 t_L_mastFor hh_L_mastFor [vR 0, vI a1, vI a2, vR 46] M Q := by
  refine WM.of (by decide +kernel) (Nat.le_of_ble_eq_true rfl) (fun g hc hw => ?_)
  have hR := hw.1
  have hnc := hc.2.2.2.2.2.2
  change GW ev t_L_mastFor g 0 0 0 [some (vR 0), some (vI a1), some (vI a2), some (vR 46), none] [] M
  refine gw_aload_n hc (dc_at pd_L_mastFor 0 0 (.aload_n 3) 1 rfl) rfl ?_
  refine gw_iconst hc (dc_at pd_L_mastFor 1 1 (.iconst 0) 1 rfl) ?_
  refine gw_aload_n hc (dc_at pd_L_mastFor 2 2 (.aload_n 0) 1 rfl) rfl ?_
  refine gw_iload_n hc (dc_at pd_L_mastFor 3 3 (.iload_n 1) 1 rfl) rfl ?_
  refine gw_iload_n hc (dc_at pd_L_mastFor 4 4 (.iload_n 2) 1 rfl) rfl ?_
  refine gw_callVT hc hw (d' := 8) [vI a1, vI a2] [vI 0, vR 46] "java/lang/IllegalArgumentException" vm_X7_mastFor rfl hL_L_mastFor (dc_at pd_L_mastFor 5 5 (.invokevirtual 61) 3 rfl) (by decide) rfl (Nat.le_of_ble_eq_true rfl) [⟨0, 10, 13, 13⟩] ⟨0, 10, 17, 15⟩ [] rfl (fun z hz => by
    simp only [List.mem_cons, List.not_mem_nil, or_false] at hz
    rcases hz with rfl
    · exact ⟨by decide, _, lkL_13, hnc.1⟩) rfl (by decide) lkL_15 csL_15 (gw_ast hc (by decide) (dc_at pd_L_mastFor 12 17 (.astore 4) 2 rfl)) (h _ (fun M2 hq => ⟨rfl, ?_⟩))
  change GW ev t_L_mastFor g 1 6 19 [some (vR 0), some (vI a1), some (vI a2), some (vR 46), none] [] M2
  refine gw_iconst hc (dc_at pd_L_mastFor 13 19 (.iconst 2) 1 rfl) ?_
  exact gw_iret hc hw rfl hq (dc_at pd_L_mastFor 14 20 (.ireturn) 1 rfl)
def p_L_bestCell : Pg := [(0, .aload_n 2, 1), (1, .iconst 0, 1), (2, .aload_n 0, 1), (3, .iload_n 1, 1), (4, .invokevirtual 64, 3), (7, .i2l, 1), (8, .lastore, 1), (9, .goto 6, 3), (12, .astore_n 3, 1), (13, .iconst 1, 1), (14, .ireturn, 1), (15, .iconst 0, 1), (16, .ireturn, 1)]
def t_L_bestCell : MT := (yL_bestCell, cL_bestCell, 4, some .int, [], [])
theorem pd_L_bestCell : dcB (mC t_L_bestCell) p_L_bestCell = true := by decide +kernel
abbrev hh_L_bestCell : List (Nat × Nat × Nat × Nat) := [(0, 9, 12, 15)]
theorem sw_L_bestCell : SWok t_L_bestCell hh_L_bestCell 3 := ⟨bm 933 _ (by decide +kernel) (by decide +kernel), bm 67 _ (by decide +kernel) (by decide +kernel), bm 934 _ (by decide +kernel) (by decide +kernel), by decide +kernel, by decide⟩
theorem hL_L_bestCell : Cond.methodLink RL 64 yX7_bestCell ∈ lw_big := bm 935 _ (by decide +kernel) (by decide +kernel)
theorem w_L_bestCell {ev : Ev} {M : Mem} {Q : Int → Mem → Prop} (a1 : Int) (h : ∀ Q2 : Out → Mem → Prop, (∀ (r : Int) (M2 : Mem), Inr r → Q 0 (upM M2 46 0 r) → Q2 (.inl (some (vI r))) M2) → AM ev false 7 t_X7_bestCell [vR 0, vI a1] M Q2) : WM ev false 9 t_L_bestCell hh_L_bestCell [vR 0, vI a1, vR 46] M Q := by
  refine WM.of (by decide +kernel) (Nat.le_of_ble_eq_true rfl) (fun g hc hw => ?_)
  have hR := hw.1
  change GW ev t_L_bestCell g 0 0 0 [some (vR 0), some (vI a1), some (vR 46), none] [] M
  refine gw_aload_n hc (dc_at pd_L_bestCell 0 0 (.aload_n 2) 1 rfl) rfl ?_
  refine gw_iconst hc (dc_at pd_L_bestCell 1 1 (.iconst 0) 1 rfl) ?_
  refine gw_aload_n hc (dc_at pd_L_bestCell 2 2 (.aload_n 0) 1 rfl) rfl ?_
  refine gw_iload_n hc (dc_at pd_L_bestCell 3 3 (.iload_n 1) 1 rfl) rfl ?_
  refine gw_callV hc (d' := 7) [vI a1] [vI 0, vR 46] vm_X7_bestCell rfl hL_L_bestCell (dc_at pd_L_bestCell 4 4 (.invokevirtual 64) 3 rfl) (by rw [hR]; exact ⟨Nat.le_of_ble_eq_true rfl, Nat.le_of_ble_eq_true rfl⟩) ⟨Nat.zero_le _, Nat.zero_le _⟩ rfl (Nat.le_of_ble_eq_true rfl) (h _ (fun r M2 hi hq => ?_))
  change GW ev t_L_bestCell g 0 0 7 [some (vR 0), some (vI a1), some (vR 46), none] [vI r, vI 0, vR 46] M2
  refine gw_i2l hc hi (dc_at pd_L_bestCell 5 7 (.i2l) 1 rfl) ?_
  refine gw_last hc (dc_at pd_L_bestCell 6 8 (.lastore) 1 rfl) ?_
  refine gw_goto (to := 15) hc (by decide) (dc_at pd_L_bestCell 7 9 (.goto 6) 3 rfl) ?_
  refine gw_iconst hc (dc_at pd_L_bestCell 11 15 (.iconst 0) 1 rfl) ?_
  exact gw_iret hc hw rfl hq (dc_at pd_L_bestCell 12 16 (.ireturn) 1 rfl)
theorem w_L_bestCell_x1 {ev : Ev} {M : Mem} {Q : Int → Mem → Prop} (a1 : Int) (h : ∀ Q2 : Out → Mem → Prop, (∀ (M2 : Mem), Q 1 M2 → Q2 (.inr "java/lang/IllegalArgumentException") M2) → AM ev true 7 t_X7_bestCell [vR 0, vI a1] M Q2) : WM ev true 9 t_L_bestCell hh_L_bestCell [vR 0, vI a1, vR 46] M Q := by
  refine WM.of (by decide +kernel) (Nat.le_of_ble_eq_true rfl) (fun g hc hw => ?_)
  have hR := hw.1
  have hnc := hc.2.2.2.2.2.2
  change GW ev t_L_bestCell g 0 0 0 [some (vR 0), some (vI a1), some (vR 46), none] [] M
  refine gw_aload_n hc (dc_at pd_L_bestCell 0 0 (.aload_n 2) 1 rfl) rfl ?_
  refine gw_iconst hc (dc_at pd_L_bestCell 1 1 (.iconst 0) 1 rfl) ?_
  refine gw_aload_n hc (dc_at pd_L_bestCell 2 2 (.aload_n 0) 1 rfl) rfl ?_
  refine gw_iload_n hc (dc_at pd_L_bestCell 3 3 (.iload_n 1) 1 rfl) rfl ?_
  refine gw_callVT hc hw (d' := 7) [vI a1] [vI 0, vR 46] "java/lang/IllegalArgumentException" vm_X7_bestCell rfl hL_L_bestCell (dc_at pd_L_bestCell 4 4 (.invokevirtual 64) 3 rfl) (by decide) rfl (Nat.le_of_ble_eq_true rfl) [] ⟨0, 9, 12, 15⟩ [] rfl (fun z hz => by simp at hz) rfl (by decide) lkL_15 csL_15 (gw_astn hc (by decide) (dc_at pd_L_bestCell 8 12 (.astore_n 3) 1 rfl)) (h _ (fun M2 hq => ⟨rfl, ?_⟩))
  change GW ev t_L_bestCell g 1 6 13 [some (vR 0), some (vI a1), some (vR 46), none] [] M2
  refine gw_iconst hc (dc_at pd_L_bestCell 9 13 (.iconst 1) 1 rfl) ?_
  exact gw_iret hc hw rfl hq (dc_at pd_L_bestCell 10 14 (.ireturn) 1 rfl)
def p_L_arrival : Pg := [(0, .aload 5, 2), (2, .iconst 0, 1), (3, .aload_n 0, 1), (4, .iload_n 1, 1), (5, .iload_n 2, 1), (6, .iload_n 3, 1), (7, .iload 4, 2), (9, .invokevirtual 67, 3), (12, .i2l, 1), (13, .lastore, 1), (14, .goto 11, 3), (17, .astore 6, 2), (19, .iconst 1, 1), (20, .ireturn, 1), (21, .astore 6, 2), (23, .iconst 2, 1), (24, .ireturn, 1), (25, .iconst 0, 1), (26, .ireturn, 1)]
def t_L_arrival : MT := (yL_arrival, cL_arrival, 7, some .int, [], [])
theorem pd_L_arrival : dcB (mC t_L_arrival) p_L_arrival = true := by decide +kernel
abbrev hh_L_arrival : List (Nat × Nat × Nat × Nat) := [(0, 14, 17, 13), (0, 14, 21, 15)]
theorem sw_L_arrival : SWok t_L_arrival hh_L_arrival 6 := ⟨bm 949 _ (by decide +kernel) (by decide +kernel), bm 67 _ (by decide +kernel) (by decide +kernel), bm 950 _ (by decide +kernel) (by decide +kernel), by decide +kernel, by decide⟩
theorem hL_L_arrival : Cond.methodLink RL 67 yX7_arrival ∈ lw_big := bm 951 _ (by decide +kernel) (by decide +kernel)
theorem w_L_arrival {ev : Ev} {M : Mem} {Q : Int → Mem → Prop} (a1 a2 a3 a4 : Int) (h : ∀ Q2 : Out → Mem → Prop, (∀ (r : Int) (M2 : Mem), Inr r → Q 0 (upM M2 46 0 r) → Q2 (.inl (some (vI r))) M2) → AM ev false 7 t_X7_arrival [vR 0, vI a1, vI a2, vI a3, vI a4] M Q2) : WM ev false 9 t_L_arrival hh_L_arrival [vR 0, vI a1, vI a2, vI a3, vI a4, vR 46] M Q := by
  refine WM.of (by decide +kernel) (Nat.le_of_ble_eq_true rfl) (fun g hc hw => ?_)
  have hR := hw.1
  change GW ev t_L_arrival g 0 0 0 [some (vR 0), some (vI a1), some (vI a2), some (vI a3), some (vI a4), some (vR 46), none] [] M
  refine gw_aload hc (dc_at pd_L_arrival 0 0 (.aload 5) 2 rfl) rfl ?_
  refine gw_iconst hc (dc_at pd_L_arrival 1 2 (.iconst 0) 1 rfl) ?_
  refine gw_aload_n hc (dc_at pd_L_arrival 2 3 (.aload_n 0) 1 rfl) rfl ?_
  refine gw_iload_n hc (dc_at pd_L_arrival 3 4 (.iload_n 1) 1 rfl) rfl ?_
  refine gw_iload_n hc (dc_at pd_L_arrival 4 5 (.iload_n 2) 1 rfl) rfl ?_
  refine gw_iload_n hc (dc_at pd_L_arrival 5 6 (.iload_n 3) 1 rfl) rfl ?_
  refine gw_iload hc (dc_at pd_L_arrival 6 7 (.iload 4) 2 rfl) rfl ?_
  refine gw_callV hc (d' := 7) [vI a1, vI a2, vI a3, vI a4] [vI 0, vR 46] vm_X7_arrival rfl hL_L_arrival (dc_at pd_L_arrival 7 9 (.invokevirtual 67) 3 rfl) (by rw [hR]; exact ⟨Nat.le_of_ble_eq_true rfl, Nat.le_of_ble_eq_true rfl⟩) ⟨Nat.zero_le _, Nat.zero_le _⟩ rfl (Nat.le_of_ble_eq_true rfl) (h _ (fun r M2 hi hq => ?_))
  change GW ev t_L_arrival g 0 0 12 [some (vR 0), some (vI a1), some (vI a2), some (vI a3), some (vI a4), some (vR 46), none] [vI r, vI 0, vR 46] M2
  refine gw_i2l hc hi (dc_at pd_L_arrival 8 12 (.i2l) 1 rfl) ?_
  refine gw_last hc (dc_at pd_L_arrival 9 13 (.lastore) 1 rfl) ?_
  refine gw_goto (to := 25) hc (by decide) (dc_at pd_L_arrival 10 14 (.goto 11) 3 rfl) ?_
  refine gw_iconst hc (dc_at pd_L_arrival 17 25 (.iconst 0) 1 rfl) ?_
  exact gw_iret hc hw rfl hq (dc_at pd_L_arrival 18 26 (.ireturn) 1 rfl)
theorem w_L_arrival_x1 {ev : Ev} {M : Mem} {Q : Int → Mem → Prop} (a1 a2 a3 a4 : Int) (h : ∀ Q2 : Out → Mem → Prop, (∀ (M2 : Mem), Q 1 M2 → Q2 (.inr "java/lang/IndexOutOfBoundsException") M2) → AM ev true 7 t_X7_arrival [vR 0, vI a1, vI a2, vI a3, vI a4] M Q2) : WM ev true 9 t_L_arrival hh_L_arrival [vR 0, vI a1, vI a2, vI a3, vI a4, vR 46] M Q := by
  refine WM.of (by decide +kernel) (Nat.le_of_ble_eq_true rfl) (fun g hc hw => ?_)
  have hR := hw.1
  have hnc := hc.2.2.2.2.2.2
  change GW ev t_L_arrival g 0 0 0 [some (vR 0), some (vI a1), some (vI a2), some (vI a3), some (vI a4), some (vR 46), none] [] M
  refine gw_aload hc (dc_at pd_L_arrival 0 0 (.aload 5) 2 rfl) rfl ?_
  refine gw_iconst hc (dc_at pd_L_arrival 1 2 (.iconst 0) 1 rfl) ?_
  refine gw_aload_n hc (dc_at pd_L_arrival 2 3 (.aload_n 0) 1 rfl) rfl ?_
  refine gw_iload_n hc (dc_at pd_L_arrival 3 4 (.iload_n 1) 1 rfl) rfl ?_
  refine gw_iload_n hc (dc_at pd_L_arrival 4 5 (.iload_n 2) 1 rfl) rfl ?_
  refine gw_iload_n hc (dc_at pd_L_arrival 5 6 (.iload_n 3) 1 rfl) rfl ?_
  refine gw_iload hc (dc_at pd_L_arrival 6 7 (.iload 4) 2 rfl) rfl ?_
  refine gw_callVT hc hw (d' := 7) [vI a1, vI a2, vI a3, vI a4] [vI 0, vR 46] "java/lang/IndexOutOfBoundsException" vm_X7_arrival rfl hL_L_arrival (dc_at pd_L_arrival 7 9 (.invokevirtual 67) 3 rfl) (by decide) rfl (Nat.le_of_ble_eq_true rfl) [] ⟨0, 14, 17, 13⟩ [⟨0, 14, 21, 15⟩] rfl (fun z hz => by simp at hz) rfl (by decide) lkL_13 csL_13 (gw_ast hc (by decide) (dc_at pd_L_arrival 11 17 (.astore 6) 2 rfl)) (h _ (fun M2 hq => ⟨rfl, ?_⟩))
  change GW ev t_L_arrival g 1 6 19 [some (vR 0), some (vI a1), some (vI a2), some (vI a3), some (vI a4), some (vR 46), none] [] M2
  refine gw_iconst hc (dc_at pd_L_arrival 12 19 (.iconst 1) 1 rfl) ?_
  exact gw_iret hc hw rfl hq (dc_at pd_L_arrival 13 20 (.ireturn) 1 rfl)
theorem w_L_arrival_x2 {ev : Ev} {M : Mem} {Q : Int → Mem → Prop} (a1 a2 a3 a4 : Int) (h : ∀ Q2 : Out → Mem → Prop, (∀ (M2 : Mem), Q 2 M2 → Q2 (.inr "java/lang/IllegalArgumentException") M2) → AM ev true 7 t_X7_arrival [vR 0, vI a1, vI a2, vI a3, vI a4] M Q2) : WM ev true 9 t_L_arrival hh_L_arrival [vR 0, vI a1, vI a2, vI a3, vI a4, vR 46] M Q := by
  refine WM.of (by decide +kernel) (Nat.le_of_ble_eq_true rfl) (fun g hc hw => ?_)
  have hR := hw.1
  have hnc := hc.2.2.2.2.2.2
  change GW ev t_L_arrival g 0 0 0 [some (vR 0), some (vI a1), some (vI a2), some (vI a3), some (vI a4), some (vR 46), none] [] M
  refine gw_aload hc (dc_at pd_L_arrival 0 0 (.aload 5) 2 rfl) rfl ?_
  refine gw_iconst hc (dc_at pd_L_arrival 1 2 (.iconst 0) 1 rfl) ?_
  refine gw_aload_n hc (dc_at pd_L_arrival 2 3 (.aload_n 0) 1 rfl) rfl ?_
  refine gw_iload_n hc (dc_at pd_L_arrival 3 4 (.iload_n 1) 1 rfl) rfl ?_
  refine gw_iload_n hc (dc_at pd_L_arrival 4 5 (.iload_n 2) 1 rfl) rfl ?_
  refine gw_iload_n hc (dc_at pd_L_arrival 5 6 (.iload_n 3) 1 rfl) rfl ?_
  refine gw_iload hc (dc_at pd_L_arrival 6 7 (.iload 4) 2 rfl) rfl ?_
  refine gw_callVT hc hw (d' := 7) [vI a1, vI a2, vI a3, vI a4] [vI 0, vR 46] "java/lang/IllegalArgumentException" vm_X7_arrival rfl hL_L_arrival (dc_at pd_L_arrival 7 9 (.invokevirtual 67) 3 rfl) (by decide) rfl (Nat.le_of_ble_eq_true rfl) [⟨0, 14, 17, 13⟩] ⟨0, 14, 21, 15⟩ [] rfl (fun z hz => by
    simp only [List.mem_cons, List.not_mem_nil, or_false] at hz
    rcases hz with rfl
    · exact ⟨by decide, _, lkL_13, hnc.1⟩) rfl (by decide) lkL_15 csL_15 (gw_ast hc (by decide) (dc_at pd_L_arrival 14 21 (.astore 6) 2 rfl)) (h _ (fun M2 hq => ⟨rfl, ?_⟩))
  change GW ev t_L_arrival g 1 6 23 [some (vR 0), some (vI a1), some (vI a2), some (vI a3), some (vI a4), some (vR 46), none] [] M2
  refine gw_iconst hc (dc_at pd_L_arrival 15 23 (.iconst 2) 1 rfl) ?_
  exact gw_iret hc hw rfl hq (dc_at pd_L_arrival 16 24 (.ireturn) 1 rfl)
def p_L_message : Pg := [(0, .aload_n 3, 1), (1, .iconst 0, 1), (2, .aload_n 0, 1), (3, .iload_n 1, 1), (4, .iload_n 2, 1), (5, .invokevirtual 70, 3), (8, .i2l, 1), (9, .lastore, 1), (10, .goto 11, 3), (13, .astore 4, 2), (15, .iconst 1, 1), (16, .ireturn, 1), (17, .astore 4, 2), (19, .iconst 2, 1), (20, .ireturn, 1), (21, .iconst 0, 1), (22, .ireturn, 1)]
def t_L_message : MT := (yL_message, cL_message, 5, some .int, [], [])
theorem pd_L_message : dcB (mC t_L_message) p_L_message = true := by decide +kernel
abbrev hh_L_message : List (Nat × Nat × Nat × Nat) := [(0, 10, 13, 13), (0, 10, 17, 15)]
theorem sw_L_message : SWok t_L_message hh_L_message 4 := ⟨bm 958 _ (by decide +kernel) (by decide +kernel), bm 67 _ (by decide +kernel) (by decide +kernel), bm 959 _ (by decide +kernel) (by decide +kernel), by decide +kernel, by decide⟩
theorem hL_L_message : Cond.methodLink RL 70 yX7_message ∈ lw_big := bm 960 _ (by decide +kernel) (by decide +kernel)
theorem w_L_message {ev : Ev} {M : Mem} {Q : Int → Mem → Prop} (a1 a2 : Int) (h : ∀ Q2 : Out → Mem → Prop, (∀ (r : Int) (M2 : Mem), Inr r → Q 0 (upM M2 46 0 r) → Q2 (.inl (some (vI r))) M2) → AM ev false 7 t_X7_message [vR 0, vI a1, vI a2] M Q2) : WM ev false 9 t_L_message hh_L_message [vR 0, vI a1, vI a2, vR 46] M Q := by
  refine WM.of (by decide +kernel) (Nat.le_of_ble_eq_true rfl) (fun g hc hw => ?_)
  have hR := hw.1
  change GW ev t_L_message g 0 0 0 [some (vR 0), some (vI a1), some (vI a2), some (vR 46), none] [] M
  refine gw_aload_n hc (dc_at pd_L_message 0 0 (.aload_n 3) 1 rfl) rfl ?_
  refine gw_iconst hc (dc_at pd_L_message 1 1 (.iconst 0) 1 rfl) ?_
  refine gw_aload_n hc (dc_at pd_L_message 2 2 (.aload_n 0) 1 rfl) rfl ?_
  refine gw_iload_n hc (dc_at pd_L_message 3 3 (.iload_n 1) 1 rfl) rfl ?_
  refine gw_iload_n hc (dc_at pd_L_message 4 4 (.iload_n 2) 1 rfl) rfl ?_
  refine gw_callV hc (d' := 7) [vI a1, vI a2] [vI 0, vR 46] vm_X7_message rfl hL_L_message (dc_at pd_L_message 5 5 (.invokevirtual 70) 3 rfl) (by rw [hR]; exact ⟨Nat.le_of_ble_eq_true rfl, Nat.le_of_ble_eq_true rfl⟩) ⟨Nat.zero_le _, Nat.zero_le _⟩ rfl (Nat.le_of_ble_eq_true rfl) (h _ (fun r M2 hi hq => ?_))
  change GW ev t_L_message g 0 0 8 [some (vR 0), some (vI a1), some (vI a2), some (vR 46), none] [vI r, vI 0, vR 46] M2
  refine gw_i2l hc hi (dc_at pd_L_message 6 8 (.i2l) 1 rfl) ?_
  refine gw_last hc (dc_at pd_L_message 7 9 (.lastore) 1 rfl) ?_
  refine gw_goto (to := 21) hc (by decide) (dc_at pd_L_message 8 10 (.goto 11) 3 rfl) ?_
  refine gw_iconst hc (dc_at pd_L_message 15 21 (.iconst 0) 1 rfl) ?_
  exact gw_iret hc hw rfl hq (dc_at pd_L_message 16 22 (.ireturn) 1 rfl)
theorem w_L_message_x1 {ev : Ev} {M : Mem} {Q : Int → Mem → Prop} (a1 a2 : Int) (h : ∀ Q2 : Out → Mem → Prop, (∀ (M2 : Mem), Q 1 M2 → Q2 (.inr "java/lang/IndexOutOfBoundsException") M2) → AM ev true 7 t_X7_message [vR 0, vI a1, vI a2] M Q2) : WM ev true 9 t_L_message hh_L_message [vR 0, vI a1, vI a2, vR 46] M Q := by
  refine WM.of (by decide +kernel) (Nat.le_of_ble_eq_true rfl) (fun g hc hw => ?_)
  have hR := hw.1
  have hnc := hc.2.2.2.2.2.2
  change GW ev t_L_message g 0 0 0 [some (vR 0), some (vI a1), some (vI a2), some (vR 46), none] [] M
  refine gw_aload_n hc (dc_at pd_L_message 0 0 (.aload_n 3) 1 rfl) rfl ?_
  refine gw_iconst hc (dc_at pd_L_message 1 1 (.iconst 0) 1 rfl) ?_
  refine gw_aload_n hc (dc_at pd_L_message 2 2 (.aload_n 0) 1 rfl) rfl ?_
  refine gw_iload_n hc (dc_at pd_L_message 3 3 (.iload_n 1) 1 rfl) rfl ?_
  refine gw_iload_n hc (dc_at pd_L_message 4 4 (.iload_n 2) 1 rfl) rfl ?_
  refine gw_callVT hc hw (d' := 7) [vI a1, vI a2] [vI 0, vR 46] "java/lang/IndexOutOfBoundsException" vm_X7_message rfl hL_L_message (dc_at pd_L_message 5 5 (.invokevirtual 70) 3 rfl) (by decide) rfl (Nat.le_of_ble_eq_true rfl) [] ⟨0, 10, 13, 13⟩ [⟨0, 10, 17, 15⟩] rfl (fun z hz => by simp at hz) rfl (by decide) lkL_13 csL_13 (gw_ast hc (by decide) (dc_at pd_L_message 9 13 (.astore 4) 2 rfl)) (h _ (fun M2 hq => ⟨rfl, ?_⟩))
  change GW ev t_L_message g 1 6 15 [some (vR 0), some (vI a1), some (vI a2), some (vR 46), none] [] M2
  refine gw_iconst hc (dc_at pd_L_message 10 15 (.iconst 1) 1 rfl) ?_
  exact gw_iret hc hw rfl hq (dc_at pd_L_message 11 16 (.ireturn) 1 rfl)
theorem w_L_message_x2 {ev : Ev} {M : Mem} {Q : Int → Mem → Prop} (a1 a2 : Int) (h : ∀ Q2 : Out → Mem → Prop, (∀ (M2 : Mem), Q 2 M2 → Q2 (.inr "java/lang/IllegalArgumentException") M2) → AM ev true 7 t_X7_message [vR 0, vI a1, vI a2] M Q2) : WM ev true 9 t_L_message hh_L_message [vR 0, vI a1, vI a2, vR 46] M Q := by
  refine WM.of (by decide +kernel) (Nat.le_of_ble_eq_true rfl) (fun g hc hw => ?_)
  have hR := hw.1
  have hnc := hc.2.2.2.2.2.2
  change GW ev t_L_message g 0 0 0 [some (vR 0), some (vI a1), some (vI a2), some (vR 46), none] [] M
  refine gw_aload_n hc (dc_at pd_L_message 0 0 (.aload_n 3) 1 rfl) rfl ?_
  refine gw_iconst hc (dc_at pd_L_message 1 1 (.iconst 0) 1 rfl) ?_
  refine gw_aload_n hc (dc_at pd_L_message 2 2 (.aload_n 0) 1 rfl) rfl ?_
  refine gw_iload_n hc (dc_at pd_L_message 3 3 (.iload_n 1) 1 rfl) rfl ?_
  refine gw_iload_n hc (dc_at pd_L_message 4 4 (.iload_n 2) 1 rfl) rfl ?_
  refine gw_callVT hc hw (d' := 7) [vI a1, vI a2] [vI 0, vR 46] "java/lang/IllegalArgumentException" vm_X7_message rfl hL_L_message (dc_at pd_L_message 5 5 (.invokevirtual 70) 3 rfl) (by decide) rfl (Nat.le_of_ble_eq_true rfl) [⟨0, 10, 13, 13⟩] ⟨0, 10, 17, 15⟩ [] rfl (fun z hz => by
    simp only [List.mem_cons, List.not_mem_nil, or_false] at hz
    rcases hz with rfl
    · exact ⟨by decide, _, lkL_13, hnc.1⟩) rfl (by decide) lkL_15 csL_15 (gw_ast hc (by decide) (dc_at pd_L_message 12 17 (.astore 4) 2 rfl)) (h _ (fun M2 hq => ⟨rfl, ?_⟩))
  change GW ev t_L_message g 1 6 19 [some (vR 0), some (vI a1), some (vI a2), some (vR 46), none] [] M2
  refine gw_iconst hc (dc_at pd_L_message 13 19 (.iconst 2) 1 rfl) ?_
  exact gw_iret hc hw rfl hq (dc_at pd_L_message 14 20 (.ireturn) 1 rfl)
def p_L_hop : Pg := [(0, .aload 4, 2), (2, .iconst 0, 1), (3, .aload_n 0, 1), (4, .iload_n 1, 1), (5, .iload_n 2, 1), (6, .iload_n 3, 1), (7, .invokevirtual 73, 3), (10, .i2l, 1), (11, .lastore, 1), (12, .goto 11, 3), (15, .astore 5, 2), (17, .iconst 1, 1), (18, .ireturn, 1), (19, .astore 5, 2), (21, .iconst 2, 1), (22, .ireturn, 1), (23, .iconst 0, 1), (24, .ireturn, 1)]
def t_L_hop : MT := (yL_hop, cL_hop, 6, some .int, [], [])
theorem pd_L_hop : dcB (mC t_L_hop) p_L_hop = true := by decide +kernel
abbrev hh_L_hop : List (Nat × Nat × Nat × Nat) := [(0, 12, 15, 13), (0, 12, 19, 15)]
theorem sw_L_hop : SWok t_L_hop hh_L_hop 5 := ⟨bm 965 _ (by decide +kernel) (by decide +kernel), bm 67 _ (by decide +kernel) (by decide +kernel), bm 966 _ (by decide +kernel) (by decide +kernel), by decide +kernel, by decide⟩
theorem hL_L_hop : Cond.methodLink RL 73 yX7_hop ∈ lw_big := bm 967 _ (by decide +kernel) (by decide +kernel)
theorem w_L_hop {ev : Ev} {M : Mem} {Q : Int → Mem → Prop} (a1 a2 a3 : Int) (h : ∀ Q2 : Out → Mem → Prop, (∀ (r : Int) (M2 : Mem), Inr r → Q 0 (upM M2 46 0 r) → Q2 (.inl (some (vI r))) M2) → AM ev false 7 t_X7_hop [vR 0, vI a1, vI a2, vI a3] M Q2) : WM ev false 9 t_L_hop hh_L_hop [vR 0, vI a1, vI a2, vI a3, vR 46] M Q := by
  refine WM.of (by decide +kernel) (Nat.le_of_ble_eq_true rfl) (fun g hc hw => ?_)
  have hR := hw.1
  change GW ev t_L_hop g 0 0 0 [some (vR 0), some (vI a1), some (vI a2), some (vI a3), some (vR 46), none] [] M
  refine gw_aload hc (dc_at pd_L_hop 0 0 (.aload 4) 2 rfl) rfl ?_
  refine gw_iconst hc (dc_at pd_L_hop 1 2 (.iconst 0) 1 rfl) ?_
  refine gw_aload_n hc (dc_at pd_L_hop 2 3 (.aload_n 0) 1 rfl) rfl ?_
  refine gw_iload_n hc (dc_at pd_L_hop 3 4 (.iload_n 1) 1 rfl) rfl ?_
  refine gw_iload_n hc (dc_at pd_L_hop 4 5 (.iload_n 2) 1 rfl) rfl ?_
  refine gw_iload_n hc (dc_at pd_L_hop 5 6 (.iload_n 3) 1 rfl) rfl ?_
  refine gw_callV hc (d' := 7) [vI a1, vI a2, vI a3] [vI 0, vR 46] vm_X7_hop rfl hL_L_hop (dc_at pd_L_hop 6 7 (.invokevirtual 73) 3 rfl) (by rw [hR]; exact ⟨Nat.le_of_ble_eq_true rfl, Nat.le_of_ble_eq_true rfl⟩) ⟨Nat.zero_le _, Nat.zero_le _⟩ rfl (Nat.le_of_ble_eq_true rfl) (h _ (fun r M2 hi hq => ?_))
  change GW ev t_L_hop g 0 0 10 [some (vR 0), some (vI a1), some (vI a2), some (vI a3), some (vR 46), none] [vI r, vI 0, vR 46] M2
  refine gw_i2l hc hi (dc_at pd_L_hop 7 10 (.i2l) 1 rfl) ?_
  refine gw_last hc (dc_at pd_L_hop 8 11 (.lastore) 1 rfl) ?_
  refine gw_goto (to := 23) hc (by decide) (dc_at pd_L_hop 9 12 (.goto 11) 3 rfl) ?_
  refine gw_iconst hc (dc_at pd_L_hop 16 23 (.iconst 0) 1 rfl) ?_
  exact gw_iret hc hw rfl hq (dc_at pd_L_hop 17 24 (.ireturn) 1 rfl)
theorem w_L_hop_x1 {ev : Ev} {M : Mem} {Q : Int → Mem → Prop} (a1 a2 a3 : Int) (h : ∀ Q2 : Out → Mem → Prop, (∀ (M2 : Mem), Q 1 M2 → Q2 (.inr "java/lang/IndexOutOfBoundsException") M2) → AM ev true 7 t_X7_hop [vR 0, vI a1, vI a2, vI a3] M Q2) : WM ev true 9 t_L_hop hh_L_hop [vR 0, vI a1, vI a2, vI a3, vR 46] M Q := by
  refine WM.of (by decide +kernel) (Nat.le_of_ble_eq_true rfl) (fun g hc hw => ?_)
  have hR := hw.1
  have hnc := hc.2.2.2.2.2.2
  change GW ev t_L_hop g 0 0 0 [some (vR 0), some (vI a1), some (vI a2), some (vI a3), some (vR 46), none] [] M
  refine gw_aload hc (dc_at pd_L_hop 0 0 (.aload 4) 2 rfl) rfl ?_
  refine gw_iconst hc (dc_at pd_L_hop 1 2 (.iconst 0) 1 rfl) ?_
  refine gw_aload_n hc (dc_at pd_L_hop 2 3 (.aload_n 0) 1 rfl) rfl ?_
  refine gw_iload_n hc (dc_at pd_L_hop 3 4 (.iload_n 1) 1 rfl) rfl ?_
  refine gw_iload_n hc (dc_at pd_L_hop 4 5 (.iload_n 2) 1 rfl) rfl ?_
  refine gw_iload_n hc (dc_at pd_L_hop 5 6 (.iload_n 3) 1 rfl) rfl ?_
  refine gw_callVT hc hw (d' := 7) [vI a1, vI a2, vI a3] [vI 0, vR 46] "java/lang/IndexOutOfBoundsException" vm_X7_hop rfl hL_L_hop (dc_at pd_L_hop 6 7 (.invokevirtual 73) 3 rfl) (by decide) rfl (Nat.le_of_ble_eq_true rfl) [] ⟨0, 12, 15, 13⟩ [⟨0, 12, 19, 15⟩] rfl (fun z hz => by simp at hz) rfl (by decide) lkL_13 csL_13 (gw_ast hc (by decide) (dc_at pd_L_hop 10 15 (.astore 5) 2 rfl)) (h _ (fun M2 hq => ⟨rfl, ?_⟩))
  change GW ev t_L_hop g 1 6 17 [some (vR 0), some (vI a1), some (vI a2), some (vI a3), some (vR 46), none] [] M2
  refine gw_iconst hc (dc_at pd_L_hop 11 17 (.iconst 1) 1 rfl) ?_
  exact gw_iret hc hw rfl hq (dc_at pd_L_hop 12 18 (.ireturn) 1 rfl)
theorem w_L_hop_x2 {ev : Ev} {M : Mem} {Q : Int → Mem → Prop} (a1 a2 a3 : Int) (h : ∀ Q2 : Out → Mem → Prop, (∀ (M2 : Mem), Q 2 M2 → Q2 (.inr "java/lang/IllegalArgumentException") M2) → AM ev true 7 t_X7_hop [vR 0, vI a1, vI a2, vI a3] M Q2) : WM ev true 9 t_L_hop hh_L_hop [vR 0, vI a1, vI a2, vI a3, vR 46] M Q := by
  refine WM.of (by decide +kernel) (Nat.le_of_ble_eq_true rfl) (fun g hc hw => ?_)
  have hR := hw.1
  have hnc := hc.2.2.2.2.2.2
  change GW ev t_L_hop g 0 0 0 [some (vR 0), some (vI a1), some (vI a2), some (vI a3), some (vR 46), none] [] M
  refine gw_aload hc (dc_at pd_L_hop 0 0 (.aload 4) 2 rfl) rfl ?_
  refine gw_iconst hc (dc_at pd_L_hop 1 2 (.iconst 0) 1 rfl) ?_
  refine gw_aload_n hc (dc_at pd_L_hop 2 3 (.aload_n 0) 1 rfl) rfl ?_
  refine gw_iload_n hc (dc_at pd_L_hop 3 4 (.iload_n 1) 1 rfl) rfl ?_
  refine gw_iload_n hc (dc_at pd_L_hop 4 5 (.iload_n 2) 1 rfl) rfl ?_
  refine gw_iload_n hc (dc_at pd_L_hop 5 6 (.iload_n 3) 1 rfl) rfl ?_
  refine gw_callVT hc hw (d' := 7) [vI a1, vI a2, vI a3] [vI 0, vR 46] "java/lang/IllegalArgumentException" vm_X7_hop rfl hL_L_hop (dc_at pd_L_hop 6 7 (.invokevirtual 73) 3 rfl) (by decide) rfl (Nat.le_of_ble_eq_true rfl) [⟨0, 12, 15, 13⟩] ⟨0, 12, 19, 15⟩ [] rfl (fun z hz => by
    simp only [List.mem_cons, List.not_mem_nil, or_false] at hz
    rcases hz with rfl
    · exact ⟨by decide, _, lkL_13, hnc.1⟩) rfl (by decide) lkL_15 csL_15 (gw_ast hc (by decide) (dc_at pd_L_hop 13 19 (.astore 5) 2 rfl)) (h _ (fun M2 hq => ⟨rfl, ?_⟩))
  change GW ev t_L_hop g 1 6 21 [some (vR 0), some (vI a1), some (vI a2), some (vI a3), some (vR 46), none] [] M2
  refine gw_iconst hc (dc_at pd_L_hop 14 21 (.iconst 2) 1 rfl) ?_
  exact gw_iret hc hw rfl hq (dc_at pd_L_hop 15 22 (.ireturn) 1 rfl)
def p_L_busy : Pg := [(0, .aload_n 3, 1), (1, .iconst 0, 1), (2, .aload_n 0, 1), (3, .iload_n 1, 1), (4, .iload_n 2, 1), (5, .invokevirtual 76, 3), (8, .i2l, 1), (9, .lastore, 1), (10, .goto 11, 3), (13, .astore 4, 2), (15, .iconst 1, 1), (16, .ireturn, 1), (17, .astore 4, 2), (19, .iconst 2, 1), (20, .ireturn, 1), (21, .iconst 0, 1), (22, .ireturn, 1)]
def t_L_busy : MT := (yL_busy, cL_busy, 5, some .int, [], [])
theorem pd_L_busy : dcB (mC t_L_busy) p_L_busy = true := by decide +kernel
abbrev hh_L_busy : List (Nat × Nat × Nat × Nat) := [(0, 10, 13, 13), (0, 10, 17, 15)]
theorem sw_L_busy : SWok t_L_busy hh_L_busy 4 := ⟨bm 973 _ (by decide +kernel) (by decide +kernel), bm 67 _ (by decide +kernel) (by decide +kernel), bm 974 _ (by decide +kernel) (by decide +kernel), by decide +kernel, by decide⟩
theorem hL_L_busy : Cond.methodLink RL 76 yX7_busy ∈ lw_big := bm 975 _ (by decide +kernel) (by decide +kernel)
theorem w_L_busy {ev : Ev} {M : Mem} {Q : Int → Mem → Prop} (a1 a2 : Int) (h : ∀ Q2 : Out → Mem → Prop, (∀ (r : Int) (M2 : Mem), Inr r → Q 0 (upM M2 46 0 r) → Q2 (.inl (some (vI r))) M2) → AM ev false 7 t_X7_busy [vR 0, vI a1, vI a2] M Q2) : WM ev false 9 t_L_busy hh_L_busy [vR 0, vI a1, vI a2, vR 46] M Q := by
  refine WM.of (by decide +kernel) (Nat.le_of_ble_eq_true rfl) (fun g hc hw => ?_)
  have hR := hw.1
  change GW ev t_L_busy g 0 0 0 [some (vR 0), some (vI a1), some (vI a2), some (vR 46), none] [] M
  refine gw_aload_n hc (dc_at pd_L_busy 0 0 (.aload_n 3) 1 rfl) rfl ?_
  refine gw_iconst hc (dc_at pd_L_busy 1 1 (.iconst 0) 1 rfl) ?_
  refine gw_aload_n hc (dc_at pd_L_busy 2 2 (.aload_n 0) 1 rfl) rfl ?_
  refine gw_iload_n hc (dc_at pd_L_busy 3 3 (.iload_n 1) 1 rfl) rfl ?_
  refine gw_iload_n hc (dc_at pd_L_busy 4 4 (.iload_n 2) 1 rfl) rfl ?_
  refine gw_callV hc (d' := 7) [vI a1, vI a2] [vI 0, vR 46] vm_X7_busy rfl hL_L_busy (dc_at pd_L_busy 5 5 (.invokevirtual 76) 3 rfl) (by rw [hR]; exact ⟨Nat.le_of_ble_eq_true rfl, Nat.le_of_ble_eq_true rfl⟩) ⟨Nat.zero_le _, Nat.zero_le _⟩ rfl (Nat.le_of_ble_eq_true rfl) (h _ (fun r M2 hi hq => ?_))
  change GW ev t_L_busy g 0 0 8 [some (vR 0), some (vI a1), some (vI a2), some (vR 46), none] [vI r, vI 0, vR 46] M2
  refine gw_i2l hc hi (dc_at pd_L_busy 6 8 (.i2l) 1 rfl) ?_
  refine gw_last hc (dc_at pd_L_busy 7 9 (.lastore) 1 rfl) ?_
  refine gw_goto (to := 21) hc (by decide) (dc_at pd_L_busy 8 10 (.goto 11) 3 rfl) ?_
  refine gw_iconst hc (dc_at pd_L_busy 15 21 (.iconst 0) 1 rfl) ?_
  exact gw_iret hc hw rfl hq (dc_at pd_L_busy 16 22 (.ireturn) 1 rfl)
theorem w_L_busy_x1 {ev : Ev} {M : Mem} {Q : Int → Mem → Prop} (a1 a2 : Int) (h : ∀ Q2 : Out → Mem → Prop, (∀ (M2 : Mem), Q 1 M2 → Q2 (.inr "java/lang/IndexOutOfBoundsException") M2) → AM ev true 7 t_X7_busy [vR 0, vI a1, vI a2] M Q2) : WM ev true 9 t_L_busy hh_L_busy [vR 0, vI a1, vI a2, vR 46] M Q := by
  refine WM.of (by decide +kernel) (Nat.le_of_ble_eq_true rfl) (fun g hc hw => ?_)
  have hR := hw.1
  have hnc := hc.2.2.2.2.2.2
  change GW ev t_L_busy g 0 0 0 [some (vR 0), some (vI a1), some (vI a2), some (vR 46), none] [] M
  refine gw_aload_n hc (dc_at pd_L_busy 0 0 (.aload_n 3) 1 rfl) rfl ?_
  refine gw_iconst hc (dc_at pd_L_busy 1 1 (.iconst 0) 1 rfl) ?_
  refine gw_aload_n hc (dc_at pd_L_busy 2 2 (.aload_n 0) 1 rfl) rfl ?_
  refine gw_iload_n hc (dc_at pd_L_busy 3 3 (.iload_n 1) 1 rfl) rfl ?_
  refine gw_iload_n hc (dc_at pd_L_busy 4 4 (.iload_n 2) 1 rfl) rfl ?_
  refine gw_callVT hc hw (d' := 7) [vI a1, vI a2] [vI 0, vR 46] "java/lang/IndexOutOfBoundsException" vm_X7_busy rfl hL_L_busy (dc_at pd_L_busy 5 5 (.invokevirtual 76) 3 rfl) (by decide) rfl (Nat.le_of_ble_eq_true rfl) [] ⟨0, 10, 13, 13⟩ [⟨0, 10, 17, 15⟩] rfl (fun z hz => by simp at hz) rfl (by decide) lkL_13 csL_13 (gw_ast hc (by decide) (dc_at pd_L_busy 9 13 (.astore 4) 2 rfl)) (h _ (fun M2 hq => ⟨rfl, ?_⟩))
  change GW ev t_L_busy g 1 6 15 [some (vR 0), some (vI a1), some (vI a2), some (vR 46), none] [] M2
  refine gw_iconst hc (dc_at pd_L_busy 10 15 (.iconst 1) 1 rfl) ?_
  exact gw_iret hc hw rfl hq (dc_at pd_L_busy 11 16 (.ireturn) 1 rfl)
theorem w_L_busy_x2 {ev : Ev} {M : Mem} {Q : Int → Mem → Prop} (a1 a2 : Int) (h : ∀ Q2 : Out → Mem → Prop, (∀ (M2 : Mem), Q 2 M2 → Q2 (.inr "java/lang/IllegalArgumentException") M2) → AM ev true 7 t_X7_busy [vR 0, vI a1, vI a2] M Q2) : WM ev true 9 t_L_busy hh_L_busy [vR 0, vI a1, vI a2, vR 46] M Q := by
  refine WM.of (by decide +kernel) (Nat.le_of_ble_eq_true rfl) (fun g hc hw => ?_)
  have hR := hw.1
  have hnc := hc.2.2.2.2.2.2
  change GW ev t_L_busy g 0 0 0 [some (vR 0), some (vI a1), some (vI a2), some (vR 46), none] [] M
  refine gw_aload_n hc (dc_at pd_L_busy 0 0 (.aload_n 3) 1 rfl) rfl ?_
  refine gw_iconst hc (dc_at pd_L_busy 1 1 (.iconst 0) 1 rfl) ?_
  refine gw_aload_n hc (dc_at pd_L_busy 2 2 (.aload_n 0) 1 rfl) rfl ?_
  refine gw_iload_n hc (dc_at pd_L_busy 3 3 (.iload_n 1) 1 rfl) rfl ?_
  refine gw_iload_n hc (dc_at pd_L_busy 4 4 (.iload_n 2) 1 rfl) rfl ?_
  refine gw_callVT hc hw (d' := 7) [vI a1, vI a2] [vI 0, vR 46] "java/lang/IllegalArgumentException" vm_X7_busy rfl hL_L_busy (dc_at pd_L_busy 5 5 (.invokevirtual 76) 3 rfl) (by decide) rfl (Nat.le_of_ble_eq_true rfl) [⟨0, 10, 13, 13⟩] ⟨0, 10, 17, 15⟩ [] rfl (fun z hz => by
    simp only [List.mem_cons, List.not_mem_nil, or_false] at hz
    rcases hz with rfl
    · exact ⟨by decide, _, lkL_13, hnc.1⟩) rfl (by decide) lkL_15 csL_15 (gw_ast hc (by decide) (dc_at pd_L_busy 12 17 (.astore 4) 2 rfl)) (h _ (fun M2 hq => ⟨rfl, ?_⟩))
  change GW ev t_L_busy g 1 6 19 [some (vR 0), some (vI a1), some (vI a2), some (vR 46), none] [] M2
  refine gw_iconst hc (dc_at pd_L_busy 13 19 (.iconst 2) 1 rfl) ?_
  exact gw_iret hc hw rfl hq (dc_at pd_L_busy 14 20 (.ireturn) 1 rfl)
