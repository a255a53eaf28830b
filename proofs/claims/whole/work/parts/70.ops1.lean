theorem RR.of {X Y : Mem} (h : RR X) (e2 : Y 2 = X 2) (e3 : Y 3 3 = X 3 3) (e4 : Y 4 = X 4) (e7 : Y 7 3 = X 7 3) (e8 : Y 8 = X 8) (e9 : Y 9 = X 9) (e10 : Y 10 = X 10) (e11 : Y 11 6 = X 11 6) (e12 : Y 12 = X 12) (e13 : Y 13 = X 13) (e14 : Y 14 = X 14) (e15 : Y 15 = X 15) (e16 : Y 16 = X 16) (e17 : Y 17 = X 17) (e19 : Y 19 2 = X 19 2) (e20 : Y 20 = X 20) (e21 : Y 21 = X 21) (f2 : Y 27 2 = X 27 2) (f6 : Y 27 6 = X 27 6) (f11 : Y 27 11 = X 27 11) (f14 : Y 27 14 = X 27 14) (e28 : Y 28 = X 28) (e29 : Y 29 = X 29) (e30 : Y 30 = X 30) (e31 : Y 31 = X 31) (e32 : Y 32 = X 32) (e33 : Y 33 = X 33) (e34 : Y 34 = X 34) (e35 : Y 35 = X 35) (e36 : Y 36 = X 36) (e37 : Y 37 = X 37) (e38 : Y 38 = X 38) : RR Y :=
  ⟨h.1.of e2 e28, h.2.1.of e7 e8 e9 e10 f2 e29 e30 e31, h.2.2.1.of e11 e12 e13 e14 e15 e16 e17 f6 e32 e33 e34 e35, h.2.2.2.1.of e3 e4 f14 e38, h.2.2.2.2.of e7 e19 e20 e21 f11 e36 e37⟩
theorem RR.thr {M : Mem} (h : RR M) (k : Int) : RR (upM M 27 0 k) := h.of rfl rfl rfl rfl rfl rfl rfl rfl rfl rfl rfl rfl rfl rfl rfl rfl rfl rfl rfl rfl rfl rfl rfl rfl rfl rfl rfl rfl rfl rfl rfl rfl
theorem RR.out {M : Mem} (h : RR M) (r : Int) : RR (upM M 46 0 r) := h.of rfl rfl rfl rfl rfl rfl rfl rfl rfl rfl rfl rfl rfl rfl rfl rfl rfl rfl rfl rfl rfl rfl rfl rfl rfl rfl rfl rfl rfl rfl rfl rfl
theorem inr0 : Inr 0 := ⟨by omega, by omega⟩
theorem hlC_bd (h : Int → Int) (c v w : Int) : ∀ (n : Nat) (i s : Int), s ≤ hlC h c v w n i s ∧ hlC h c v w n i s ≤ s + n
  | 0, _, s => by unfold hlC; omega
  | n + 1, i, s => by
    have hh := hlC_bd h c v w n (i + 1) (if dist c i ≤ w ∧ h i < slp c v w i then s + 1 else s)
    unfold hlC
    split at hh <;> rename_i hb
    · rw [if_pos hb]; omega
    · rw [if_neg hb]; omega
theorem dist_nn (c i : Int) : 0 ≤ dist c i := by unfold dist; split <;> split <;> omega
theorem slp_le {c v w i : Int} (hv : 0 ≤ v) (hw : 0 ≤ w) : slp c v w i ≤ v := by
  have h1 := Int.mul_nonneg (dist_nn c i) (Int.ediv_nonneg hv (show 0 ≤ w + 1 by omega))
  unfold slp; omega
theorem hl_rt {M : Mem} {a b c r : Int} (h : RTr M) (hb : 1 ≤ b ∧ b ≤ 500) (hc : 0 ≤ c) : RTr (hlM (upM (upM (hlM M 2 a b c 144) 46 0 r) 27 0 0) 28 a b c 144) := by
  have e2 : hlM (upM (upM (hlM M 2 a b c 144) 46 0 r) 27 0 0) 28 a b c 144 2 = fun i => if 0 ≤ i ∧ i < 144 ∧ dist a i ≤ c ∧ M 2 i < slp a b c i then slp a b c i else M 2 i := by
    funext i; simp [hlM, upM]
  have e28 : hlM (upM (upM (hlM M 2 a b c 144) 46 0 r) 27 0 0) 28 a b c 144 28 = fun i => if 0 ≤ i ∧ i < 144 ∧ dist a i ≤ c ∧ M 28 i < slp a b c i then slp a b c i else M 28 i := by
    funext i; simp [hlM, upM]
  refine ⟨fun i i0 i1 => ?_, ?_⟩
  · rw [e2]
    have h1 := h.1 i i0 i1
    have h2 := slp_le (c := a) (v := b) (w := c) (i := i) (by omega) hc
    dsimp only
    split <;> omega
  · rw [e2, e28, h.2]
theorem op_setHeight {ev : Ev} {M : Mem} {a b : Int} (hR : RR M) (ia : Inr a) (ib : Inr b) : CALL ev t_L_setHeight hh_L_setHeight t_X8_setHeight 2 [vI a, vI b] M := by
  by_cases h1 : 0 ≤ a ∧ a < 144
  · by_cases h2 : 0 ≤ b ∧ b ≤ 500
    · have hh := hR.1.1 a h1.1 h1.2
      have hi : Inr (M 2 a) := ⟨by omega, by omega⟩
      have he : M 28 a = M 2 a := by rw [hR.1.2]
      refine ⟨false, 0, fun M1 => M1 = upM (upM M 2 a b) 46 0 (M 2 a), by omega, fun QW h => w_L_setHeight a b (fun Q2 hk => c_X7_setHeight a b h1 h2 (fun r zr => hk r _ (by rw [zr]; exact hi) (by rw [zr]; exact h _ rfl))), fun M1 hM Q2 h => ?_⟩
      rw [hM]
      refine c_X8_setHeight a b ia ib hR.tj (fun (zc : (0 ≤ a ∧ a < 144) ∧ 0 ≤ b ∧ b ≤ 500) => h _ _ (by show Inr (M 28 a); rw [he]; exact hi) rfl (fun _ => ?_) ?_) (fun (zc : ¬ (0 ≤ a ∧ a < 144)) => (by exfalso; omega)) (fun (zc : (0 ≤ a ∧ a < 144) ∧ ¬ (0 ≤ b ∧ b ≤ 500)) => (by exfalso; omega))
      · exact he.symm
      · refine ⟨⟨fun i i0 i1 => ?_, ?_⟩, hR.2.1.of rfl rfl rfl rfl rfl rfl rfl rfl, hR.2.2.1.of rfl rfl rfl rfl rfl rfl rfl rfl rfl rfl rfl rfl, hR.2.2.2.1.of rfl rfl rfl rfl, hR.2.2.2.2.of rfl rfl rfl rfl rfl rfl rfl⟩
        · have := hR.1.1 i i0 i1
          show 0 ≤ upM M 2 a b 2 i ∧ upM M 2 a b 2 i ≤ 500
          unfold upM; split <;> omega
        · funext i
          show (if 28 = 28 ∧ i = a then b else M 28 i) = (if 2 = 2 ∧ i = a then b else M 2 i)
          rw [hR.1.2]; simp
    · skip
      refine ⟨true, 2, fun M1 => M1 = M, by omega, fun QW h => w_L_setHeight_x2 a b (fun Q2 hk => c_X7_setHeight_x2 a b ia ib h1 h2 (hk _ (h _ rfl))), fun M1 hM Q2 h => ?_⟩
      rw [hM]
      exact c_X8_setHeight a b ia ib hR.tj (fun (zc : (0 ≤ a ∧ a < 144) ∧ 0 ≤ b ∧ b ≤ 500) => (by exfalso; omega)) (fun (zc : ¬ (0 ≤ a ∧ a < 144)) => (by exfalso; omega)) (fun (zc : (0 ≤ a ∧ a < 144) ∧ ¬ (0 ≤ b ∧ b ≤ 500)) => h 0 _ inr0 rfl (fun q => by omega) (RR.thr hR _))
  · skip
    refine ⟨true, 1, fun M1 => M1 = M, by omega, fun QW h => w_L_setHeight_x1 a b (fun Q2 hk => c_X7_setHeight_x1 a b ia ib h1 (hk _ (h _ rfl))), fun M1 hM Q2 h => ?_⟩
    rw [hM]
    exact c_X8_setHeight a b ia ib hR.tj (fun (zc : (0 ≤ a ∧ a < 144) ∧ 0 ≤ b ∧ b ≤ 500) => (by exfalso; omega)) (fun (zc : ¬ (0 ≤ a ∧ a < 144)) => h 0 _ inr0 rfl (fun q => by omega) (RR.thr hR _)) (fun (zc : (0 ≤ a ∧ a < 144) ∧ ¬ (0 ≤ b ∧ b ≤ 500)) => (by exfalso; omega))
theorem op_hill {ev : Ev} {M : Mem} {a b c : Int} (hR : RR M) (ia : Inr a) (ib : Inr b) (ic : Inr c) : CALL ev t_L_hill hh_L_hill t_X8_hill 2 [vI a, vI b, vI c] M := by
  by_cases h1 : 0 ≤ a ∧ a < 144
  · by_cases h2 : 1 ≤ b ∧ b ≤ 500
    · by_cases h3 : 0 ≤ c ∧ c ≤ 11
      · have hq := hlC_bd (M 2) a b c 144 0 0
        have hi : Inr (hlC (M 2) a b c 144 0 0) := ⟨by omega, by omega⟩
        have he : hlC (M 28) a b c 144 0 0 = hlC (M 2) a b c 144 0 0 := by rw [hR.1.2]
        refine ⟨false, 0, fun M1 => M1 = upM (hlM M 2 a b c 144) 46 0 (hlC (M 2) a b c 144 0 0), by omega, fun QW h => w_L_hill a b c (fun Q2 hk => c_X7_hill a b c h1 h2 h3 hR.1.1 (fun r zr => hk r _ (by rw [zr]; exact hi) (by rw [zr]; exact h _ rfl))), fun M1 hM Q2 h => ?_⟩
        rw [hM]
        refine c_X8_hill a b c ia ib ic hR.tj (fun (zc : (0 ≤ a ∧ a < 144) ∧ (1 ≤ b ∧ b ≤ 500) ∧ 0 ≤ c ∧ c ≤ 11) => h _ _ (by show Inr (hlC (M 28) a b c 144 0 0); rw [he]; exact hi) rfl (fun _ => ?_) ?_) (fun (zc : ¬ (0 ≤ a ∧ a < 144)) => (by exfalso; omega)) (fun (zc : (0 ≤ a ∧ a < 144) ∧ ¬ ((1 ≤ b ∧ b ≤ 500) ∧ 0 ≤ c ∧ c ≤ 11)) => (by exfalso; omega))
        · exact he.symm
        · exact ⟨hl_rt hR.1 h2 h3.1, hR.2.1.of rfl rfl rfl rfl rfl rfl rfl rfl, hR.2.2.1.of rfl rfl rfl rfl rfl rfl rfl rfl rfl rfl rfl rfl, hR.2.2.2.1.of rfl rfl rfl rfl, hR.2.2.2.2.of rfl rfl rfl rfl rfl rfl rfl⟩
      · skip
        refine ⟨true, 2, fun M1 => M1 = M, by omega, fun QW h => w_L_hill_x2 a b c (fun Q2 hk => c_X7_hill_x3 a b c ia ib ic h1 h2 h3 (hk _ (h _ rfl))), fun M1 hM Q2 h => ?_⟩
        rw [hM]
        exact c_X8_hill a b c ia ib ic hR.tj (fun (zc : (0 ≤ a ∧ a < 144) ∧ (1 ≤ b ∧ b ≤ 500) ∧ 0 ≤ c ∧ c ≤ 11) => (by exfalso; omega)) (fun (zc : ¬ (0 ≤ a ∧ a < 144)) => (by exfalso; omega)) (fun (zc : (0 ≤ a ∧ a < 144) ∧ ¬ ((1 ≤ b ∧ b ≤ 500) ∧ 0 ≤ c ∧ c ≤ 11)) => h 0 _ inr0 rfl (fun q => by omega) (RR.thr hR _))
    · skip
      refine ⟨true, 2, fun M1 => M1 = M, by omega, fun QW h => w_L_hill_x2 a b c (fun Q2 hk => c_X7_hill_x2 a b c ia ib ic h1 h2 (hk _ (h _ rfl))), fun M1 hM Q2 h => ?_⟩
      rw [hM]
      exact c_X8_hill a b c ia ib ic hR.tj (fun (zc : (0 ≤ a ∧ a < 144) ∧ (1 ≤ b ∧ b ≤ 500) ∧ 0 ≤ c ∧ c ≤ 11) => (by exfalso; omega)) (fun (zc : ¬ (0 ≤ a ∧ a < 144)) => (by exfalso; omega)) (fun (zc : (0 ≤ a ∧ a < 144) ∧ ¬ ((1 ≤ b ∧ b ≤ 500) ∧ 0 ≤ c ∧ c ≤ 11)) => h 0 _ inr0 rfl (fun q => by omega) (RR.thr hR _))
  · skip
    refine ⟨true, 1, fun M1 => M1 = M, by omega, fun QW h => w_L_hill_x1 a b c (fun Q2 hk => c_X7_hill_x1 a b c ia ib ic h1 (hk _ (h _ rfl))), fun M1 hM Q2 h => ?_⟩
    rw [hM]
    exact c_X8_hill a b c ia ib ic hR.tj (fun (zc : (0 ≤ a ∧ a < 144) ∧ (1 ≤ b ∧ b ≤ 500) ∧ 0 ≤ c ∧ c ≤ 11) => (by exfalso; omega)) (fun (zc : ¬ (0 ≤ a ∧ a < 144)) => h 0 _ inr0 rfl (fun q => by omega) (RR.thr hR _)) (fun (zc : (0 ≤ a ∧ a < 144) ∧ ¬ ((1 ≤ b ∧ b ≤ 500) ∧ 0 ≤ c ∧ c ≤ 11)) => (by exfalso; omega))
theorem op_append {ev : Ev} {M : Mem} {a : Int} (hR : RR M) (ia : Inr a) : CALL ev t_L_append hh_L_append t_X8_append 1 [vI a] M := by
  have hl := hR.2.2.2.1.1
  have hl3 : M 27 14 = M 3 3 := hR.2.2.2.1.2.2.1
  have hl4 : 0 ≤ M 27 14 ∧ M 27 14 ≤ 40 := by rw [hl3]; exact hl
  by_cases h1 : 33 ≤ a ∧ a ≤ 126
  · by_cases h2 : M 3 3 = 40
    · skip
      refine ⟨true, 2, fun M1 => M1 = M, by omega, fun QW h => w_L_append_x2 a (fun Q2 hk => c_X7_append_x2 a h1 h2 (hk _ (h _ rfl))), fun M1 hM Q2 h => ?_⟩
      rw [hM]
      exact c_X8_append a ia hl4 (fun (zc : (33 ≤ a ∧ a ≤ 126) ∧ M 27 14 < 40) => (by exfalso; clear h; omega)) (fun (zc : ¬ (33 ≤ a ∧ a ≤ 126)) => (by exfalso; clear h; omega)) (fun (zc : (33 ≤ a ∧ a ≤ 126) ∧ M 27 14 = 40) => h 0 _ inr0 rfl (fun q => by omega) (RR.thr hR _))
    · have hi : Inr (M 3 3 + 1) := ⟨by omega, by omega⟩
      refine ⟨false, 0, fun M1 => M1 = upM (upM (upM M 4 (M 3 3) a) 3 3 (M 3 3 + 1)) 46 0 (M 3 3 + 1), by omega, fun QW h => w_L_append a (fun Q2 hk => c_X7_append a h1 (by omega) (fun r zr => hk r _ (by rw [zr]; exact hi) (by rw [zr]; exact h _ rfl))), fun M1 hM Q2 h => ?_⟩
      rw [hM]
      refine c_X8_append a ia hl4 (fun (zc : (33 ≤ a ∧ a ≤ 126) ∧ M 27 14 < 40) => h _ _ (by show Inr (M 27 14 + 1); rw [hl3]; exact hi) rfl (fun _ => ?_) ?_) (fun (zc : ¬ (33 ≤ a ∧ a ≤ 126)) => (by exfalso; clear h; omega)) (fun (zc : (33 ≤ a ∧ a ≤ 126) ∧ M 27 14 = 40) => (by exfalso; clear h; omega))
      · show M 3 3 + 1 = M 27 14 + 1; rw [hl3]
      · refine ⟨hR.1.of rfl rfl, hR.2.1.of rfl rfl rfl rfl rfl rfl rfl rfl, hR.2.2.1.of rfl rfl rfl rfl rfl rfl rfl rfl rfl rfl rfl rfl, ⟨by show 0 ≤ M 3 3 + 1 ∧ M 3 3 + 1 ≤ 40; omega, fun i i0 i1 => ?_, by show M 27 14 + 1 = M 3 3 + 1; rw [hl3], ?_⟩, hR.2.2.2.2.of rfl rfl rfl rfl rfl rfl rfl⟩
        · replace i1 : i < M 3 3 + 1 := i1
          show 33 ≤ upM M 4 (M 3 3) a 4 i ∧ upM M 4 (M 3 3) a 4 i ≤ 126
          unfold upM
          split
          · exact h1
          · rename_i hq
            exact hR.2.2.2.1.2.1 i i0 (by have : i ≠ M 3 3 := fun q => hq ⟨rfl, q⟩
                                          omega)
        · funext i
          have hx : M 38 i = M 4 i := by rw [hR.2.2.2.1.2.2.2]
          simp only [upM]
          grind
  · skip
    refine ⟨true, 1, fun M1 => M1 = M, by omega, fun QW h => w_L_append_x1 a (fun Q2 hk => c_X7_append_x1 a ia h1 (hk _ (h _ rfl))), fun M1 hM Q2 h => ?_⟩
    rw [hM]
    exact c_X8_append a ia hl4 (fun (zc : (33 ≤ a ∧ a ≤ 126) ∧ M 27 14 < 40) => (by exfalso; omega)) (fun (zc : ¬ (33 ≤ a ∧ a ≤ 126)) => h 0 _ inr0 rfl (fun q => by omega) (RR.thr hR _)) (fun (zc : (33 ≤ a ∧ a ≤ 126) ∧ M 27 14 = 40) => (by exfalso; omega))
theorem op_setMast {ev : Ev} {M : Mem} {a b : Int} (hR : RR M) (ia : Inr a) (ib : Inr b) : CALL ev t_L_setMast hh_L_setMast t_X8_setMast 2 [vI a, vI b] M := by
  have hs := hR.ns
  have hn : M 27 2 = M 7 3 := hR.2.1.2.1
  by_cases h1 : 0 ≤ a ∧ a < M 7 3
  · by_cases h2 : 0 ≤ b ∧ b ≤ 50
    · have hh := hR.2.1.1.2.1 a h1.1 h1.2
      have hi : Inr (M 9 a) := ⟨by omega, by omega⟩
      have he : M 30 a = M 9 a := by rw [hR.2.1.2.2.2.1]
      refine ⟨false, 0, fun M1 => M1 = upM (upM M 9 a b) 46 0 (M 9 a), by omega, fun QW h => w_L_setMast a b (fun Q2 hk => c_X7_setMast a b hR.2.1.1 ia ib h1 h2 (fun r zr => hk r _ (by rw [zr]; exact hi) (by rw [zr]; exact h _ rfl))), fun M1 hM Q2 h => ?_⟩
      rw [hM]
      refine c_X8_setMast a b hR.sj ia ib (fun (zc : (0 ≤ a ∧ a < M 27 2) ∧ 0 ≤ b ∧ b ≤ 50) => h _ _ (by show Inr (M 30 a); rw [he]; exact hi) rfl (fun _ => ?_) ?_) (fun (zc : ¬ (0 ≤ a ∧ a < M 27 2)) => (by exfalso; omega)) (fun (zc : (0 ≤ a ∧ a < M 27 2) ∧ ¬ (0 ≤ b ∧ b ≤ 50)) => (by exfalso; omega))
      · exact he.symm
      · refine ⟨hR.1.of rfl rfl, ⟨?_, hn, hR.2.1.2.2.1, ?_, hR.2.1.2.2.2.2⟩, hR.2.2.1.of rfl rfl rfl rfl rfl rfl rfl rfl rfl rfl rfl rfl, hR.2.2.2.1.of rfl rfl rfl rfl, hR.2.2.2.2.of rfl rfl rfl rfl rfl rfl rfl⟩
        · refine ⟨hs, fun i i0 i1 => ?_, hR.2.1.1.2.2⟩
          have := hR.2.1.1.2.1 i i0 i1
          show (0 ≤ M 8 i ∧ M 8 i < 144) ∧ (0 ≤ upM M 9 a b 9 i ∧ upM M 9 a b 9 i ≤ 50) ∧ 1 ≤ M 10 i ∧ M 10 i ≤ 2
          unfold upM; split <;> omega
        · funext i
          show (if 30 = 30 ∧ i = a then b else M 30 i) = (if 9 = 9 ∧ i = a then b else M 9 i)
          rw [hR.2.1.2.2.2.1]; simp
    · skip
      refine ⟨true, 2, fun M1 => M1 = M, by omega, fun QW h => w_L_setMast_x2 a b (fun Q2 hk => c_X7_setMast_x2 a b hR.2.1.1 ia ib h1 h2 (hk _ (h _ rfl))), fun M1 hM Q2 h => ?_⟩
      rw [hM]
      exact c_X8_setMast a b hR.sj ia ib (fun (zc : (0 ≤ a ∧ a < M 27 2) ∧ 0 ≤ b ∧ b ≤ 50) => (by exfalso; omega)) (fun (zc : ¬ (0 ≤ a ∧ a < M 27 2)) => (by exfalso; omega)) (fun (zc : (0 ≤ a ∧ a < M 27 2) ∧ ¬ (0 ≤ b ∧ b ≤ 50)) => h 0 _ inr0 rfl (fun q => by omega) (RR.thr hR _))
  · skip
    refine ⟨true, 1, fun M1 => M1 = M, by omega, fun QW h => w_L_setMast_x1 a b (fun Q2 hk => c_X7_setMast_x1 a b hR.2.1.1 ia ib h1 (hk _ (h _ rfl))), fun M1 hM Q2 h => ?_⟩
    rw [hM]
    exact c_X8_setMast a b hR.sj ia ib (fun (zc : (0 ≤ a ∧ a < M 27 2) ∧ 0 ≤ b ∧ b ≤ 50) => (by exfalso; omega)) (fun (zc : ¬ (0 ≤ a ∧ a < M 27 2)) => h 0 _ inr0 rfl (fun q => by omega) (RR.thr hR _)) (fun (zc : (0 ≤ a ∧ a < M 27 2) ∧ ¬ (0 ≤ b ∧ b ≤ 50)) => (by exfalso; omega))
theorem op_lend {ev : Ev} {M : Mem} {a b : Int} (hR : RR M) (ia : Inr a) (ib : Inr b) : CALL ev t_L_lend hh_L_lend t_X8_lend 2 [vI a, vI b] M := by
  have hs := hR.ns
  have hn : M 27 2 = M 7 3 := hR.2.1.2.1
  have hm : M 31 = M 10 := hR.2.1.2.2.2.2
  have hma : M 31 a = M 10 a := by rw [hm]
  have hmb : M 31 b = M 10 b := by rw [hm]
  by_cases h1 : 0 ≤ a ∧ a < M 7 3
  · by_cases h2 : 0 ≤ b ∧ b < M 7 3
    · by_cases h3 : M 10 a = 2
      · by_cases h4 : M 10 b = 1
        · have hq := c2T_bd (upM (upM M 10 a 1) 10 b 2 10) (M 7 3).toNat 0 0
          have hi : Inr (c2T (upM (upM M 10 a 1) 10 b 2 10) (M 7 3).toNat 0 0) := ⟨by omega, by omega⟩
          have hf : upM (upM (upM (upM (upM (upM M 10 a 1) 10 b 2) 46 0 (c2T (upM (upM M 10 a 1) 10 b 2 10) (M 7 3).toNat 0 0)) 27 0 0) 31 a 1) 31 b 2 31 = upM (upM M 10 a 1) 10 b 2 10 := by
            funext i
            have hmi : M 31 i = M 10 i := by rw [hm]
            simp only [upM]
            grind
          refine ⟨false, 0, fun M1 => M1 = upM (upM (upM M 10 a 1) 10 b 2) 46 0 (c2T (upM (upM M 10 a 1) 10 b 2 10) (M 7 3).toNat 0 0), by omega, fun QW h => w_L_lend a b (fun Q2 hk => c_X7_lend a b hR.2.1.1 ia ib h1 h2 ⟨h3, h4⟩ (fun r zr => hk r _ (by rw [zr]; exact hi) (by rw [zr]; exact h _ rfl))), fun M1 hM Q2 h => ?_⟩
          rw [hM]
          refine c_X8_lend a b hR.sj ia ib (fun (zc : ((0 ≤ a ∧ a < M 27 2) ∧ 0 ≤ b ∧ b < M 27 2) ∧ M 31 a = 2 ∧ M 31 b = 1) => h _ _ (by show Inr (c2T (upM (upM (upM (upM (upM (upM M 10 a 1) 10 b 2) 46 0 (c2T (upM (upM M 10 a 1) 10 b 2 10) (M 7 3).toNat 0 0)) 27 0 0) 31 a 1) 31 b 2 31) (M 27 2).toNat 0 0); rw [hf, hn]; exact hi) rfl (fun _ => ?_) ?_) (fun (zc : ¬ ((0 ≤ a ∧ a < M 27 2) ∧ 0 ≤ b ∧ b < M 27 2)) => (by exfalso; omega)) (fun (zc : ((0 ≤ a ∧ a < M 27 2) ∧ 0 ≤ b ∧ b < M 27 2) ∧ ¬ (M 31 a = 2 ∧ M 31 b = 1)) => (by exfalso; omega))
          · show c2T (upM (upM M 10 a 1) 10 b 2 10) (M 7 3).toNat 0 0 = c2T (upM (upM (upM (upM (upM (upM M 10 a 1) 10 b 2) 46 0 (c2T (upM (upM M 10 a 1) 10 b 2 10) (M 7 3).toNat 0 0)) 27 0 0) 31 a 1) 31 b 2 31) (M 27 2).toNat 0 0
            rw [hf, hn]
          · exact ⟨hR.1.of rfl rfl, ⟨(hR.2.1.1.mir (a := a) (v := 1) (by omega)).mir (a := b) (v := 2) (by omega), hn, hR.2.1.2.2.1, hR.2.1.2.2.2.1, hf⟩, hR.2.2.1.of rfl rfl rfl rfl rfl rfl rfl rfl rfl rfl rfl rfl, hR.2.2.2.1.of rfl rfl rfl rfl, hR.2.2.2.2.of rfl rfl rfl rfl rfl rfl rfl⟩
        · skip
          refine ⟨true, 2, fun M1 => M1 = M, by omega, fun QW h => w_L_lend_x2 a b (fun Q2 hk => c_X7_lend_x4 a b hR.2.1.1 ia ib h1 h2 ⟨h3, h4⟩ (hk _ (h _ rfl))), fun M1 hM Q2 h => ?_⟩
          rw [hM]
          exact c_X8_lend a b hR.sj ia ib (fun (zc : ((0 ≤ a ∧ a < M 27 2) ∧ 0 ≤ b ∧ b < M 27 2) ∧ M 31 a = 2 ∧ M 31 b = 1) => (by exfalso; omega)) (fun (zc : ¬ ((0 ≤ a ∧ a < M 27 2) ∧ 0 ≤ b ∧ b < M 27 2)) => (by exfalso; omega)) (fun (zc : ((0 ≤ a ∧ a < M 27 2) ∧ 0 ≤ b ∧ b < M 27 2) ∧ ¬ (M 31 a = 2 ∧ M 31 b = 1)) => h 0 _ inr0 rfl (fun q => by omega) (RR.thr hR _))
      · skip
        refine ⟨true, 2, fun M1 => M1 = M, by omega, fun QW h => w_L_lend_x2 a b (fun Q2 hk => c_X7_lend_x3 a b hR.2.1.1 ia ib h1 h2 h3 (hk _ (h _ rfl))), fun M1 hM Q2 h => ?_⟩
        rw [hM]
        exact c_X8_lend a b hR.sj ia ib (fun (zc : ((0 ≤ a ∧ a < M 27 2) ∧ 0 ≤ b ∧ b < M 27 2) ∧ M 31 a = 2 ∧ M 31 b = 1) => (by exfalso; omega)) (fun (zc : ¬ ((0 ≤ a ∧ a < M 27 2) ∧ 0 ≤ b ∧ b < M 27 2)) => (by exfalso; omega)) (fun (zc : ((0 ≤ a ∧ a < M 27 2) ∧ 0 ≤ b ∧ b < M 27 2) ∧ ¬ (M 31 a = 2 ∧ M 31 b = 1)) => h 0 _ inr0 rfl (fun q => by omega) (RR.thr hR _))
    · skip
      refine ⟨true, 1, fun M1 => M1 = M, by omega, fun QW h => w_L_lend_x1 a b (fun Q2 hk => c_X7_lend_x2 a b hR.2.1.1 ia ib h1 h2 (hk _ (h _ rfl))), fun M1 hM Q2 h => ?_⟩
      rw [hM]
      exact c_X8_lend a b hR.sj ia ib (fun (zc : ((0 ≤ a ∧ a < M 27 2) ∧ 0 ≤ b ∧ b < M 27 2) ∧ M 31 a = 2 ∧ M 31 b = 1) => (by exfalso; omega)) (fun (zc : ¬ ((0 ≤ a ∧ a < M 27 2) ∧ 0 ≤ b ∧ b < M 27 2)) => h 0 _ inr0 rfl (fun q => by omega) (RR.thr hR _)) (fun (zc : ((0 ≤ a ∧ a < M 27 2) ∧ 0 ≤ b ∧ b < M 27 2) ∧ ¬ (M 31 a = 2 ∧ M 31 b = 1)) => (by exfalso; omega))
  · skip
    refine ⟨true, 1, fun M1 => M1 = M, by omega, fun QW h => w_L_lend_x1 a b (fun Q2 hk => c_X7_lend_x1 a b hR.2.1.1 ia ib h1 (hk _ (h _ rfl))), fun M1 hM Q2 h => ?_⟩
    rw [hM]
    exact c_X8_lend a b hR.sj ia ib (fun (zc : ((0 ≤ a ∧ a < M 27 2) ∧ 0 ≤ b ∧ b < M 27 2) ∧ M 31 a = 2 ∧ M 31 b = 1) => (by exfalso; omega)) (fun (zc : ¬ ((0 ≤ a ∧ a < M 27 2) ∧ 0 ≤ b ∧ b < M 27 2)) => h 0 _ inr0 rfl (fun q => by omega) (RR.thr hR _)) (fun (zc : ((0 ≤ a ∧ a < M 27 2) ∧ 0 ≤ b ∧ b < M 27 2) ∧ ¬ (M 31 a = 2 ∧ M 31 b = 1)) => (by exfalso; omega))
