theorem RG.mono {ns ns' n : Int} {S H B : Int → Int} (h : RG ns n S H B) (hn : ns ≤ ns') : RG ns' n S H B := by
  obtain ⟨h1, h2, h3, h4, h5⟩ := h
  refine ⟨h1, fun m m0 m1 => ?_, fun m k m0 m1 k0 k1 => ?_, h4, h5⟩
  · have := h2 m m0 m1; omega
  · have := h3 m k m0 m1 k0 k1; omega
theorem up_s (M : Mem) (k : Nat) (j x : Int) : upM M k j x k j = x := by unfold upM; rw [if_pos ⟨rfl, rfl⟩]
theorem up_n (M : Mem) (k : Nat) {j x i : Int} (h : i ≠ j) : upM M k j x k i = M k i := by unfold upM; rw [if_neg (fun q => h q.2)]
theorem SInv.add {M Y : Mem} {a b c : Int} (h : SInv M) (hn : M 7 3 < 8) (ha : 0 ≤ a ∧ a < 144) (hb : 0 ≤ b ∧ b ≤ 50) (hc : 1 ≤ c ∧ c ≤ 2) (ht : ¬ ∃ i, 0 ≤ i ∧ i < M 7 3 ∧ M 8 i = a) (e7 : Y 7 3 = M 7 3 + 1) (e8 : Y 8 = upM M 8 (M 7 3) a 8) (e9 : Y 9 = upM M 9 (M 7 3) b 9) (e10 : Y 10 = upM M 10 (M 7 3) c 10) : SInv Y := by
  obtain ⟨h1, h2, h3⟩ := h
  unfold SInv
  rw [e7, e8, e9, e10]
  refine ⟨by omega, fun i i0 i1 => ?_, fun i j i0 i1 j0 j1 hij => ?_⟩
  · by_cases hi : i = M 7 3
    · subst hi; rw [up_s, up_s, up_s]; exact ⟨ha, hb, hc⟩
    · rw [up_n _ _ hi, up_n _ _ hi, up_n _ _ hi]; exact h2 i i0 (by omega)
  · by_cases hi : i = M 7 3
    · by_cases hj : j = M 7 3
      · omega
      · rw [hi, up_s, up_n _ _ hj] at hij
        exact absurd ⟨j, j0, by omega, hij.symm⟩ ht
    · by_cases hj : j = M 7 3
      · rw [hj, up_s, up_n _ _ hi] at hij
        exact absurd ⟨i, i0, by omega, hij⟩ ht
      · rw [up_n _ _ hi, up_n _ _ hj] at hij
        exact h3 i j i0 (by omega) j0 (by omega) hij
theorem op_addStation {ev : Ev} {M : Mem} {a b c : Int} (hR : RR M) (ia : Inr a) (ib : Inr b) (ic : Inr c) : CALL ev t_L_addStation hh_L_addStation t_X8_addStation 2 [vI a, vI b, vI c] M := by
  have hs := hR.ns
  have hn : M 27 2 = M 7 3 := hR.2.1.2.1
  have hT : (∃ i, 0 ≤ i ∧ i < M 27 2 ∧ M 29 i = a) ↔ (∃ i, 0 ≤ i ∧ i < M 7 3 ∧ M 8 i = a) := by rw [hn, hR.2.1.2.2.1]
  by_cases h1 : 0 ≤ a ∧ a < 144
  · by_cases h2 : 0 ≤ b ∧ b ≤ 50
    · by_cases h3 : 1 ≤ c ∧ c ≤ 2
      · by_cases h4 : ∃ i, 0 ≤ i ∧ i < M 7 3 ∧ M 8 i = a
        · skip
          refine ⟨true, 3, fun M1 => M1 = M, by omega, fun QW h => w_L_addStation_x3 a b c (fun Q2 hk => c_X7_addStation_x4 a b c hR.2.1.1 h1 h2 h3 h4 (hk _ (h _ rfl))), fun M1 hM Q2 h => ?_⟩
          rw [hM]
          exact c_X8_addStation a b c hR.sj ia ib ic (fun (zc : ((0 ≤ a ∧ a < 144) ∧ (0 ≤ b ∧ b ≤ 50) ∧ 1 ≤ c ∧ c ≤ 2) ∧ ¬ (∃ i, 0 ≤ i ∧ i < M 27 2 ∧ M 29 i = a) ∧ M 27 2 < 8) => (by exfalso; first | (clear hT h; omega) | exact zc.2.1 (hT.mpr h4) | exact zc h1 | exact zc.2 ⟨h2, h3⟩ | (have h6 : ¬ (∃ i, 0 ≤ i ∧ i < M 7 3 ∧ M 8 i = a) := h4; rcases zc.2 with q | q; exact h6 (hT.mp q); clear hT h; omega))) (fun (zc : ¬ (0 ≤ a ∧ a < 144)) => (by exfalso; first | (clear hT h; omega) | exact zc.2.1 (hT.mpr h4) | exact zc h1 | exact zc.2 ⟨h2, h3⟩ | (have h6 : ¬ (∃ i, 0 ≤ i ∧ i < M 7 3 ∧ M 8 i = a) := h4; rcases zc.2 with q | q; exact h6 (hT.mp q); clear hT h; omega))) (fun (zc : (0 ≤ a ∧ a < 144) ∧ ¬ ((0 ≤ b ∧ b ≤ 50) ∧ 1 ≤ c ∧ c ≤ 2)) => (by exfalso; first | (clear hT h; omega) | exact zc.2.1 (hT.mpr h4) | exact zc h1 | exact zc.2 ⟨h2, h3⟩ | (have h6 : ¬ (∃ i, 0 ≤ i ∧ i < M 7 3 ∧ M 8 i = a) := h4; rcases zc.2 with q | q; exact h6 (hT.mp q); clear hT h; omega))) (fun (zc : ((0 ≤ a ∧ a < 144) ∧ (0 ≤ b ∧ b ≤ 50) ∧ 1 ≤ c ∧ c ≤ 2) ∧ ((∃ i, 0 ≤ i ∧ i < M 27 2 ∧ M 29 i = a) ∨ M 27 2 = 8)) => h 0 _ inr0 rfl (fun q => by omega) (RR.thr hR _))
        · by_cases h5 : M 7 3 = 8
          · skip
            refine ⟨true, 3, fun M1 => M1 = M, by omega, fun QW h => w_L_addStation_x3 a b c (fun Q2 hk => c_X7_addStation_x5 a b c hR.2.1.1 h1 h2 h3 h4 h5 (hk _ (h _ rfl))), fun M1 hM Q2 h => ?_⟩
            rw [hM]
            exact c_X8_addStation a b c hR.sj ia ib ic (fun (zc : ((0 ≤ a ∧ a < 144) ∧ (0 ≤ b ∧ b ≤ 50) ∧ 1 ≤ c ∧ c ≤ 2) ∧ ¬ (∃ i, 0 ≤ i ∧ i < M 27 2 ∧ M 29 i = a) ∧ M 27 2 < 8) => (by exfalso; first | (have := zc.2.2; clear hT h; omega) | exact zc h1 | exact zc.2 ⟨h2, h3⟩)) (fun (zc : ¬ (0 ≤ a ∧ a < 144)) => (by exfalso; first | (have := zc.2.2; clear hT h; omega) | exact zc h1 | exact zc.2 ⟨h2, h3⟩)) (fun (zc : (0 ≤ a ∧ a < 144) ∧ ¬ ((0 ≤ b ∧ b ≤ 50) ∧ 1 ≤ c ∧ c ≤ 2)) => (by exfalso; first | (have := zc.2.2; clear hT h; omega) | exact zc h1 | exact zc.2 ⟨h2, h3⟩)) (fun (zc : ((0 ≤ a ∧ a < 144) ∧ (0 ≤ b ∧ b ≤ 50) ∧ 1 ≤ c ∧ c ≤ 2) ∧ ((∃ i, 0 ≤ i ∧ i < M 27 2 ∧ M 29 i = a) ∨ M 27 2 = 8)) => h 0 _ inr0 rfl (fun q => by omega) (RR.thr hR _))
          · have hi : Inr (M 7 3) := ⟨by clear hT; omega, by clear hT; omega⟩
            refine ⟨false, 0, fun M1 => M1 = upM (upM (upM (upM (upM M 8 (M 7 3) a) 9 (M 7 3) b) 10 (M 7 3) c) 7 3 (M 7 3 + 1)) 46 0 (M 7 3), by omega, fun QW h => w_L_addStation a b c (fun Q2 hk => c_X7_addStation a b c hR.2.1.1 h1 h2 h3 h4 (by clear hT; omega) (fun r zr => hk r _ (by rw [zr]; exact hi) (by rw [zr]; exact h _ rfl))), fun M1 hM Q2 h => ?_⟩
            rw [hM]
            refine c_X8_addStation a b c hR.sj ia ib ic (fun (zc : ((0 ≤ a ∧ a < 144) ∧ (0 ≤ b ∧ b ≤ 50) ∧ 1 ≤ c ∧ c ≤ 2) ∧ ¬ (∃ i, 0 ≤ i ∧ i < M 27 2 ∧ M 29 i = a) ∧ M 27 2 < 8) => h _ _ (by show Inr (M 27 2); rw [hn]; exact hi) rfl (fun _ => ?_) ?_) (fun (zc : ¬ (0 ≤ a ∧ a < 144)) => (by exfalso; first | (clear hT h; omega) | exact zc h1 | exact zc.2 ⟨h2, h3⟩ | (rcases zc.2 with q | q; exact h4 (hT.mp q); clear hT h; omega))) (fun (zc : (0 ≤ a ∧ a < 144) ∧ ¬ ((0 ≤ b ∧ b ≤ 50) ∧ 1 ≤ c ∧ c ≤ 2)) => (by exfalso; first | (clear hT h; omega) | exact zc h1 | exact zc.2 ⟨h2, h3⟩ | (rcases zc.2 with q | q; exact h4 (hT.mp q); clear hT h; omega))) (fun (zc : ((0 ≤ a ∧ a < 144) ∧ (0 ≤ b ∧ b ≤ 50) ∧ 1 ≤ c ∧ c ≤ 2) ∧ ((∃ i, 0 ≤ i ∧ i < M 27 2 ∧ M 29 i = a) ∨ M 27 2 = 8)) => (by exfalso; first | (clear hT h; omega) | exact zc h1 | exact zc.2 ⟨h2, h3⟩ | (rcases zc.2 with q | q; exact h4 (hT.mp q); clear hT h; omega)))
            · exact hn.symm
            · refine ⟨hR.1.of rfl rfl, ⟨hR.2.1.1.add (by clear hT h; omega) h1 h2 h3 h4 rfl ?_ ?_ ?_, by show M 27 2 + 1 = M 7 3 + 1; rw [hn], (by
                have q1 : M 29 = M 8 := hR.2.1.2.2.1
                funext i
                have q2 : M 29 i = M 8 i := by rw [q1]
                simp only [upM]
                grind), (by
                have q1 : M 30 = M 9 := hR.2.1.2.2.2.1
                funext i
                have q2 : M 30 i = M 9 i := by rw [q1]
                simp only [upM]
                grind), (by
                have q1 : M 31 = M 10 := hR.2.1.2.2.2.2
                funext i
                have q2 : M 31 i = M 10 i := by rw [q1]
                simp only [upM]
                grind)⟩, hR.2.2.1.of rfl rfl rfl rfl rfl rfl rfl rfl rfl rfl rfl rfl, hR.2.2.2.1.of rfl rfl rfl rfl, ⟨hR.2.2.2.2.1, hR.2.2.2.2.2.1.mono (by show M 7 3 ≤ M 7 3 + 1; clear hT h; omega), hR.2.2.2.2.2.2⟩⟩
              · rfl
              · rfl
              · rfl
      · skip
        refine ⟨true, 2, fun M1 => M1 = M, by omega, fun QW h => w_L_addStation_x2 a b c (fun Q2 hk => c_X7_addStation_x3 a b c ia ib ic h1 h2 h3 (hk _ (h _ rfl))), fun M1 hM Q2 h => ?_⟩
        rw [hM]
        exact c_X8_addStation a b c hR.sj ia ib ic (fun (zc : ((0 ≤ a ∧ a < 144) ∧ (0 ≤ b ∧ b ≤ 50) ∧ 1 ≤ c ∧ c ≤ 2) ∧ ¬ (∃ i, 0 ≤ i ∧ i < M 27 2 ∧ M 29 i = a) ∧ M 27 2 < 8) => (by exfalso; first | exact zc h1 | exact h3 zc.1.2.2)) (fun (zc : ¬ (0 ≤ a ∧ a < 144)) => (by exfalso; first | exact zc h1 | exact h3 zc.1.2.2)) (fun (zc : (0 ≤ a ∧ a < 144) ∧ ¬ ((0 ≤ b ∧ b ≤ 50) ∧ 1 ≤ c ∧ c ≤ 2)) => h 0 _ inr0 rfl (fun q => by omega) (RR.thr hR _)) (fun (zc : ((0 ≤ a ∧ a < 144) ∧ (0 ≤ b ∧ b ≤ 50) ∧ 1 ≤ c ∧ c ≤ 2) ∧ ((∃ i, 0 ≤ i ∧ i < M 27 2 ∧ M 29 i = a) ∨ M 27 2 = 8)) => (by exfalso; first | exact zc h1 | exact h3 zc.1.2.2))
    · skip
      refine ⟨true, 2, fun M1 => M1 = M, by omega, fun QW h => w_L_addStation_x2 a b c (fun Q2 hk => c_X7_addStation_x2 a b c ia ib ic h1 h2 (hk _ (h _ rfl))), fun M1 hM Q2 h => ?_⟩
      rw [hM]
      exact c_X8_addStation a b c hR.sj ia ib ic (fun (zc : ((0 ≤ a ∧ a < 144) ∧ (0 ≤ b ∧ b ≤ 50) ∧ 1 ≤ c ∧ c ≤ 2) ∧ ¬ (∃ i, 0 ≤ i ∧ i < M 27 2 ∧ M 29 i = a) ∧ M 27 2 < 8) => (by exfalso; first | exact zc h1 | exact h2 zc.1.2.1)) (fun (zc : ¬ (0 ≤ a ∧ a < 144)) => (by exfalso; first | exact zc h1 | exact h2 zc.1.2.1)) (fun (zc : (0 ≤ a ∧ a < 144) ∧ ¬ ((0 ≤ b ∧ b ≤ 50) ∧ 1 ≤ c ∧ c ≤ 2)) => h 0 _ inr0 rfl (fun q => by omega) (RR.thr hR _)) (fun (zc : ((0 ≤ a ∧ a < 144) ∧ (0 ≤ b ∧ b ≤ 50) ∧ 1 ≤ c ∧ c ≤ 2) ∧ ((∃ i, 0 ≤ i ∧ i < M 27 2 ∧ M 29 i = a) ∨ M 27 2 = 8)) => (by exfalso; first | exact zc h1 | exact h2 zc.1.2.1))
  · skip
    refine ⟨true, 1, fun M1 => M1 = M, by omega, fun QW h => w_L_addStation_x1 a b c (fun Q2 hk => c_X7_addStation_x1 a b c ia ib ic h1 (hk _ (h _ rfl))), fun M1 hM Q2 h => ?_⟩
    rw [hM]
    exact c_X8_addStation a b c hR.sj ia ib ic (fun (zc : ((0 ≤ a ∧ a < 144) ∧ (0 ≤ b ∧ b ≤ 50) ∧ 1 ≤ c ∧ c ≤ 2) ∧ ¬ (∃ i, 0 ≤ i ∧ i < M 27 2 ∧ M 29 i = a) ∧ M 27 2 < 8) => (by exfalso; first | exact h1 zc.1 | exact h1 zc.1.1)) (fun (zc : ¬ (0 ≤ a ∧ a < 144)) => h 0 _ inr0 rfl (fun q => by omega) (RR.thr hR _)) (fun (zc : (0 ≤ a ∧ a < 144) ∧ ¬ ((0 ≤ b ∧ b ≤ 50) ∧ 1 ≤ c ∧ c ≤ 2)) => (by exfalso; first | exact h1 zc.1 | exact h1 zc.1.1)) (fun (zc : ((0 ≤ a ∧ a < 144) ∧ (0 ≤ b ∧ b ≤ 50) ∧ 1 ≤ c ∧ c ≤ 2) ∧ ((∃ i, 0 ≤ i ∧ i < M 27 2 ∧ M 29 i = a) ∨ M 27 2 = 8)) => (by exfalso; first | exact h1 zc.1 | exact h1 zc.1.1))
theorem RK.add {M Y : Mem} {a b c d : Int} (h : RK M) (hn : M 11 6 < 6) (ha : 0 ≤ a ∧ a < 144) (hb : 0 ≤ b ∧ b < 144) (hc : 6 ≤ c ∧ c ≤ 17) (hd : 6 ≤ d ∧ d ≤ 17) (e11 : Y 11 6 = M 11 6 + 1) (f6 : Y 27 6 = M 27 6 + 1)
    (e12 : Y 12 = upM M 12 (M 11 6) (imin (a % 12) (b % 12)) 12) (e13 : Y 13 = upM M 13 (M 11 6) (imax (a % 12) (b % 12)) 13) (e14 : Y 14 = upM M 14 (M 11 6) (imin (a / 12) (b / 12)) 14) (e15 : Y 15 = upM M 15 (M 11 6) (imax (a / 12) (b / 12)) 15) (e16 : Y 16 = upM M 16 (M 11 6) c 16) (e17 : Y 17 = upM M 17 (M 11 6) d 17)
    (e32 : Y 32 = upM M 32 (M 27 6) a 32) (e33 : Y 33 = upM M 33 (M 27 6) b 33) (e34 : Y 34 = upM M 34 (M 27 6) c 34) (e35 : Y 35 = upM M 35 (M 27 6) d 35) : RK Y := by
  obtain ⟨⟨h1, h2⟩, h3, h4⟩ := h
  rw [h3] at e32 e33 e34 e35 f6
  have b1 : 0 ≤ imin (a % 12) (b % 12) ∧ imin (a % 12) (b % 12) < 12 := by unfold imin; split <;> omega
  have b2 : 0 ≤ imax (a % 12) (b % 12) ∧ imax (a % 12) (b % 12) < 12 := by unfold imax; split <;> omega
  have b3 : 0 ≤ imin (a / 12) (b / 12) ∧ imin (a / 12) (b / 12) < 12 := by unfold imin; split <;> omega
  have b4 : 0 ≤ imax (a / 12) (b / 12) ∧ imax (a / 12) (b / 12) < 12 := by unfold imax; split <;> omega
  unfold RK KInv ckR
  rw [e11, e12, e13, e14, e15, e16, e17, e32, e33, e34, e35, f6]
  refine ⟨⟨by omega, fun i i0 i1 => ?_⟩, rfl, fun i i0 i1 => ?_⟩
  · by_cases hi : i = M 11 6
    · subst hi; rw [up_s, up_s, up_s, up_s, up_s, up_s]; exact ⟨b1, b2, b3, b4, hc, hd⟩
    · rw [up_n _ _ hi, up_n _ _ hi, up_n _ _ hi, up_n _ _ hi, up_n _ _ hi, up_n _ _ hi]; exact h2 i i0 (by omega)
  · by_cases hi : i = M 11 6
    · subst hi; rw [up_s, up_s, up_s, up_s, up_s, up_s, up_s, up_s, up_s, up_s]; exact ⟨ha, hb, rfl, rfl, rfl, rfl, rfl, rfl⟩
    · rw [up_n _ _ hi, up_n _ _ hi, up_n _ _ hi, up_n _ _ hi, up_n _ _ hi, up_n _ _ hi, up_n _ _ hi, up_n _ _ hi, up_n _ _ hi, up_n _ _ hi]; exact h4 i i0 (by omega)
theorem op_addCloud {ev : Ev} {M : Mem} {a b c d : Int} (hR : RR M) (ia : Inr a) (ib : Inr b) (ic : Inr c) (id : Inr d) : CALL ev t_L_addCloud hh_L_addCloud t_X8_addCloud 2 [vI a, vI b, vI c, vI d] M := by
  have hk1 := hR.2.2.1.1.1
  have hn : M 27 6 = M 11 6 := hR.2.2.1.2.1
  have hk4 : 0 ≤ M 27 6 ∧ M 27 6 ≤ 6 := by rw [hn]; exact hk1
  by_cases h1 : 0 ≤ a ∧ a < 144
  · by_cases h2 : 0 ≤ b ∧ b < 144
    · by_cases h3 : 6 ≤ c ∧ c ≤ 17
      · by_cases h4 : c ≤ d ∧ d ≤ 17
        · by_cases h5 : M 11 6 = 6
          · skip
            refine ⟨true, 3, fun M1 => M1 = M, by omega, fun QW h => w_L_addCloud_x3 a b c d (fun Q2 hk => c_X7_addCloud_x5 a b c d ia ib ic id h1 h2 h3 h4 h5 (hk _ (h _ rfl))), fun M1 hM Q2 h => ?_⟩
            rw [hM]
            exact c_X8_addCloud a b c d ia ib ic id hk4 (fun (zc : ((0 ≤ a ∧ a < 144) ∧ (0 ≤ b ∧ b < 144) ∧ (6 ≤ c ∧ c ≤ 17) ∧ c ≤ d ∧ d ≤ 17) ∧ M 27 6 < 6) => (by exfalso; omega)) (fun (zc : ¬ ((0 ≤ a ∧ a < 144) ∧ 0 ≤ b ∧ b < 144)) => (by exfalso; omega)) (fun (zc : ((0 ≤ a ∧ a < 144) ∧ 0 ≤ b ∧ b < 144) ∧ ¬ ((6 ≤ c ∧ c ≤ 17) ∧ c ≤ d ∧ d ≤ 17)) => (by exfalso; omega)) (fun (zc : ((0 ≤ a ∧ a < 144) ∧ (0 ≤ b ∧ b < 144) ∧ (6 ≤ c ∧ c ≤ 17) ∧ c ≤ d ∧ d ≤ 17) ∧ M 27 6 = 6) => h 0 _ inr0 rfl (fun q => by omega) (RR.thr hR _))
          · have hi : Inr (M 11 6) := ⟨by omega, by omega⟩
            refine ⟨false, 0, fun M1 => M1 = upM (upM (upM (upM (upM (upM (upM (upM M 12 (M 11 6) (imin (a % 12) (b % 12))) 13 (M 11 6) (imax (a % 12) (b % 12))) 14 (M 11 6) (imin (a / 12) (b / 12))) 15 (M 11 6) (imax (a / 12) (b / 12))) 16 (M 11 6) c) 17 (M 11 6) d) 11 6 (M 11 6 + 1)) 46 0 (M 11 6), by omega, fun QW h => w_L_addCloud a b c d (fun Q2 hk => c_X7_addCloud a b c d h1 h2 h3 h4 (by omega) (fun r zr => hk r _ (by rw [zr]; exact hi) (by rw [zr]; exact h _ rfl))), fun M1 hM Q2 h => ?_⟩
            rw [hM]
            refine c_X8_addCloud a b c d ia ib ic id hk4 (fun (zc : ((0 ≤ a ∧ a < 144) ∧ (0 ≤ b ∧ b < 144) ∧ (6 ≤ c ∧ c ≤ 17) ∧ c ≤ d ∧ d ≤ 17) ∧ M 27 6 < 6) => h _ _ (by show Inr (M 27 6); rw [hn]; exact hi) rfl (fun _ => ?_) ?_) (fun (zc : ¬ ((0 ≤ a ∧ a < 144) ∧ 0 ≤ b ∧ b < 144)) => (by exfalso; omega)) (fun (zc : ((0 ≤ a ∧ a < 144) ∧ 0 ≤ b ∧ b < 144) ∧ ¬ ((6 ≤ c ∧ c ≤ 17) ∧ c ≤ d ∧ d ≤ 17)) => (by exfalso; omega)) (fun (zc : ((0 ≤ a ∧ a < 144) ∧ (0 ≤ b ∧ b < 144) ∧ (6 ≤ c ∧ c ≤ 17) ∧ c ≤ d ∧ d ≤ 17) ∧ M 27 6 = 6) => (by exfalso; omega))
            · exact hn.symm
            · exact ⟨hR.1.of rfl rfl, hR.2.1.of rfl rfl rfl rfl rfl rfl rfl rfl, hR.2.2.1.add (by omega) h1 h2 h3 ⟨by omega, by omega⟩ rfl rfl rfl rfl rfl rfl rfl rfl rfl rfl rfl rfl, hR.2.2.2.1.of rfl rfl rfl rfl, hR.2.2.2.2.of rfl rfl rfl rfl rfl rfl rfl⟩
        · skip
          refine ⟨true, 2, fun M1 => M1 = M, by omega, fun QW h => w_L_addCloud_x2 a b c d (fun Q2 hk => c_X7_addCloud_x4 a b c d ia ib ic id h1 h2 h3 h4 (hk _ (h _ rfl))), fun M1 hM Q2 h => ?_⟩
          rw [hM]
          exact c_X8_addCloud a b c d ia ib ic id hk4 (fun (zc : ((0 ≤ a ∧ a < 144) ∧ (0 ≤ b ∧ b < 144) ∧ (6 ≤ c ∧ c ≤ 17) ∧ c ≤ d ∧ d ≤ 17) ∧ M 27 6 < 6) => (by exfalso; omega)) (fun (zc : ¬ ((0 ≤ a ∧ a < 144) ∧ 0 ≤ b ∧ b < 144)) => (by exfalso; omega)) (fun (zc : ((0 ≤ a ∧ a < 144) ∧ 0 ≤ b ∧ b < 144) ∧ ¬ ((6 ≤ c ∧ c ≤ 17) ∧ c ≤ d ∧ d ≤ 17)) => h 0 _ inr0 rfl (fun q => by omega) (RR.thr hR _)) (fun (zc : ((0 ≤ a ∧ a < 144) ∧ (0 ≤ b ∧ b < 144) ∧ (6 ≤ c ∧ c ≤ 17) ∧ c ≤ d ∧ d ≤ 17) ∧ M 27 6 = 6) => (by exfalso; omega))
      · skip
        refine ⟨true, 2, fun M1 => M1 = M, by omega, fun QW h => w_L_addCloud_x2 a b c d (fun Q2 hk => c_X7_addCloud_x3 a b c d ia ib ic id h1 h2 h3 (hk _ (h _ rfl))), fun M1 hM Q2 h => ?_⟩
        rw [hM]
        exact c_X8_addCloud a b c d ia ib ic id hk4 (fun (zc : ((0 ≤ a ∧ a < 144) ∧ (0 ≤ b ∧ b < 144) ∧ (6 ≤ c ∧ c ≤ 17) ∧ c ≤ d ∧ d ≤ 17) ∧ M 27 6 < 6) => (by exfalso; omega)) (fun (zc : ¬ ((0 ≤ a ∧ a < 144) ∧ 0 ≤ b ∧ b < 144)) => (by exfalso; omega)) (fun (zc : ((0 ≤ a ∧ a < 144) ∧ 0 ≤ b ∧ b < 144) ∧ ¬ ((6 ≤ c ∧ c ≤ 17) ∧ c ≤ d ∧ d ≤ 17)) => h 0 _ inr0 rfl (fun q => by omega) (RR.thr hR _)) (fun (zc : ((0 ≤ a ∧ a < 144) ∧ (0 ≤ b ∧ b < 144) ∧ (6 ≤ c ∧ c ≤ 17) ∧ c ≤ d ∧ d ≤ 17) ∧ M 27 6 = 6) => (by exfalso; omega))
    · skip
      refine ⟨true, 1, fun M1 => M1 = M, by omega, fun QW h => w_L_addCloud_x1 a b c d (fun Q2 hk => c_X7_addCloud_x2 a b c d ia ib ic id h1 h2 (hk _ (h _ rfl))), fun M1 hM Q2 h => ?_⟩
      rw [hM]
      exact c_X8_addCloud a b c d ia ib ic id hk4 (fun (zc : ((0 ≤ a ∧ a < 144) ∧ (0 ≤ b ∧ b < 144) ∧ (6 ≤ c ∧ c ≤ 17) ∧ c ≤ d ∧ d ≤ 17) ∧ M 27 6 < 6) => (by exfalso; omega)) (fun (zc : ¬ ((0 ≤ a ∧ a < 144) ∧ 0 ≤ b ∧ b < 144)) => h 0 _ inr0 rfl (fun q => by omega) (RR.thr hR _)) (fun (zc : ((0 ≤ a ∧ a < 144) ∧ 0 ≤ b ∧ b < 144) ∧ ¬ ((6 ≤ c ∧ c ≤ 17) ∧ c ≤ d ∧ d ≤ 17)) => (by exfalso; omega)) (fun (zc : ((0 ≤ a ∧ a < 144) ∧ (0 ≤ b ∧ b < 144) ∧ (6 ≤ c ∧ c ≤ 17) ∧ c ≤ d ∧ d ≤ 17) ∧ M 27 6 = 6) => (by exfalso; omega))
  · skip
    refine ⟨true, 1, fun M1 => M1 = M, by omega, fun QW h => w_L_addCloud_x1 a b c d (fun Q2 hk => c_X7_addCloud_x1 a b c d ia ib ic id h1 (hk _ (h _ rfl))), fun M1 hM Q2 h => ?_⟩
    rw [hM]
    exact c_X8_addCloud a b c d ia ib ic id hk4 (fun (zc : ((0 ≤ a ∧ a < 144) ∧ (0 ≤ b ∧ b < 144) ∧ (6 ≤ c ∧ c ≤ 17) ∧ c ≤ d ∧ d ≤ 17) ∧ M 27 6 < 6) => (by exfalso; omega)) (fun (zc : ¬ ((0 ≤ a ∧ a < 144) ∧ 0 ≤ b ∧ b < 144)) => h 0 _ inr0 rfl (fun q => by omega) (RR.thr hR _)) (fun (zc : ((0 ≤ a ∧ a < 144) ∧ 0 ≤ b ∧ b < 144) ∧ ¬ ((6 ≤ c ∧ c ≤ 17) ∧ c ≤ d ∧ d ≤ 17)) => (by exfalso; omega)) (fun (zc : ((0 ≤ a ∧ a < 144) ∧ (0 ≤ b ∧ b < 144) ∧ (6 ≤ c ∧ c ≤ 17) ∧ c ≤ d ∧ d ≤ 17) ∧ M 27 6 = 6) => (by exfalso; omega))
theorem fill_bk (i : Int) (S H : Int → Int) (i0 : 0 ≤ i) (i1 : i < 576) (M : Mem) : fillM M 21 576 (-1) 21 i = ltF (fun _ => -1) S H (0 : Int).toNat i := by
  show (if 21 = 21 ∧ 0 ≤ i ∧ i < 576 then (-1 : Int) else M 21 i) = -1
  rw [if_pos ⟨rfl, i0, i1⟩]
theorem RG.nil {ns : Int} {S H B : Int → Int} (hB : ∀ i, 0 ≤ i → i < 576 → B i = ltF (fun _ => -1) S H (0 : Int).toNat i) : RG ns 0 S H B :=
  ⟨by omega, fun m m0 m1 => by omega, fun m k m0 m1 => by omega, fun m m' i m0 m1 => by omega, hB⟩
theorem op_begin {ev : Ev} {M : Mem} (hR : RR M) : CALI ev t_X7_begin t_X8_begin 2 0 M := by
  have hs := hR.ns
  have hn : M 27 2 = M 7 3 := hR.2.1.2.1
  have hi : Inr (M 7 3) := ⟨by omega, by omega⟩
  refine ⟨M 7 3, fun M1 => M1 = fillM (upM (upM (upM (fillM M 2 144 0) 7 3 0) 11 6 0) 19 2 0) 21 576 (-1), hi, fun Q2 h => c_X7_begin (fun r zr => by rw [zr]; exact h _ rfl), fun M1 hM Q2 h => ?_⟩
  rw [hM]
  refine c_X8_begin (fun r zr => ?_)
  have zr2 : r = M 7 3 := by rw [← hn]; exact zr
  rw [zr2]
  refine h _ ⟨⟨fun i i0 i1 => ?_, ?_⟩, ⟨⟨by show (0 : Int) ≤ 0 ∧ (0 : Int) ≤ 8; omega, fun i i0 i1 => absurd (show i < 0 from i1) (by omega), fun i j i0 i1 => absurd (show i < 0 from i1) (by omega)⟩, rfl, hR.2.1.2.2⟩, ⟨⟨by show (0 : Int) ≤ 0 ∧ (0 : Int) ≤ 6; omega, fun i i0 i1 => absurd (show i < 0 from i1) (by omega)⟩, rfl, fun j j0 j1 => absurd (show j < 0 from j1) (by omega)⟩, hR.2.2.2.1.of rfl rfl rfl rfl, ⟨rfl, RG.nil (fun i i0 i1 => fill_bk i _ _ i0 i1 _), fun m m0 m1 => absurd (show m < 0 from m1) (by omega)⟩⟩
  · show 0 ≤ fillM M 2 144 0 2 i ∧ fillM M 2 144 0 2 i ≤ 500
    unfold fillM; rw [if_pos ⟨rfl, i0, i1⟩]; omega
  · funext i
    have q1 : M 28 i = M 2 i := by rw [hR.1.2]
    simp only [upM, fillM]
    grind
theorem op_clearBuffer {ev : Ev} {M : Mem} (hR : RR M) : CALI ev t_X7_clearBuffer t_X8_clearBuffer 1 0 M := by
  have hl := hR.2.2.2.1.1
  have hn : M 27 14 = M 3 3 := hR.2.2.2.1.2.2.1
  have hi : Inr (M 3 3) := ⟨by omega, by omega⟩
  refine ⟨M 3 3, fun M1 => M1 = upM M 3 3 0, hi, fun Q2 h => c_X7_clearBuffer (fun r zr => by rw [zr]; exact h _ rfl), fun M1 hM Q2 h => ?_⟩
  rw [hM]
  refine c_X8_clearBuffer (fun r zr => ?_)
  have zr2 : r = M 3 3 := by rw [← hn]; exact zr
  rw [zr2]
  exact h _ ⟨hR.1.of rfl rfl, hR.2.1.of rfl rfl rfl rfl rfl rfl rfl rfl, hR.2.2.1.of rfl rfl rfl rfl rfl rfl rfl rfl rfl rfl rfl rfl, ⟨by show (0 : Int) ≤ 0 ∧ (0 : Int) ≤ 40; omega, fun i i0 i1 => absurd (show i < 0 from i1) (by omega), rfl, hR.2.2.2.1.2.2.2⟩, hR.2.2.2.2.of rfl rfl rfl rfl rfl rfl rfl⟩
theorem op_clearClouds {ev : Ev} {M : Mem} (hR : RR M) : CALI ev t_X7_clearClouds t_X8_clearClouds 1 0 M := by
  have hl := hR.2.2.1.1.1
  have hn : M 27 6 = M 11 6 := hR.2.2.1.2.1
  have hi : Inr (M 11 6) := ⟨by omega, by omega⟩
  refine ⟨M 11 6, fun M1 => M1 = upM M 11 6 0, hi, fun Q2 h => c_X7_clearClouds (fun r zr => by rw [zr]; exact h _ rfl), fun M1 hM Q2 h => ?_⟩
  rw [hM]
  refine c_X8_clearClouds (fun r zr => ?_)
  have zr2 : r = M 11 6 := by rw [← hn]; exact zr
  rw [zr2]
  exact h _ ⟨hR.1.of rfl rfl, hR.2.1.of rfl rfl rfl rfl rfl rfl rfl rfl, ⟨⟨by show (0 : Int) ≤ 0 ∧ (0 : Int) ≤ 6; omega, fun i i0 i1 => absurd (show i < 0 from i1) (by omega)⟩, rfl, fun j j0 j1 => absurd (show j < 0 from j1) (by omega)⟩, hR.2.2.2.1.of rfl rfl rfl rfl, hR.2.2.2.2.of rfl rfl rfl rfl rfl rfl rfl⟩
theorem QR_0 (a b c d : Int → Int) : QR (0, 0, a, b) (0, 0, -1, c, d) := ⟨Or.inl ⟨rfl, rfl, rfl, rfl⟩, by show (0 : Int) ≤ 0; omega, fun j j0 j1 => absurd (show j < 0 from j1) (by omega)⟩
theorem RR.rd {M : Mem} (h : RR M) : (rdT M).1 = (rdQ M).1 ∧ (((rdT M).2.1 = 4 ∧ (rdQ M).1 < M 3 3) ∨ (QR (rdT M).2 (rdQ M).2 ∧ (rdQ M).1 = M 3 3)) := by
  obtain ⟨h1, h2, h3, h4⟩ := h.2.2.2.1
  unfold rdT rdQ
  rw [h3, h4]
  have := QR.run (M 4) (M 3 3).toNat 0 _ _ (QR_0 (M 5) (M 6) (M 39) (M 40)) (fun j j0 j1 => by have := h2 j j0 (by omega); omega)
  rw [show (0 : Int) + ((M 3 3).toNat : Int) = M 3 3 from by omega] at this
  exact this
theorem RR.tx {M : Mem} (h : RR M) : (0 ≤ M 27 14 ∧ M 27 14 ≤ 40) ∧ ∀ i, 0 ≤ i → i < M 27 14 → 33 ≤ M 38 i ∧ M 38 i ≤ 126 := by
  obtain ⟨h1, h2, h3, h4⟩ := h.2.2.2.1
  rw [h3, h4]; exact ⟨h1, h2⟩
theorem RR.rdb {M : Mem} (h : RR M) : 0 ≤ (rdQ M).1 ∧ (rdQ M).1 ≤ 40 := by
  have h1 := qrun_I (M 38) (M 27 14).toNat 0 (0, 0, -1, M 39, M 40) (QSI_0 _ _) (by omega)
  have h2 := h.tx.1
  unfold rdQ
  omega
theorem op_firstError {ev : Ev} {M : Mem} (hR : RR M) : CALI ev t_X7_firstError t_X8_firstError 4 3 M := by
  have hb := hR.rdb
  have he := hR.rd.1
  have hi : Inr (rdT M).1 := ⟨by omega, by omega⟩
  refine ⟨(rdT M).1, fun M1 => M1 = psM M (rdT M).2, hi, fun Q2 h => c_X7_firstError hR.2.2.2.1.1 hR.2.2.2.1.2.1 (fun _ => h _ rfl), fun M1 hM Q2 h => ?_⟩
  rw [hM]
  refine c_X8_firstError hR.tx.1 hR.tx.2 (fun _ => ?_)
  show Q2 (.inl (some (vI (rdQ M).1))) _
  rw [← he]
  exact h _ (hR.of rfl rfl rfl rfl rfl rfl rfl rfl rfl rfl rfl rfl rfl rfl rfl rfl rfl rfl rfl rfl rfl rfl rfl rfl rfl rfl rfl rfl rfl rfl rfl rfl)
theorem segT_bd {H C : Int → Int} : ∀ (n : Nat) (i c : Int) (h : Int → Int), (∀ j, i ≤ j → j < i + n → 0 ≤ H j ∧ H j ≤ 500) → ∀ (P : Int → Prop), (∀ x, P x → 0 ≤ h x ∧ h x ≤ 500) → ∀ x, P x → 0 ≤ segT H C n i c h x ∧ segT H C n i c h x ≤ 500
  | 0, _, _, _, _, _, hh => hh
  | n + 1, i, c, h, hH, P, hh => by
    unfold segT
    refine segT_bd n (i + 1) _ _ (fun j a b => hH j (by omega) (by omega)) P (fun x px => ?_)
    unfold segF
    split
    · exact hH i (Int.le_refl _) (by omega)
    · exact hh x px
theorem op_load {ev : Ev} {M : Mem} {a : Int} (hR : RR M) (ia : Inr a) : CALL ev t_L_load hh_L_load t_X8_load 3 [vI a] M := by
  have hb := hR.rdb
  have hl3 : M 27 14 = M 3 3 := hR.2.2.2.1.2.2.1
  obtain ⟨he, hd⟩ := hR.rd
  have hqj : QSJ (rdQ M).2 := qrun_J (M 38) (M 27 14).toNat 0 (0, 0, -1, M 39, M 40) (QSJ_0 _ _)
  have hqi : QSI (rdQ M).1 (rdQ M).2 := (qrun_I (M 38) (M 27 14).toNat 0 (0, 0, -1, M 39, M 40) (QSI_0 _ _) (by omega)).1
  have hi1 := hqi.1
  have hi2 := hqi.2.1
  have hok : ((rdQ M).1 = M 27 14 ∧ (rdQ M).2.2.2.1 ≠ -1) ↔ ((rdT M).2.1 = 1 ∨ (rdT M).2.1 = 3) := by
    rw [hl3]
    rcases hd with ⟨q1, q2⟩ | ⟨q1, q2⟩
    · constructor
      · intro q; omega
      · intro q; omega
    · rw [q1.fin.1]; exact ⟨fun q => q.2, fun q => ⟨q2, q⟩⟩
  have hcl : ((rdT M).2.1 = 1 ∨ (rdT M).2.1 = 3) → clS (rdT M).2.2.2.2 (rdT M).2.2.1.toNat 0 = icS (qend (rdQ M).2).2.2.2.2 ((rdQ M).2.1 + 1).toNat 0 ∧ (∀ f h, cpT (rdT M).2.2.2.1 (rdT M).2.2.2.2 (rdT M).2.2.1.toNat 0 f h = segT (qend (rdQ M).2).2.2.2.1 (qend (rdQ M).2).2.2.2.2 ((rdQ M).2.1 + 1).toNat 0 f h) ∧ 0 ≤ clS (rdT M).2.2.2.2 (rdT M).2.2.1.toNat 0 ∧ clS (rdT M).2.2.2.2 (rdT M).2.2.1.toNat 0 ≤ 5000 := by
    intro q
    rcases hd with ⟨q1, q2⟩ | ⟨q1, q2⟩
    · exfalso; omega
    · obtain ⟨f1, f2⟩ := q1.fin.2 (q1.fin.1.mp q)
      have hq := icS_bd (f := (qend (rdQ M).2).2.2.2.2) ((rdQ M).2.1 + 1).toNat 0 (fun j q0 q1' => (hqj.en (q1.fin.1.mp q) j q0 (by omega)).2)
      have e1 : icS (qend (rdQ M).2).2.2.2.2 ((rdQ M).2.1 + 1).toNat 0 = clS (rdT M).2.2.2.2 (rdT M).2.2.1.toNat 0 := by
        rw [f1]; exact ic_cl _ _ (fun j j0 j1 => (f2 j j0 (by omega)).2)
      refine ⟨e1.symm, fun f h => ?_, ?_⟩
      · rw [f1]; exact (seg_cp _ _ _ _ (fun j j0 j1 => f2 j j0 (by omega))).symm
      · rw [← e1]; omega
  by_cases h1 : 0 ≤ a ∧ a < 144
  · by_cases h2 : ((rdT M).2.1 = 1 ∨ (rdT M).2.1 = 3)
    · obtain ⟨c1, c2, c3, c4⟩ := hcl h2
      have h2q := hok.mpr h2
      by_cases h3 : a + clS (rdT M).2.2.2.2 (rdT M).2.2.1.toNat 0 ≤ 144
      · have hi : Inr (clS (rdT M).2.2.2.2 (rdT M).2.2.1.toNat 0) := ⟨by omega, by omega⟩
        have zno1 : ¬ (¬ (0 ≤ a ∧ a < 144)) := fun q => q h1
        have zno2 : ¬ ((0 ≤ a ∧ a < 144) ∧ ¬ ((qrun (M 38) (M 27 14).toNat 0 (0, 0, -1, M 39, M 40)).1 = M 27 14 ∧ (qrun (M 38) (M 27 14).toNat 0 (0, 0, -1, M 39, M 40)).2.2.2.1 ≠ -1)) := fun q => q.2 h2q
        have zno3 : ¬ ((0 ≤ a ∧ a < 144) ∧ ((qrun (M 38) (M 27 14).toNat 0 (0, 0, -1, M 39, M 40)).1 = M 27 14 ∧ (qrun (M 38) (M 27 14).toNat 0 (0, 0, -1, M 39, M 40)).2.2.2.1 ≠ -1) ∧ 144 < a + icS (qend (qrun (M 38) (M 27 14).toNat 0 (0, 0, -1, M 39, M 40)).2).2.2.2.2 ((qrun (M 38) (M 27 14).toNat 0 (0, 0, -1, M 39, M 40)).2.1 + 1).toNat 0) := fun q => by have q2 : 144 < a + icS (qend (rdQ M).2).2.2.2.2 ((rdQ M).2.1 + 1).toNat 0 := q.2.2; omega
        refine ⟨false, 0, fun M1 => M1 = upM (upM (stH (psM M (rdT M).2) (cpT (rdT M).2.2.2.1 (rdT M).2.2.2.2 (rdT M).2.2.1.toNat 0 a (M 2))) 3 3 0) 46 0 (clS (rdT M).2.2.2.2 (rdT M).2.2.1.toNat 0), by omega, fun QW h => w_L_load a (fun Q2 hk => c_X7_load a hR.2.2.2.1.1 hR.2.2.2.1.2.1 h1 h2 h3 (fun r zr => hk r _ (by rw [show r = clS (rdT M).2.2.2.2 (rdT M).2.2.1.toNat 0 from zr]; exact hi) (by rw [show r = clS (rdT M).2.2.2.2 (rdT M).2.2.1.toNat 0 from zr]; exact h _ rfl))), fun M1 hM Q2 h => ?_⟩
        rw [hM]
        refine c_X8_load a hR.tx.1 hR.tx.2 ia (fun zc => ?_) (fun X zc => (by exfalso; exact zno1 zc)) (fun X zc => (by exfalso; exact zno2 zc)) (fun X zc => (by exfalso; exact zno3 zc))
        refine h _ _ (by show Inr (icS (qend (rdQ M).2).2.2.2.2 ((rdQ M).2.1 + 1).toNat 0); rw [← c1]; exact hi) rfl (fun _ => by show clS (rdT M).2.2.2.2 (rdT M).2.2.1.toNat 0 = icS (qend (rdQ M).2).2.2.2.2 ((rdQ M).2.1 + 1).toNat 0; exact c1) ⟨⟨?_, ?_⟩, hR.2.1.of rfl rfl rfl rfl rfl rfl rfl rfl, hR.2.2.1.of rfl rfl rfl rfl rfl rfl rfl rfl rfl rfl rfl rfl, ⟨by show (0 : Int) ≤ 0 ∧ (0 : Int) ≤ 40; omega, fun i i0 i1 => absurd (show i < 0 from i1) (by omega), rfl, hR.2.2.2.1.2.2.2⟩, hR.2.2.2.2.of rfl rfl rfl rfl rfl rfl rfl⟩
        · show ∀ i, 0 ≤ i → i < 144 → 0 ≤ cpT (rdT M).2.2.2.1 (rdT M).2.2.2.2 (rdT M).2.2.1.toNat 0 a (M 2) i ∧ cpT (rdT M).2.2.2.1 (rdT M).2.2.2.2 (rdT M).2.2.1.toNat 0 a (M 2) i ≤ 500
          rw [c2]
          intro i i0 i1
          exact segT_bd _ _ _ _ (fun j j0 j1 => (hqj.en h2q.2 j j0 (by omega)).1) (fun i => 0 ≤ i ∧ i < 144) (fun i q => hR.1.1 i q.1 q.2) i ⟨i0, i1⟩
        · show segT (qend (rdQ M).2).2.2.2.1 (qend (rdQ M).2).2.2.2.2 ((rdQ M).2.1 + 1).toNat 0 a (M 28) = cpT (rdT M).2.2.2.1 (rdT M).2.2.2.2 (rdT M).2.2.1.toNat 0 a (M 2)
          rw [c2, hR.1.2]
      · skip
        have zno0 : ¬ ((0 ≤ a ∧ a < 144) ∧ ((qrun (M 38) (M 27 14).toNat 0 (0, 0, -1, M 39, M 40)).1 = M 27 14 ∧ (qrun (M 38) (M 27 14).toNat 0 (0, 0, -1, M 39, M 40)).2.2.2.1 ≠ -1) ∧ a + icS (qend (qrun (M 38) (M 27 14).toNat 0 (0, 0, -1, M 39, M 40)).2).2.2.2.2 ((qrun (M 38) (M 27 14).toNat 0 (0, 0, -1, M 39, M 40)).2.1 + 1).toNat 0 ≤ 144) := fun q => by have q2 : a + icS (qend (rdQ M).2).2.2.2.2 ((rdQ M).2.1 + 1).toNat 0 ≤ 144 := q.2.2; omega
        have zno1 : ¬ (¬ (0 ≤ a ∧ a < 144)) := fun q => q h1
        have zno2 : ¬ ((0 ≤ a ∧ a < 144) ∧ ¬ ((qrun (M 38) (M 27 14).toNat 0 (0, 0, -1, M 39, M 40)).1 = M 27 14 ∧ (qrun (M 38) (M 27 14).toNat 0 (0, 0, -1, M 39, M 40)).2.2.2.1 ≠ -1)) := fun q => q.2 h2q
        refine ⟨true, 3, fun M1 => M1 = psM M (rdT M).2, by omega, fun QW h => w_L_load_x3 a (fun Q2 hk => c_X7_load_x3 a hR.2.2.2.1.1 hR.2.2.2.1.2.1 h1 h2 (by show 144 < a + clS (rdT M).2.2.2.2 (rdT M).2.2.1.toNat 0; omega) (by show clS (rdT M).2.2.2.2 (rdT M).2.2.1.toNat 0 ≤ 5000; omega) (hk _ (h _ rfl))), fun M1 hM Q2 h => ?_⟩
        rw [hM]
        exact c_X8_load a hR.tx.1 hR.tx.2 ia (fun zc => (by exfalso; exact zno0 zc)) (fun X zc => (by exfalso; exact zno1 zc)) (fun X zc => (by exfalso; exact zno2 zc)) (fun X zc => h 0 _ inr0 rfl (fun q => by omega) (hR.of rfl rfl rfl rfl rfl rfl rfl rfl rfl rfl rfl rfl rfl rfl rfl rfl rfl rfl rfl rfl rfl rfl rfl rfl rfl rfl rfl rfl rfl rfl rfl rfl))
    · have h2q : ¬ ((rdQ M).1 = M 27 14 ∧ (rdQ M).2.2.2.1 ≠ -1) := fun q => h2 (hok.mp q)
      have zno0 : ¬ ((0 ≤ a ∧ a < 144) ∧ ((qrun (M 38) (M 27 14).toNat 0 (0, 0, -1, M 39, M 40)).1 = M 27 14 ∧ (qrun (M 38) (M 27 14).toNat 0 (0, 0, -1, M 39, M 40)).2.2.2.1 ≠ -1) ∧ a + icS (qend (qrun (M 38) (M 27 14).toNat 0 (0, 0, -1, M 39, M 40)).2).2.2.2.2 ((qrun (M 38) (M 27 14).toNat 0 (0, 0, -1, M 39, M 40)).2.1 + 1).toNat 0 ≤ 144) := fun q => h2q q.2.1
      have zno1 : ¬ (¬ (0 ≤ a ∧ a < 144)) := fun q => q h1
      have zno3 : ¬ ((0 ≤ a ∧ a < 144) ∧ ((qrun (M 38) (M 27 14).toNat 0 (0, 0, -1, M 39, M 40)).1 = M 27 14 ∧ (qrun (M 38) (M 27 14).toNat 0 (0, 0, -1, M 39, M 40)).2.2.2.1 ≠ -1) ∧ 144 < a + icS (qend (qrun (M 38) (M 27 14).toNat 0 (0, 0, -1, M 39, M 40)).2).2.2.2.2 ((qrun (M 38) (M 27 14).toNat 0 (0, 0, -1, M 39, M 40)).2.1 + 1).toNat 0) := fun q => h2q q.2.1
      refine ⟨true, 2, fun M1 => M1 = psM M (rdT M).2, by omega, fun QW h => w_L_load_x2 a (fun Q2 hk => c_X7_load_x2 a hR.2.2.2.1.1 hR.2.2.2.1.2.1 h1 h2 (hk _ (h _ rfl))), fun M1 hM Q2 h => ?_⟩
      rw [hM]
      exact c_X8_load a hR.tx.1 hR.tx.2 ia (fun zc => (by exfalso; exact zno0 zc)) (fun X zc => (by exfalso; exact zno1 zc)) (fun X zc => h 0 _ inr0 rfl (fun q => by omega) (hR.of rfl rfl rfl rfl rfl rfl rfl rfl rfl rfl rfl rfl rfl rfl rfl rfl rfl rfl rfl rfl rfl rfl rfl rfl rfl rfl rfl rfl rfl rfl rfl rfl)) (fun X zc => (by exfalso; exact zno3 zc))
  · skip
    have zno0 : ¬ ((0 ≤ a ∧ a < 144) ∧ ((qrun (M 38) (M 27 14).toNat 0 (0, 0, -1, M 39, M 40)).1 = M 27 14 ∧ (qrun (M 38) (M 27 14).toNat 0 (0, 0, -1, M 39, M 40)).2.2.2.1 ≠ -1) ∧ a + icS (qend (qrun (M 38) (M 27 14).toNat 0 (0, 0, -1, M 39, M 40)).2).2.2.2.2 ((qrun (M 38) (M 27 14).toNat 0 (0, 0, -1, M 39, M 40)).2.1 + 1).toNat 0 ≤ 144) := fun q => h1 q.1
    have zno2 : ¬ ((0 ≤ a ∧ a < 144) ∧ ¬ ((qrun (M 38) (M 27 14).toNat 0 (0, 0, -1, M 39, M 40)).1 = M 27 14 ∧ (qrun (M 38) (M 27 14).toNat 0 (0, 0, -1, M 39, M 40)).2.2.2.1 ≠ -1)) := fun q => h1 q.1
    have zno3 : ¬ ((0 ≤ a ∧ a < 144) ∧ ((qrun (M 38) (M 27 14).toNat 0 (0, 0, -1, M 39, M 40)).1 = M 27 14 ∧ (qrun (M 38) (M 27 14).toNat 0 (0, 0, -1, M 39, M 40)).2.2.2.1 ≠ -1) ∧ 144 < a + icS (qend (qrun (M 38) (M 27 14).toNat 0 (0, 0, -1, M 39, M 40)).2).2.2.2.2 ((qrun (M 38) (M 27 14).toNat 0 (0, 0, -1, M 39, M 40)).2.1 + 1).toNat 0) := fun q => h1 q.1
    refine ⟨true, 1, fun M1 => M1 = M, by omega, fun QW h => w_L_load_x1 a (fun Q2 hk => c_X7_load_x1 a hR.2.2.2.1.1 hR.2.2.2.1.2.1 ia h1 (hk _ (h _ rfl))), fun M1 hM Q2 h => ?_⟩
    rw [hM]
    exact c_X8_load a hR.tx.1 hR.tx.2 ia (fun zc => (by exfalso; exact zno0 zc)) (fun X zc => h 0 _ inr0 rfl (fun q => by omega) (hR.of rfl rfl rfl rfl rfl rfl rfl rfl rfl rfl rfl rfl rfl rfl rfl rfl rfl rfl rfl rfl rfl rfl rfl rfl rfl rfl rfl rfl rfl rfl rfl rfl)) (fun X zc => (by exfalso; exact zno2 zc)) (fun X zc => (by exfalso; exact zno3 zc))
