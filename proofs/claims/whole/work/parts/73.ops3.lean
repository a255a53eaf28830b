theorem op_count {ev : Ev} {M : Mem} {a : Int} (hR : RR M) (ia : Inr a) : CALL ev t_L_count hh_L_count t_X8_count 6 [vI a] M := by
  have hb := nmC_bd hR.1.1 hR.2.1.1 hR.2.2.1.1 hR.gi a
  have he := hR.nm a
  by_cases h1 : 0 ≤ a ∧ a ≤ 8
  · skip
    refine ⟨false, 0, fun M1 => M1 = upM (M) 46 0 (nmC M a), by omega, fun QW h => w_L_count a (fun Q2 hk => c_X7_count a hR.1.1 hR.2.1.1 hR.2.2.1.1 hR.gi ia h1 (fun r zr => hk r _ zr.2 (by rw [zr.1]; exact h _ rfl))), fun M1 hM Q2 h => ?_⟩
    rw [hM]
    refine c_X8_count a hR.tj hR.sj hR.kj hR.gj ia (fun x (zc : 0 ≤ a ∧ a ≤ 8) => h _ _ (by show Inr (nmR M a); rw [← he]; exact hb) rfl (fun _ => ?_) ?_) (fun (zc : ¬ (0 ≤ a ∧ a ≤ 8)) => (by exfalso; omega))
    · exact he
    · exact hR.of rfl rfl rfl rfl rfl rfl rfl rfl rfl rfl rfl rfl rfl rfl rfl rfl rfl rfl rfl rfl rfl rfl rfl rfl rfl rfl rfl rfl rfl rfl rfl rfl
  · skip
    refine ⟨true, 1, fun M1 => M1 = M, by omega, fun QW h => w_L_count_x1 a (fun Q2 hk => c_X7_count_x1 a ia h1 (hk _ (h _ rfl))), fun M1 hM Q2 h => ?_⟩
    rw [hM]
    exact c_X8_count a hR.tj hR.sj hR.kj hR.gj ia (fun x (zc : 0 ≤ a ∧ a ≤ 8) => (by exfalso; omega)) (fun (zc : ¬ (0 ≤ a ∧ a ≤ 8)) => h 0 _ inr0 rfl (fun q => by omega) (RR.thr hR _))
theorem op_station {ev : Ev} {M : Mem} {a b : Int} (hR : RR M) (ia : Inr a) (ib : Inr b) : CALL ev t_L_station hh_L_station t_X8_station 6 [vI a, vI b] M := by
  have hs := hR.ns
  have hn : M 27 2 = M 7 3 := hR.ens
  by_cases h1 : 0 ≤ a ∧ a < M 7 3
  · by_cases h2 : 0 ≤ b ∧ b ≤ 5
    · have hb := spC_bd hR.1.1 hR.2.1.1 h1 b
      have he := hR.sp h1 b
      refine ⟨false, 0, fun M1 => M1 = upM (M) 46 0 (spC M a b), by omega, fun QW h => w_L_station a b (fun Q2 hk => c_X7_station a b hR.1.1 hR.2.1.1 hR.2.2.1.1 hR.gi ia ib h1 h2 (fun r zr => hk r _ zr.2 (by rw [zr.1]; exact h _ rfl))), fun M1 hM Q2 h => ?_⟩
      rw [hM]
      refine c_X8_station a b hR.tj hR.sj hR.kj hR.gj ia ib (fun x (zc : (0 ≤ a ∧ a < M 27 2) ∧ 0 ≤ b ∧ b ≤ 5) => h _ _ (by show Inr (spR M a b); rw [← he]; exact hb) rfl (fun _ => ?_) ?_) (fun (zc : ¬ (0 ≤ a ∧ a < M 27 2)) => (by exfalso; omega)) (fun (zc : (0 ≤ a ∧ a < M 27 2) ∧ ¬ (0 ≤ b ∧ b ≤ 5)) => (by exfalso; omega))
      · exact he
      · exact hR.of rfl rfl rfl rfl rfl rfl rfl rfl rfl rfl rfl rfl rfl rfl rfl rfl rfl rfl rfl rfl rfl rfl rfl rfl rfl rfl rfl rfl rfl rfl rfl rfl
    · skip
      refine ⟨true, 2, fun M1 => M1 = M, by omega, fun QW h => w_L_station_x2 a b (fun Q2 hk => c_X7_station_x2 a b hR.1.1 hR.2.1.1 hR.2.2.1.1 hR.gi ia ib h1 h2 (hk _ (h _ rfl))), fun M1 hM Q2 h => ?_⟩
      rw [hM]
      exact c_X8_station a b hR.tj hR.sj hR.kj hR.gj ia ib (fun x (zc : (0 ≤ a ∧ a < M 27 2) ∧ 0 ≤ b ∧ b ≤ 5) => (by exfalso; omega)) (fun (zc : ¬ (0 ≤ a ∧ a < M 27 2)) => (by exfalso; omega)) (fun (zc : (0 ≤ a ∧ a < M 27 2) ∧ ¬ (0 ≤ b ∧ b ≤ 5)) => h 0 _ inr0 rfl (fun q => by omega) (RR.thr hR _))
  · skip
    refine ⟨true, 1, fun M1 => M1 = M, by omega, fun QW h => w_L_station_x1 a b (fun Q2 hk => c_X7_station_x1 a b hR.1.1 hR.2.1.1 hR.2.2.1.1 hR.gi ia ib h1 (hk _ (h _ rfl))), fun M1 hM Q2 h => ?_⟩
    rw [hM]
    exact c_X8_station a b hR.tj hR.sj hR.kj hR.gj ia ib (fun x (zc : (0 ≤ a ∧ a < M 27 2) ∧ 0 ≤ b ∧ b ≤ 5) => (by exfalso; omega)) (fun (zc : ¬ (0 ≤ a ∧ a < M 27 2)) => h 0 _ inr0 rfl (fun q => by omega) (RR.thr hR _)) (fun (zc : (0 ≤ a ∧ a < M 27 2) ∧ ¬ (0 ≤ b ∧ b ≤ 5)) => (by exfalso; omega))
theorem op_blocker {ev : Ev} {M : Mem} {a b : Int} (hR : RR M) (ia : Inr a) (ib : Inr b) : CALL ev t_L_blocker hh_L_blocker t_X8_blocker 4 [vI a, vI b] M := by
  have hs := hR.ns
  have hn : M 27 2 = M 7 3 := hR.ens
  by_cases h1 : 0 ≤ a ∧ a < M 7 3
  · by_cases h2 : 0 ≤ b ∧ b < M 7 3
    · by_cases h3 : a = b
      · skip
        refine ⟨true, 2, fun M1 => M1 = M, by omega, fun QW h => w_L_blocker_x2 a b (fun Q2 hk => c_X7_blocker_x3 a b hR.2.1.1 ia ib h1 h2 h3 (hk _ (h _ rfl))), fun M1 hM Q2 h => ?_⟩
        rw [hM]
        exact c_X8_blocker a b hR.tj hR.sj ia ib (fun (zc : ((0 ≤ a ∧ a < M 27 2) ∧ 0 ≤ b ∧ b < M 27 2) ∧ a ≠ b) => (by exfalso; omega)) (fun (zc : ¬ ((0 ≤ a ∧ a < M 27 2) ∧ 0 ≤ b ∧ b < M 27 2)) => (by exfalso; omega)) (fun (zc : ((0 ≤ a ∧ a < M 27 2) ∧ 0 ≤ b ∧ b < M 27 2) ∧ a = b) => h 0 _ inr0 rfl (fun q => by omega) (RR.thr hR _))
      · have he : betF (M 2) (M 8) (M 9) a b = betF (M 28) (M 29) (M 30) a b := by rw [hR.e2, hR.e8, hR.e9]
        have hq := blkF_bd (M 2) (M 8 a) (eyeF (M 2) (M 8) (M 9) a) (M 8 b) (eyeF (M 2) (M 8) (M 9) b)
        have hi : Inr (betF (M 2) (M 8) (M 9) a b) := ⟨by unfold betF; omega, by unfold betF; omega⟩
        refine ⟨false, 0, fun M1 => M1 = upM (M) 46 0 (betF (M 2) (M 8) (M 9) a b), by omega, fun QW h => w_L_blocker a b (fun Q2 hk => c_X7_blocker a b hR.2.1.1 ia ib h1 h2 h3 hR.1.1 (fun r zr => hk r _ ⟨by omega, by omega⟩ (by rw [zr.1]; exact h _ rfl))), fun M1 hM Q2 h => ?_⟩
        rw [hM]
        refine c_X8_blocker a b hR.tj hR.sj ia ib (fun (zc : ((0 ≤ a ∧ a < M 27 2) ∧ 0 ≤ b ∧ b < M 27 2) ∧ a ≠ b) => h _ _ (by show Inr (betF (M 28) (M 29) (M 30) a b); rw [← he]; exact hi) rfl (fun _ => ?_) ?_) (fun (zc : ¬ ((0 ≤ a ∧ a < M 27 2) ∧ 0 ≤ b ∧ b < M 27 2)) => (by exfalso; omega)) (fun (zc : ((0 ≤ a ∧ a < M 27 2) ∧ 0 ≤ b ∧ b < M 27 2) ∧ a = b) => (by exfalso; omega))
        · exact he
        · exact hR.of rfl rfl rfl rfl rfl rfl rfl rfl rfl rfl rfl rfl rfl rfl rfl rfl rfl rfl rfl rfl rfl rfl rfl rfl rfl rfl rfl rfl rfl rfl rfl rfl
    · skip
      refine ⟨true, 1, fun M1 => M1 = M, by omega, fun QW h => w_L_blocker_x1 a b (fun Q2 hk => c_X7_blocker_x2 a b hR.2.1.1 ia ib h1 h2 (hk _ (h _ rfl))), fun M1 hM Q2 h => ?_⟩
      rw [hM]
      exact c_X8_blocker a b hR.tj hR.sj ia ib (fun (zc : ((0 ≤ a ∧ a < M 27 2) ∧ 0 ≤ b ∧ b < M 27 2) ∧ a ≠ b) => (by exfalso; omega)) (fun (zc : ¬ ((0 ≤ a ∧ a < M 27 2) ∧ 0 ≤ b ∧ b < M 27 2)) => h 0 _ inr0 rfl (fun q => by omega) (RR.thr hR _)) (fun (zc : ((0 ≤ a ∧ a < M 27 2) ∧ 0 ≤ b ∧ b < M 27 2) ∧ a = b) => (by exfalso; omega))
  · skip
    refine ⟨true, 1, fun M1 => M1 = M, by omega, fun QW h => w_L_blocker_x1 a b (fun Q2 hk => c_X7_blocker_x1 a b hR.2.1.1 ia ib h1 (hk _ (h _ rfl))), fun M1 hM Q2 h => ?_⟩
    rw [hM]
    exact c_X8_blocker a b hR.tj hR.sj ia ib (fun (zc : ((0 ≤ a ∧ a < M 27 2) ∧ 0 ≤ b ∧ b < M 27 2) ∧ a ≠ b) => (by exfalso; omega)) (fun (zc : ¬ ((0 ≤ a ∧ a < M 27 2) ∧ 0 ≤ b ∧ b < M 27 2)) => h 0 _ inr0 rfl (fun q => by omega) (RR.thr hR _)) (fun (zc : ((0 ≤ a ∧ a < M 27 2) ∧ 0 ≤ b ∧ b < M 27 2) ∧ a = b) => (by exfalso; omega))
theorem lnk_bd (h ce ma mi : Int → Int) (cv : Int → Int → Prop) (a b hr : Int) : 0 ≤ lnkF h ce ma mi cv a b hr ∧ lnkF h ce ma mi cv a b hr ≤ 5 := by
  have := snF_bd h (ce a) (eyeF h ce ma a) hr (cv (ce a) hr)
  unfold lnkF
  split
  · omega
  · split
    · omega
    · split <;> omega
theorem lm_bd (f : Int → Int) : ∀ (n : Nat) (k : Int), 0 ≤ k → -1 ≤ lmT f n k ∧ lmT f n k ≤ k + n
  | 0, k, h => by unfold lmT; omega
  | n + 1, k, h => by
    have := lm_bd f n (k + 1) (by omega)
    unfold lmT
    split <;> omega
theorem bc_bd (tk : Int → Prop) (h z : Int → Int) : ∀ (n : Nat) (c b v : Int), 0 ≤ c → -1 ≤ b ∧ b < c + n → -1 ≤ bcT tk h z n c b v ∧ bcT tk h z n c b v < c + n + 1
  | 0, c, b, v, _, hb => by unfold bcT; omega
  | n + 1, c, b, v, hc, hb => by
    have h1 := bc_bd tk h z n (c + 1) b v (by omega) (by omega)
    have h2 := bc_bd tk h z n (c + 1) c (z c) (by omega) (by omega)
    unfold bcT
    split
    · omega
    · split <;> omega
theorem op_link {ev : Ev} {M : Mem} {a b c : Int} (hR : RR M) (ia : Inr a) (ib : Inr b) (ic : Inr c) : CALL ev t_L_link hh_L_link t_X8_link 5 [vI a, vI b, vI c] M := by
  have hs := hR.ns
  have hn : M 27 2 = M 7 3 := hR.ens
  by_cases h1 : 0 ≤ a ∧ a < M 7 3
  · by_cases h2 : 0 ≤ b ∧ b < M 7 3
    · by_cases h3 : a = b
      · skip
        refine ⟨true, 2, fun M1 => M1 = M, by omega, fun QW h => w_L_link_x2 a b c (fun Q2 hk => c_X7_link_x3 a b c hR.2.1.1 ia ib ic h1 h2 h3 (hk _ (h _ rfl))), fun M1 hM Q2 h => ?_⟩
        rw [hM]
        exact c_X8_link a b c hR.tj hR.sj ia ib hR.kj ic (fun (zc : (((0 ≤ a ∧ a < M 27 2) ∧ 0 ≤ b ∧ b < M 27 2) ∧ a ≠ b) ∧ 6 ≤ c ∧ c ≤ 17) => (by exfalso; omega)) (fun (zc : ¬ ((0 ≤ a ∧ a < M 27 2) ∧ 0 ≤ b ∧ b < M 27 2)) => (by exfalso; omega)) (fun (zc : ((0 ≤ a ∧ a < M 27 2) ∧ 0 ≤ b ∧ b < M 27 2) ∧ (a = b ∨ ¬ (6 ≤ c ∧ c ≤ 17))) => h 0 _ inr0 rfl (fun q => by omega) (RR.thr hR _))
      · by_cases h4 : 6 ≤ c ∧ c ≤ 17
        · have he : lnkF (M 2) (M 8) (M 9) (M 10) (cvC M) a b c = lnkF (M 28) (M 29) (M 30) (M 31) (cvR M) a b c := by rw [hR.e2, hR.e8, hR.e9, hR.e10, hR.cvE]
          have hq := lnk_bd (M 2) (M 8) (M 9) (M 10) (cvC M) a b c
          have hi : Inr (lnkF (M 2) (M 8) (M 9) (M 10) (cvC M) a b c) := ⟨by omega, by omega⟩
          refine ⟨false, 0, fun M1 => M1 = upM (M) 46 0 (lnkF (M 2) (M 8) (M 9) (M 10) (cvC M) a b c), by omega, fun QW h => w_L_link a b c (fun Q2 hk => c_X7_link a b c hR.2.1.1 ia ib ic h1 h2 h3 h4 hR.1.1 hR.2.2.1.1 (fun r zr => hk r _ ⟨by omega, by omega⟩ (by rw [zr.1]; exact h _ rfl))), fun M1 hM Q2 h => ?_⟩
          rw [hM]
          refine c_X8_link a b c hR.tj hR.sj ia ib hR.kj ic (fun (zc : (((0 ≤ a ∧ a < M 27 2) ∧ 0 ≤ b ∧ b < M 27 2) ∧ a ≠ b) ∧ 6 ≤ c ∧ c ≤ 17) => h _ _ (by show Inr (lnkF (M 28) (M 29) (M 30) (M 31) (cvR M) a b c); rw [← he]; exact hi) rfl (fun _ => ?_) ?_) (fun (zc : ¬ ((0 ≤ a ∧ a < M 27 2) ∧ 0 ≤ b ∧ b < M 27 2)) => (by exfalso; omega)) (fun (zc : ((0 ≤ a ∧ a < M 27 2) ∧ 0 ≤ b ∧ b < M 27 2) ∧ (a = b ∨ ¬ (6 ≤ c ∧ c ≤ 17))) => (by exfalso; omega))
          · exact he
          · exact hR.of rfl rfl rfl rfl rfl rfl rfl rfl rfl rfl rfl rfl rfl rfl rfl rfl rfl rfl rfl rfl rfl rfl rfl rfl rfl rfl rfl rfl rfl rfl rfl rfl
        · skip
          refine ⟨true, 2, fun M1 => M1 = M, by omega, fun QW h => w_L_link_x2 a b c (fun Q2 hk => c_X7_link_x4 a b c hR.2.1.1 ia ib ic h1 h2 h3 h4 (hk _ (h _ rfl))), fun M1 hM Q2 h => ?_⟩
          rw [hM]
          exact c_X8_link a b c hR.tj hR.sj ia ib hR.kj ic (fun (zc : (((0 ≤ a ∧ a < M 27 2) ∧ 0 ≤ b ∧ b < M 27 2) ∧ a ≠ b) ∧ 6 ≤ c ∧ c ≤ 17) => (by exfalso; omega)) (fun (zc : ¬ ((0 ≤ a ∧ a < M 27 2) ∧ 0 ≤ b ∧ b < M 27 2)) => (by exfalso; omega)) (fun (zc : ((0 ≤ a ∧ a < M 27 2) ∧ 0 ≤ b ∧ b < M 27 2) ∧ (a = b ∨ ¬ (6 ≤ c ∧ c ≤ 17))) => h 0 _ inr0 rfl (fun q => by omega) (RR.thr hR _))
    · skip
      refine ⟨true, 1, fun M1 => M1 = M, by omega, fun QW h => w_L_link_x1 a b c (fun Q2 hk => c_X7_link_x2 a b c hR.2.1.1 ia ib ic h1 h2 (hk _ (h _ rfl))), fun M1 hM Q2 h => ?_⟩
      rw [hM]
      exact c_X8_link a b c hR.tj hR.sj ia ib hR.kj ic (fun (zc : (((0 ≤ a ∧ a < M 27 2) ∧ 0 ≤ b ∧ b < M 27 2) ∧ a ≠ b) ∧ 6 ≤ c ∧ c ≤ 17) => (by exfalso; omega)) (fun (zc : ¬ ((0 ≤ a ∧ a < M 27 2) ∧ 0 ≤ b ∧ b < M 27 2)) => h 0 _ inr0 rfl (fun q => by omega) (RR.thr hR _)) (fun (zc : ((0 ≤ a ∧ a < M 27 2) ∧ 0 ≤ b ∧ b < M 27 2) ∧ (a = b ∨ ¬ (6 ≤ c ∧ c ≤ 17))) => (by exfalso; omega))
  · skip
    refine ⟨true, 1, fun M1 => M1 = M, by omega, fun QW h => w_L_link_x1 a b c (fun Q2 hk => c_X7_link_x1 a b c hR.2.1.1 ia ib ic h1 (hk _ (h _ rfl))), fun M1 hM Q2 h => ?_⟩
    rw [hM]
    exact c_X8_link a b c hR.tj hR.sj ia ib hR.kj ic (fun (zc : (((0 ≤ a ∧ a < M 27 2) ∧ 0 ≤ b ∧ b < M 27 2) ∧ a ≠ b) ∧ 6 ≤ c ∧ c ≤ 17) => (by exfalso; omega)) (fun (zc : ¬ ((0 ≤ a ∧ a < M 27 2) ∧ 0 ≤ b ∧ b < M 27 2)) => h 0 _ inr0 rfl (fun q => by omega) (RR.thr hR _)) (fun (zc : ((0 ≤ a ∧ a < M 27 2) ∧ 0 ≤ b ∧ b < M 27 2) ∧ (a = b ∨ ¬ (6 ≤ c ∧ c ≤ 17))) => (by exfalso; omega))
theorem op_mastFor {ev : Ev} {M : Mem} {a b : Int} (hR : RR M) (ia : Inr a) (ib : Inr b) : CALL ev t_L_mastFor hh_L_mastFor t_X8_mastFor 4 [vI a, vI b] M := by
  have hs := hR.ns
  have hn : M 27 2 = M 7 3 := hR.ens
  by_cases h1 : 0 ≤ a ∧ a < M 7 3
  · by_cases h2 : 0 ≤ b ∧ b < M 7 3
    · by_cases h3 : a = b
      · skip
        refine ⟨true, 2, fun M1 => M1 = M, by omega, fun QW h => w_L_mastFor_x2 a b (fun Q2 hk => c_X7_mastFor_x3 a b hR.2.1.1 ia ib h1 h2 h3 (hk _ (h _ rfl))), fun M1 hM Q2 h => ?_⟩
        rw [hM]
        exact c_X8_mastFor a b hR.tj hR.sj ia ib (fun (zc : ((0 ≤ a ∧ a < M 27 2) ∧ 0 ≤ b ∧ b < M 27 2) ∧ a ≠ b) => (by exfalso; omega)) (fun (zc : ¬ ((0 ≤ a ∧ a < M 27 2) ∧ 0 ≤ b ∧ b < M 27 2)) => (by exfalso; omega)) (fun (zc : ((0 ≤ a ∧ a < M 27 2) ∧ 0 ≤ b ∧ b < M 27 2) ∧ a = b) => h 0 _ inr0 rfl (fun q => by omega) (RR.thr hR _))
      · have he : lmT (fun k => blkF (M 2) (M 8 a) (M 2 (M 8 a) + k) (M 8 b) (eyeF (M 2) (M 8) (M 9) b)) 51 0 = lmT (fun k => blkF (M 28) (M 29 a) (M 28 (M 29 a) + k) (M 29 b) (eyeF (M 28) (M 29) (M 30) b)) 51 0 := by rw [hR.e2, hR.e8, hR.e9]
        have hq := lm_bd (fun k => blkF (M 2) (M 8 a) (M 2 (M 8 a) + k) (M 8 b) (eyeF (M 2) (M 8) (M 9) b)) 51 0 (by omega)
        have hi : Inr (lmT (fun k => blkF (M 2) (M 8 a) (M 2 (M 8 a) + k) (M 8 b) (eyeF (M 2) (M 8) (M 9) b)) 51 0) := ⟨by omega, by omega⟩
        refine ⟨false, 0, fun M1 => M1 = upM (M) 46 0 (lmT (fun k => blkF (M 2) (M 8 a) (M 2 (M 8 a) + k) (M 8 b) (eyeF (M 2) (M 8) (M 9) b)) 51 0), by omega, fun QW h => w_L_mastFor a b (fun Q2 hk => c_X7_mastFor a b hR.2.1.1 ia ib h1 h2 h3 hR.1.1 (fun r zr => hk r _ (by rw [zr]; exact hi) (by rw [zr]; exact h _ rfl))), fun M1 hM Q2 h => ?_⟩
        rw [hM]
        refine c_X8_mastFor a b hR.tj hR.sj ia ib (fun (zc : ((0 ≤ a ∧ a < M 27 2) ∧ 0 ≤ b ∧ b < M 27 2) ∧ a ≠ b) => h _ _ (by show Inr (lmT (fun k => blkF (M 28) (M 29 a) (M 28 (M 29 a) + k) (M 29 b) (eyeF (M 28) (M 29) (M 30) b)) 51 0); rw [← he]; exact hi) rfl (fun _ => ?_) ?_) (fun (zc : ¬ ((0 ≤ a ∧ a < M 27 2) ∧ 0 ≤ b ∧ b < M 27 2)) => (by exfalso; omega)) (fun (zc : ((0 ≤ a ∧ a < M 27 2) ∧ 0 ≤ b ∧ b < M 27 2) ∧ a = b) => (by exfalso; omega))
        · exact he
        · exact hR.of rfl rfl rfl rfl rfl rfl rfl rfl rfl rfl rfl rfl rfl rfl rfl rfl rfl rfl rfl rfl rfl rfl rfl rfl rfl rfl rfl rfl rfl rfl rfl rfl
    · skip
      refine ⟨true, 1, fun M1 => M1 = M, by omega, fun QW h => w_L_mastFor_x1 a b (fun Q2 hk => c_X7_mastFor_x2 a b hR.2.1.1 ia ib h1 h2 (hk _ (h _ rfl))), fun M1 hM Q2 h => ?_⟩
      rw [hM]
      exact c_X8_mastFor a b hR.tj hR.sj ia ib (fun (zc : ((0 ≤ a ∧ a < M 27 2) ∧ 0 ≤ b ∧ b < M 27 2) ∧ a ≠ b) => (by exfalso; omega)) (fun (zc : ¬ ((0 ≤ a ∧ a < M 27 2) ∧ 0 ≤ b ∧ b < M 27 2)) => h 0 _ inr0 rfl (fun q => by omega) (RR.thr hR _)) (fun (zc : ((0 ≤ a ∧ a < M 27 2) ∧ 0 ≤ b ∧ b < M 27 2) ∧ a = b) => (by exfalso; omega))
  · skip
    refine ⟨true, 1, fun M1 => M1 = M, by omega, fun QW h => w_L_mastFor_x1 a b (fun Q2 hk => c_X7_mastFor_x1 a b hR.2.1.1 ia ib h1 (hk _ (h _ rfl))), fun M1 hM Q2 h => ?_⟩
    rw [hM]
    exact c_X8_mastFor a b hR.tj hR.sj ia ib (fun (zc : ((0 ≤ a ∧ a < M 27 2) ∧ 0 ≤ b ∧ b < M 27 2) ∧ a ≠ b) => (by exfalso; omega)) (fun (zc : ¬ ((0 ≤ a ∧ a < M 27 2) ∧ 0 ≤ b ∧ b < M 27 2)) => h 0 _ inr0 rfl (fun q => by omega) (RR.thr hR _)) (fun (zc : ((0 ≤ a ∧ a < M 27 2) ∧ 0 ≤ b ∧ b < M 27 2) ∧ a = b) => (by exfalso; omega))
theorem op_bestCell {ev : Ev} {M : Mem} {a : Int} (hR : RR M) (ia : Inr a) : CALL ev t_L_bestCell hh_L_bestCell t_X8_bestCell 4 [vI a] M := by
  have hs := hR.ns
  have hn : M 27 2 = M 7 3 := hR.ens
  by_cases h1 : 0 ≤ a ∧ a ≤ 50
  · have he : bcT (fun c => ∃ i, 0 ≤ i ∧ i < M 7 3 ∧ M 8 i = c) (M 2) (fun c => ssT (fun b => blkF (M 2) c (M 2 c + a) (M 8 b) (eyeF (M 2) (M 8) (M 9) b)) (M 7 3).toNat 0 0) 144 0 (-1) 0 = bcT (fun c => ∃ i, 0 ≤ i ∧ i < M 27 2 ∧ M 29 i = c) (M 28) (fun c => ssT (fun b => blkF (M 28) c (M 28 c + a) (M 29 b) (eyeF (M 28) (M 29) (M 30) b)) (M 27 2).toNat 0 0) 144 0 (-1) 0 := by rw [hR.e2, hR.e8, hR.e9, hn]
    have hq := bc_bd (fun c => ∃ i, 0 ≤ i ∧ i < M 7 3 ∧ M 8 i = c) (M 2) (fun c => ssT (fun b => blkF (M 2) c (M 2 c + a) (M 8 b) (eyeF (M 2) (M 8) (M 9) b)) (M 7 3).toNat 0 0) 144 0 (-1) 0 (by omega) (by omega)
    have hi : Inr (bcT (fun c => ∃ i, 0 ≤ i ∧ i < M 7 3 ∧ M 8 i = c) (M 2) (fun c => ssT (fun b => blkF (M 2) c (M 2 c + a) (M 8 b) (eyeF (M 2) (M 8) (M 9) b)) (M 7 3).toNat 0 0) 144 0 (-1) 0) := ⟨by omega, by omega⟩
    refine ⟨false, 0, fun M1 => M1 = upM (M) 46 0 (bcT (fun c => ∃ i, 0 ≤ i ∧ i < M 7 3 ∧ M 8 i = c) (M 2) (fun c => ssT (fun b => blkF (M 2) c (M 2 c + a) (M 8 b) (eyeF (M 2) (M 8) (M 9) b)) (M 7 3).toNat 0 0) 144 0 (-1) 0), by omega, fun QW h => w_L_bestCell a (fun Q2 hk => c_X7_bestCell a hR.2.1.1 hR.1.1 h1 (fun r zr => hk r _ (by rw [zr]; exact hi) (by rw [zr]; exact h _ rfl))), fun M1 hM Q2 h => ?_⟩
    rw [hM]
    refine c_X8_bestCell a hR.tj hR.sj ia (fun (zc : 0 ≤ a ∧ a ≤ 50) => h _ _ (by show Inr (bcT (fun c => ∃ i, 0 ≤ i ∧ i < M 27 2 ∧ M 29 i = c) (M 28) (fun c => ssT (fun b => blkF (M 28) c (M 28 c + a) (M 29 b) (eyeF (M 28) (M 29) (M 30) b)) (M 27 2).toNat 0 0) 144 0 (-1) 0); rw [← he]; exact hi) rfl (fun _ => ?_) ?_) (fun (zc : ¬ (0 ≤ a ∧ a ≤ 50)) => (by exfalso; omega))
    · exact he
    · exact hR.of rfl rfl rfl rfl rfl rfl rfl rfl rfl rfl rfl rfl rfl rfl rfl rfl rfl rfl rfl rfl rfl rfl rfl rfl rfl rfl rfl rfl rfl rfl rfl rfl
  · skip
    refine ⟨true, 1, fun M1 => M1 = M, by omega, fun QW h => w_L_bestCell_x1 a (fun Q2 hk => c_X7_bestCell_x1 a ia h1 (hk _ (h _ rfl))), fun M1 hM Q2 h => ?_⟩
    rw [hM]
    exact c_X8_bestCell a hR.tj hR.sj ia (fun (zc : 0 ≤ a ∧ a ≤ 50) => (by exfalso; omega)) (fun (zc : ¬ (0 ≤ a ∧ a ≤ 50)) => h 0 _ inr0 rfl (fun q => by omega) (RR.thr hR _))
theorem op_message {ev : Ev} {M : Mem} {a b : Int} (hR : RR M) (ia : Inr a) (ib : Inr b) : CALL ev t_L_message hh_L_message t_X8_message 2 [vI a, vI b] M := by
  have hg := hR.2.2.2.2.2.1.1
  have hm : M 27 11 = M 19 2 := hR.2.2.2.2.1
  by_cases h1 : 0 ≤ a ∧ a < M 19 2
  · by_cases h2 : 0 ≤ b ∧ b ≤ 5
    · have he := (hR.2.2.2.2.2.2 a h1.1 h1.2).1 b h2.1 (by omega)
      have hi : Inr (M 20 (27 * a + b)) := msg_bd hR.gi h1 (by omega) rfl
      refine ⟨false, 0, fun M1 => M1 = upM (M) 46 0 (M 20 (27 * a + b)), by omega, fun QW h => w_L_message a b (fun Q2 hk => c_X7_message a b hg ia ib h1 h2 (fun r zr => hk r _ (by rw [zr]; exact hi) (by rw [zr]; exact h _ rfl))), fun M1 hM Q2 h => ?_⟩
      rw [hM]
      refine c_X8_message a b hR.gj ia ib (fun (zc : (0 ≤ a ∧ a < M 27 11) ∧ 0 ≤ b ∧ b ≤ 5) => h _ _ (by show Inr (M 36 (6 * a + b)); rw [← he]; exact hi) rfl (fun _ => ?_) ?_) (fun (zc : ¬ (0 ≤ a ∧ a < M 27 11)) => (by exfalso; omega)) (fun (zc : (0 ≤ a ∧ a < M 27 11) ∧ ¬ (0 ≤ b ∧ b ≤ 5)) => (by exfalso; omega))
      · exact he
      · exact hR.of rfl rfl rfl rfl rfl rfl rfl rfl rfl rfl rfl rfl rfl rfl rfl rfl rfl rfl rfl rfl rfl rfl rfl rfl rfl rfl rfl rfl rfl rfl rfl rfl
    · skip
      refine ⟨true, 2, fun M1 => M1 = M, by omega, fun QW h => w_L_message_x2 a b (fun Q2 hk => c_X7_message_x2 a b hg ia ib h1 h2 (hk _ (h _ rfl))), fun M1 hM Q2 h => ?_⟩
      rw [hM]
      exact c_X8_message a b hR.gj ia ib (fun (zc : (0 ≤ a ∧ a < M 27 11) ∧ 0 ≤ b ∧ b ≤ 5) => (by exfalso; omega)) (fun (zc : ¬ (0 ≤ a ∧ a < M 27 11)) => (by exfalso; omega)) (fun (zc : (0 ≤ a ∧ a < M 27 11) ∧ ¬ (0 ≤ b ∧ b ≤ 5)) => h 0 _ inr0 rfl (fun q => by omega) (RR.thr hR _))
  · skip
    refine ⟨true, 1, fun M1 => M1 = M, by omega, fun QW h => w_L_message_x1 a b (fun Q2 hk => c_X7_message_x1 a b hg ia ib h1 (hk _ (h _ rfl))), fun M1 hM Q2 h => ?_⟩
    rw [hM]
    exact c_X8_message a b hR.gj ia ib (fun (zc : (0 ≤ a ∧ a < M 27 11) ∧ 0 ≤ b ∧ b ≤ 5) => (by exfalso; omega)) (fun (zc : ¬ (0 ≤ a ∧ a < M 27 11)) => h 0 _ inr0 rfl (fun q => by omega) (RR.thr hR _)) (fun (zc : (0 ≤ a ∧ a < M 27 11) ∧ ¬ (0 ≤ b ∧ b ≤ 5)) => (by exfalso; omega))
theorem op_hop {ev : Ev} {M : Mem} {a b c : Int} (hR : RR M) (ia : Inr a) (ib : Inr b) (ic : Inr c) : CALL ev t_L_hop hh_L_hop t_X8_hop 2 [vI a, vI b, vI c] M := by
  have hg := hR.2.2.2.2.2.1.1
  have hm : M 27 11 = M 19 2 := hR.2.2.2.2.1
  by_cases h1 : 0 ≤ a ∧ a < M 19 2
  · have h5 := (hR.2.2.2.2.2.2 a h1.1 h1.2).1 5 (by omega) (by omega)
    have h6 := (hR.2.2.2.2.2.1.2.1 a h1.1 h1.2).2.2.2.2.2.2
    have h7 : 0 ≤ M 20 (27 * a + 5) ∧ M 20 (27 * a + 5) ≤ 7 := by rw [h5]; exact h6
    by_cases h2 : 0 ≤ b ∧ b < M 20 (27 * a + 5)
    · by_cases h3 : 0 ≤ c ∧ c ≤ 2
      · have he := (hR.2.2.2.2.2.2 a h1.1 h1.2).2 (3 * b + c) (by omega) (by omega)
        rw [show 27 * a + 6 + (3 * b + c) = 27 * a + 6 + 3 * b + c from by omega, show 21 * a + (3 * b + c) = 21 * a + 3 * b + c from by omega] at he
        have hi : Inr (M 20 (27 * a + 6 + 3 * b + c)) := hop_bd hR.gi hR.hi h1 h2 (by omega) rfl
        refine ⟨false, 0, fun M1 => M1 = upM (M) 46 0 (M 20 (27 * a + 6 + 3 * b + c)), by omega, fun QW h => w_L_hop a b c (fun Q2 hk => c_X7_hop a b c hg ia ib ic h1 h7 h2 h3 (fun r zr => hk r _ (by rw [zr]; exact hi) (by rw [zr]; exact h _ rfl))), fun M1 hM Q2 h => ?_⟩
        rw [hM]
        refine c_X8_hop a b c hR.gj ia ib ic (fun (zc : (0 ≤ a ∧ a < M 27 11) ∧ (0 ≤ b ∧ b < M 36 (6 * a + 5)) ∧ 0 ≤ c ∧ c ≤ 2) => h _ _ (by show Inr (M 37 (21 * a + 3 * b + c)); rw [← he]; exact hi) rfl (fun _ => ?_) ?_) (fun (zc : ¬ ((0 ≤ a ∧ a < M 27 11) ∧ 0 ≤ b ∧ b < M 36 (6 * a + 5))) => (by exfalso; omega)) (fun (zc : ((0 ≤ a ∧ a < M 27 11) ∧ 0 ≤ b ∧ b < M 36 (6 * a + 5)) ∧ ¬ (0 ≤ c ∧ c ≤ 2)) => (by exfalso; omega))
        · exact he
        · exact hR.of rfl rfl rfl rfl rfl rfl rfl rfl rfl rfl rfl rfl rfl rfl rfl rfl rfl rfl rfl rfl rfl rfl rfl rfl rfl rfl rfl rfl rfl rfl rfl rfl
      · skip
        refine ⟨true, 2, fun M1 => M1 = M, by omega, fun QW h => w_L_hop_x2 a b c (fun Q2 hk => c_X7_hop_x3 a b c hg ia ib ic h1 h7 h2 h3 (hk _ (h _ rfl))), fun M1 hM Q2 h => ?_⟩
        rw [hM]
        exact c_X8_hop a b c hR.gj ia ib ic (fun (zc : (0 ≤ a ∧ a < M 27 11) ∧ (0 ≤ b ∧ b < M 36 (6 * a + 5)) ∧ 0 ≤ c ∧ c ≤ 2) => (by exfalso; omega)) (fun (zc : ¬ ((0 ≤ a ∧ a < M 27 11) ∧ 0 ≤ b ∧ b < M 36 (6 * a + 5))) => (by exfalso; omega)) (fun (zc : ((0 ≤ a ∧ a < M 27 11) ∧ 0 ≤ b ∧ b < M 36 (6 * a + 5)) ∧ ¬ (0 ≤ c ∧ c ≤ 2)) => h 0 _ inr0 rfl (fun q => by omega) (RR.thr hR _))
    · skip
      refine ⟨true, 1, fun M1 => M1 = M, by omega, fun QW h => w_L_hop_x1 a b c (fun Q2 hk => c_X7_hop_x2 a b c hg ia ib ic h1 h7 h2 (hk _ (h _ rfl))), fun M1 hM Q2 h => ?_⟩
      rw [hM]
      exact c_X8_hop a b c hR.gj ia ib ic (fun (zc : (0 ≤ a ∧ a < M 27 11) ∧ (0 ≤ b ∧ b < M 36 (6 * a + 5)) ∧ 0 ≤ c ∧ c ≤ 2) => (by exfalso; omega)) (fun (zc : ¬ ((0 ≤ a ∧ a < M 27 11) ∧ 0 ≤ b ∧ b < M 36 (6 * a + 5))) => h 0 _ inr0 rfl (fun q => by omega) (RR.thr hR _)) (fun (zc : ((0 ≤ a ∧ a < M 27 11) ∧ 0 ≤ b ∧ b < M 36 (6 * a + 5)) ∧ ¬ (0 ≤ c ∧ c ≤ 2)) => (by exfalso; omega))
  · skip
    refine ⟨true, 1, fun M1 => M1 = M, by omega, fun QW h => w_L_hop_x1 a b c (fun Q2 hk => c_X7_hop_x1 a b c hg ia ib ic h1 (hk _ (h _ rfl))), fun M1 hM Q2 h => ?_⟩
    rw [hM]
    exact c_X8_hop a b c hR.gj ia ib ic (fun (zc : (0 ≤ a ∧ a < M 27 11) ∧ (0 ≤ b ∧ b < M 36 (6 * a + 5)) ∧ 0 ≤ c ∧ c ≤ 2) => (by exfalso; omega)) (fun (zc : ¬ ((0 ≤ a ∧ a < M 27 11) ∧ 0 ≤ b ∧ b < M 36 (6 * a + 5))) => h 0 _ inr0 rfl (fun q => by omega) (RR.thr hR _)) (fun (zc : ((0 ≤ a ∧ a < M 27 11) ∧ 0 ≤ b ∧ b < M 36 (6 * a + 5)) ∧ ¬ (0 ≤ c ∧ c ≤ 2)) => (by exfalso; omega))
theorem op_busy {ev : Ev} {M : Mem} {a b : Int} (hR : RR M) (ia : Inr a) (ib : Inr b) : CALL ev t_L_busy hh_L_busy t_X8_busy 2 [vI a, vI b] M := by
  have hs := hR.ns
  have hn : M 27 2 = M 7 3 := hR.ens
  by_cases h1 : 0 ≤ a ∧ a < M 7 3
  · by_cases h2 : 0 ≤ b ∧ b ≤ 71
    · have he := hR.lt (i := 72 * a + b) (by omega) (by omega)
      have hb := hR.bk (72 * a + b) (by omega) (by omega)
      have hi : Inr (M 21 (72 * a + b)) := ⟨by omega, by omega⟩
      refine ⟨false, 0, fun M1 => M1 = upM (M) 46 0 (M 21 (72 * a + b)), by omega, fun QW h => w_L_busy a b (fun Q2 hk => c_X7_busy a b hR.2.1.1 ia ib h1 h2 (fun r zr => hk r _ (by rw [zr]; exact hi) (by rw [zr]; exact h _ rfl))), fun M1 hM Q2 h => ?_⟩
      rw [hM]
      refine c_X8_busy a b hR.gj hR.sj.1 ia ib (fun x (zc : (0 ≤ a ∧ a < M 27 2) ∧ 0 ≤ b ∧ b ≤ 71) => h _ _ (by show Inr (lt0 M (72 * a + b)); rw [← he]; exact hi) rfl (fun _ => ?_) ?_) (fun (zc : ¬ (0 ≤ a ∧ a < M 27 2)) => (by exfalso; omega)) (fun (zc : (0 ≤ a ∧ a < M 27 2) ∧ ¬ (0 ≤ b ∧ b ≤ 71)) => (by exfalso; omega))
      · exact he
      · exact hR.of rfl rfl rfl rfl rfl rfl rfl rfl rfl rfl rfl rfl rfl rfl rfl rfl rfl rfl rfl rfl rfl rfl rfl rfl rfl rfl rfl rfl rfl rfl rfl rfl
    · skip
      refine ⟨true, 2, fun M1 => M1 = M, by omega, fun QW h => w_L_busy_x2 a b (fun Q2 hk => c_X7_busy_x2 a b hR.2.1.1 ia ib h1 h2 (hk _ (h _ rfl))), fun M1 hM Q2 h => ?_⟩
      rw [hM]
      exact c_X8_busy a b hR.gj hR.sj.1 ia ib (fun x (zc : (0 ≤ a ∧ a < M 27 2) ∧ 0 ≤ b ∧ b ≤ 71) => (by exfalso; omega)) (fun (zc : ¬ (0 ≤ a ∧ a < M 27 2)) => (by exfalso; omega)) (fun (zc : (0 ≤ a ∧ a < M 27 2) ∧ ¬ (0 ≤ b ∧ b ≤ 71)) => h 0 _ inr0 rfl (fun q => by omega) (RR.thr hR _))
  · skip
    refine ⟨true, 1, fun M1 => M1 = M, by omega, fun QW h => w_L_busy_x1 a b (fun Q2 hk => c_X7_busy_x1 a b hR.2.1.1 ia ib h1 (hk _ (h _ rfl))), fun M1 hM Q2 h => ?_⟩
    rw [hM]
    exact c_X8_busy a b hR.gj hR.sj.1 ia ib (fun x (zc : (0 ≤ a ∧ a < M 27 2) ∧ 0 ≤ b ∧ b ≤ 71) => (by exfalso; omega)) (fun (zc : ¬ (0 ≤ a ∧ a < M 27 2)) => h 0 _ inr0 rfl (fun q => by omega) (RR.thr hR _)) (fun (zc : (0 ≤ a ∧ a < M 27 2) ∧ ¬ (0 ≤ b ∧ b ≤ 71)) => (by exfalso; omega))
theorem op_arrival {ev : Ev} {M : Mem} {a b c d : Int} (hR : RR M) (ia : Inr a) (ib : Inr b) (ic : Inr c) (id : Inr d) : CALL ev t_L_arrival hh_L_arrival t_X8_arrival 7 [vI a, vI b, vI c, vI d] M := by
  have hs := hR.ns
  have hn : M 27 2 = M 7 3 := hR.ens
  by_cases h1 : 0 ≤ a ∧ a < M 7 3
  · by_cases h2 : 0 ≤ b ∧ b < M 7 3
    · by_cases h3 : 1 ≤ c ∧ c ≤ 6
      · by_cases h4 : 0 ≤ d ∧ d ≤ 71
        · refine ⟨false, 0, fun M1 => ∃ f : Int → Int, ArrOK (EFm (lkA M) c) (M 7 3) a d f ∧ M1 = upM (arM (upM (lkA M) 22 7 c) f) 46 0 (f b), by omega, fun QW h => w_L_arrival a b c d (fun Q2 hk => c_X7_arrival a b c d hR.2.1.1 ia ib ic id h1 h2 h3 h4 hR.1.1 hR.2.2.1.1 hR.bk (fun r M2 zr => ?_)), fun M1 hM Q2 h => ?_⟩
          · obtain ⟨f, zf, zr, zm⟩ := zr
            have hfb := zf.2.1 b h2.1 h2.2
            rw [zr, zm]
            exact hk _ _ ⟨by omega, by omega⟩ (h _ ⟨f, zf, rfl⟩)
          · obtain ⟨f, zf, zm⟩ := hM
            rw [zm]
            have hX : RR (upM (upM (arM (upM (lkA M) 22 7 c) f) 46 0 (f b)) 27 0 0) := hR.of rfl rfl rfl rfl rfl rfl rfl rfl rfl rfl rfl rfl rfl rfl rfl rfl rfl rfl rfl rfl rfl rfl rfl rfl rfl rfl rfl rfl rfl rfl rfl rfl
            refine c_X8_arrival a b c d hX.tj hX.sj hX.kj hX.gj ia ib ic id (fun f8 zc => ?_) (fun (zc : ¬ ((0 ≤ a ∧ a < M 27 2) ∧ 0 ≤ b ∧ b < M 27 2)) => (by exfalso; omega)) (fun (zc : ((0 ≤ a ∧ a < M 27 2) ∧ 0 ≤ b ∧ b < M 27 2) ∧ ¬ ((1 ≤ c ∧ c ≤ 6) ∧ 0 ≤ d ∧ d ≤ 71)) => (by exfalso; omega))
            have zg : ArrOK (ERm (upM (upM (arM (upM (lkA M) 22 7 c) f) 46 0 (f b)) 27 0 0) c) (M 7 3) a d f8 := by
              have := zc.2
              rw [show (upM (arM (upM (lkA M) 22 7 c) f) 46 0 (f b)) 27 2 = M 7 3 from hn] at this
              exact this
            have zf2 : ArrOK (ERm (upM (upM (arM (upM (lkA M) 22 7 c) f) 46 0 (f b)) 27 0 0) c) (M 7 3) a d f := zf.congr h4.1 (fun u v s u0 u1 v0 v1 s0 s1 => hX.ee2 (M := M) (hpC_of rfl rfl rfl rfl rfl rfl rfl rfl rfl rfl rfl) rfl rfl h3.1 ⟨u0, u1⟩ ⟨v0, v1⟩ ⟨s0, s1⟩)
            have he := ArrOK.uniq (ER_ok _ _ h3.1 _) h4.1 zf2 zg b h2.1 h2.2
            have hfb := zg.2.1 b h2.1 h2.2
            exact h _ _ ⟨by omega, by omega⟩ rfl (fun _ => he) (hX.of rfl rfl rfl rfl rfl rfl rfl rfl rfl rfl rfl rfl rfl rfl rfl rfl rfl rfl rfl rfl rfl rfl rfl rfl rfl rfl rfl rfl rfl rfl rfl rfl)
        · skip
          refine ⟨true, 2, fun M1 => M1 = M, by omega, fun QW h => w_L_arrival_x2 a b c d (fun Q2 hk => c_X7_arrival_x4 a b c d hR.2.1.1 ia ib ic id h1 h2 h3 h4 (hk _ (h _ rfl))), fun M1 hM Q2 h => ?_⟩
          rw [hM]
          exact c_X8_arrival a b c d hR.tj hR.sj hR.kj hR.gj ia ib ic id (fun f (zc : (((0 ≤ a ∧ a < M 27 2) ∧ 0 ≤ b ∧ b < M 27 2) ∧ (1 ≤ c ∧ c ≤ 6) ∧ 0 ≤ d ∧ d ≤ 71) ∧ ArrOK (ERm (upM M 27 0 0) c) (M 27 2) a d f) => (by exfalso; omega)) (fun (zc : ¬ ((0 ≤ a ∧ a < M 27 2) ∧ 0 ≤ b ∧ b < M 27 2)) => (by exfalso; omega)) (fun (zc : ((0 ≤ a ∧ a < M 27 2) ∧ 0 ≤ b ∧ b < M 27 2) ∧ ¬ ((1 ≤ c ∧ c ≤ 6) ∧ 0 ≤ d ∧ d ≤ 71)) => h 0 _ inr0 rfl (fun q => by omega) (RR.thr hR _))
      · skip
        refine ⟨true, 2, fun M1 => M1 = M, by omega, fun QW h => w_L_arrival_x2 a b c d (fun Q2 hk => c_X7_arrival_x3 a b c d hR.2.1.1 ia ib ic id h1 h2 h3 (hk _ (h _ rfl))), fun M1 hM Q2 h => ?_⟩
        rw [hM]
        exact c_X8_arrival a b c d hR.tj hR.sj hR.kj hR.gj ia ib ic id (fun f (zc : (((0 ≤ a ∧ a < M 27 2) ∧ 0 ≤ b ∧ b < M 27 2) ∧ (1 ≤ c ∧ c ≤ 6) ∧ 0 ≤ d ∧ d ≤ 71) ∧ ArrOK (ERm (upM M 27 0 0) c) (M 27 2) a d f) => (by exfalso; omega)) (fun (zc : ¬ ((0 ≤ a ∧ a < M 27 2) ∧ 0 ≤ b ∧ b < M 27 2)) => (by exfalso; omega)) (fun (zc : ((0 ≤ a ∧ a < M 27 2) ∧ 0 ≤ b ∧ b < M 27 2) ∧ ¬ ((1 ≤ c ∧ c ≤ 6) ∧ 0 ≤ d ∧ d ≤ 71)) => h 0 _ inr0 rfl (fun q => by omega) (RR.thr hR _))
    · skip
      refine ⟨true, 1, fun M1 => M1 = M, by omega, fun QW h => w_L_arrival_x1 a b c d (fun Q2 hk => c_X7_arrival_x2 a b c d hR.2.1.1 ia ib ic id h1 h2 (hk _ (h _ rfl))), fun M1 hM Q2 h => ?_⟩
      rw [hM]
      exact c_X8_arrival a b c d hR.tj hR.sj hR.kj hR.gj ia ib ic id (fun f (zc : (((0 ≤ a ∧ a < M 27 2) ∧ 0 ≤ b ∧ b < M 27 2) ∧ (1 ≤ c ∧ c ≤ 6) ∧ 0 ≤ d ∧ d ≤ 71) ∧ ArrOK (ERm (upM M 27 0 0) c) (M 27 2) a d f) => (by exfalso; omega)) (fun (zc : ¬ ((0 ≤ a ∧ a < M 27 2) ∧ 0 ≤ b ∧ b < M 27 2)) => h 0 _ inr0 rfl (fun q => by omega) (RR.thr hR _)) (fun (zc : ((0 ≤ a ∧ a < M 27 2) ∧ 0 ≤ b ∧ b < M 27 2) ∧ ¬ ((1 ≤ c ∧ c ≤ 6) ∧ 0 ≤ d ∧ d ≤ 71)) => (by exfalso; omega))
  · skip
    refine ⟨true, 1, fun M1 => M1 = M, by omega, fun QW h => w_L_arrival_x1 a b c d (fun Q2 hk => c_X7_arrival_x1 a b c d hR.2.1.1 ia ib ic id h1 (hk _ (h _ rfl))), fun M1 hM Q2 h => ?_⟩
    rw [hM]
    exact c_X8_arrival a b c d hR.tj hR.sj hR.kj hR.gj ia ib ic id (fun f (zc : (((0 ≤ a ∧ a < M 27 2) ∧ 0 ≤ b ∧ b < M 27 2) ∧ (1 ≤ c ∧ c ≤ 6) ∧ 0 ≤ d ∧ d ≤ 71) ∧ ArrOK (ERm (upM M 27 0 0) c) (M 27 2) a d f) => (by exfalso; omega)) (fun (zc : ¬ ((0 ≤ a ∧ a < M 27 2) ∧ 0 ≤ b ∧ b < M 27 2)) => h 0 _ inr0 rfl (fun q => by omega) (RR.thr hR _)) (fun (zc : ((0 ≤ a ∧ a < M 27 2) ∧ 0 ≤ b ∧ b < M 27 2) ∧ ¬ ((1 ≤ c ∧ c ≤ 6) ∧ 0 ≤ d ∧ d ≤ 71)) => (by exfalso; omega))
