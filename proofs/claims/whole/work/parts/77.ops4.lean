theorem op_send {ev : Ev} {M : Mem} {a b c d : Int} (hR : RR M) (ia : Inr a) (ib : Inr b) (ic : Inr c) (id : Inr d) : CALL ev t_L_send hh_L_send t_X8_send 8 [vI a, vI b, vI c, vI d] M := by
  have hs := hR.ns
  have hn : M 27 2 = M 7 3 := hR.ens
  have hg : 0 ≤ M 19 2 ∧ M 19 2 ≤ 20 := hR.2.2.2.2.2.1.1
  have hm : M 27 11 = M 19 2 := hR.2.2.2.2.1
  have hX : NPJ M := hR.np
  by_cases h1 : 0 ≤ a ∧ a < M 7 3
  · by_cases h2 : 0 ≤ b ∧ b < M 7 3
    · by_cases h3 : a = b
      · skip
        refine ⟨true, 2, fun M1 => M1 = M, by omega, fun QW h => w_L_send_x2 a b c d (fun Q2 hk => c_X7_send_x3 a b c d hR.2.1.1 ia ib ic id h1 h2 h3 (hk _ (h _ rfl))), fun M1 hM Q2 h => ?_⟩
        rw [hM]
        exact c_X8_send a b c d hX.1 hX.2.1 hX.2.2.1 hX.2.2.2 ia ib ic id (fun s Y (zc : (((0 ≤ a ∧ a < M 27 2) ∧ 0 ≤ b ∧ b < M 27 2) ∧ a ≠ b ∧ ((1 ≤ c ∧ c ≤ 6) ∧ 0 ≤ d ∧ d ≤ 71) ∧ M 27 11 < 20) ∧ PostS (upM M 27 0 0) a b c d s Y) => (by exfalso; omega)) (fun (zc : ¬ ((0 ≤ a ∧ a < M 27 2) ∧ 0 ≤ b ∧ b < M 27 2)) => (by exfalso; omega)) (fun (zc : ((0 ≤ a ∧ a < M 27 2) ∧ 0 ≤ b ∧ b < M 27 2) ∧ ¬ (a ≠ b ∧ (1 ≤ c ∧ c ≤ 6) ∧ 0 ≤ d ∧ d ≤ 71)) => h 0 _ inr0 rfl (fun q => by omega) (RR.thr hR _)) (fun (zc : (((0 ≤ a ∧ a < M 27 2) ∧ 0 ≤ b ∧ b < M 27 2) ∧ a ≠ b ∧ (1 ≤ c ∧ c ≤ 6) ∧ 0 ≤ d ∧ d ≤ 71) ∧ M 27 11 = 20) => (by exfalso; omega))
      · by_cases h4 : 1 ≤ c ∧ c ≤ 6
        · by_cases h5 : 0 ≤ d ∧ d ≤ 71
          · by_cases h6 : M 19 2 = 20
            · skip
              refine ⟨true, 3, fun M1 => M1 = M, by omega, fun QW h => w_L_send_x3 a b c d (fun Q2 hk => c_X7_send_x6 a b c d hR.2.1.1 ia ib ic id h1 h2 h3 h4 h5 h6 (hk _ (h _ rfl))), fun M1 hM Q2 h => ?_⟩
              rw [hM]
              exact c_X8_send a b c d hX.1 hX.2.1 hX.2.2.1 hX.2.2.2 ia ib ic id (fun s Y (zc : (((0 ≤ a ∧ a < M 27 2) ∧ 0 ≤ b ∧ b < M 27 2) ∧ a ≠ b ∧ ((1 ≤ c ∧ c ≤ 6) ∧ 0 ≤ d ∧ d ≤ 71) ∧ M 27 11 < 20) ∧ PostS (upM M 27 0 0) a b c d s Y) => (by exfalso; omega)) (fun (zc : ¬ ((0 ≤ a ∧ a < M 27 2) ∧ 0 ≤ b ∧ b < M 27 2)) => (by exfalso; omega)) (fun (zc : ((0 ≤ a ∧ a < M 27 2) ∧ 0 ≤ b ∧ b < M 27 2) ∧ ¬ (a ≠ b ∧ (1 ≤ c ∧ c ≤ 6) ∧ 0 ≤ d ∧ d ≤ 71)) => (by exfalso; omega)) (fun (zc : (((0 ≤ a ∧ a < M 27 2) ∧ 0 ≤ b ∧ b < M 27 2) ∧ a ≠ b ∧ (1 ≤ c ∧ c ≤ 6) ∧ 0 ≤ d ∧ d ≤ 71) ∧ M 27 11 = 20) => h 0 _ inr0 rfl (fun q => by omega) (RR.thr hR _))
            · refine ⟨false, 0, fun M1 => ∃ (r : Int) (M0 : Mem), PostR (lkA M) a b c d r M0 ∧ M1 = upM M0 46 0 r, by omega, fun QW h => w_L_send a b c d (fun Q2 hk => c_X7_send a b c d hR.2.1.1 ia ib ic id h1 h2 h3 h4 h5 (by omega) hR.1.1 hR.2.2.1.1 hR.bk (fun r M2 zr => hk r M2 (by have := zr.bd h5.1 h2; exact ⟨by omega, by omega⟩) (h _ ⟨r, M2, zr, rfl⟩))), fun M1 hM Q2 h => ?_⟩
              obtain ⟨r, M0, zp, zm⟩ := hM
              rw [zm]
              have hk : ∀ k : Nat, k ≠ 19 → k ≠ 20 → k ≠ 21 → k ≠ 22 → k ≠ 24 → k ≠ 25 → M0 k = lkA M k := (zp.keep (by show 0 ≤ M 19 2 ∧ M 19 2 < 20; omega) hR.bk).1
              have e2 : M0 27 2 = M 7 3 := (congrFun (hk 27 (by decide) (by decide) (by decide) (by decide) (by decide) (by decide)) 2).trans hn
              have e11 : M0 27 11 = M 19 2 := (congrFun (hk 27 (by decide) (by decide) (by decide) (by decide) (by decide) (by decide)) 11).trans hm
              have hX2 : NPJ (upM M0 46 0 r) := hX.of (congrFun (hk 27 (by decide) (by decide) (by decide) (by decide) (by decide) (by decide)) 2) (congrFun (hk 27 (by decide) (by decide) (by decide) (by decide) (by decide) (by decide)) 6) (congrFun (hk 27 (by decide) (by decide) (by decide) (by decide) (by decide) (by decide)) 11) (hk 28 (by decide) (by decide) (by decide) (by decide) (by decide) (by decide)) (hk 29 (by decide) (by decide) (by decide) (by decide) (by decide) (by decide)) (hk 30 (by decide) (by decide) (by decide) (by decide) (by decide) (by decide)) (hk 31 (by decide) (by decide) (by decide) (by decide) (by decide) (by decide)) (hk 32 (by decide) (by decide) (by decide) (by decide) (by decide) (by decide)) (hk 33 (by decide) (by decide) (by decide) (by decide) (by decide) (by decide)) (hk 34 (by decide) (by decide) (by decide) (by decide) (by decide) (by decide)) (hk 35 (by decide) (by decide) (by decide) (by decide) (by decide) (by decide)) (hk 36 (by decide) (by decide) (by decide) (by decide) (by decide) (by decide)) (hk 37 (by decide) (by decide) (by decide) (by decide) (by decide) (by decide))
              have hX3 : NPJ (upM (upM M0 46 0 r) 27 0 0) := hX2.of rfl rfl rfl rfl rfl rfl rfl rfl rfl rfl rfl rfl rfl
              have hZ : RR (mix (lkA M) (upM (upM M0 46 0 r) 27 0 0)) := hR.of rfl rfl rfl rfl rfl rfl rfl rfl rfl rfl rfl rfl rfl rfl rfl rfl rfl (congrFun (hk 27 (by decide) (by decide) (by decide) (by decide) (by decide) (by decide)) 2) (congrFun (hk 27 (by decide) (by decide) (by decide) (by decide) (by decide) (by decide)) 6) (congrFun (hk 27 (by decide) (by decide) (by decide) (by decide) (by decide) (by decide)) 11) (congrFun (hk 27 (by decide) (by decide) (by decide) (by decide) (by decide) (by decide)) 14) (hk 28 (by decide) (by decide) (by decide) (by decide) (by decide) (by decide)) (hk 29 (by decide) (by decide) (by decide) (by decide) (by decide) (by decide)) (hk 30 (by decide) (by decide) (by decide) (by decide) (by decide) (by decide)) (hk 31 (by decide) (by decide) (by decide) (by decide) (by decide) (by decide)) (hk 32 (by decide) (by decide) (by decide) (by decide) (by decide) (by decide)) (hk 33 (by decide) (by decide) (by decide) (by decide) (by decide) (by decide)) (hk 34 (by decide) (by decide) (by decide) (by decide) (by decide) (by decide)) (hk 35 (by decide) (by decide) (by decide) (by decide) (by decide) (by decide)) (hk 36 (by decide) (by decide) (by decide) (by decide) (by decide) (by decide)) (hk 37 (by decide) (by decide) (by decide) (by decide) (by decide) (by decide)) (hk 38 (by decide) (by decide) (by decide) (by decide) (by decide) (by decide))
              refine c_X8_send a b c d hX2.1 hX2.2.1 hX2.2.2.1 hX2.2.2.2 ia ib ic id (fun s Y zc => ?_) (fun zc => (by exfalso; exact zc ⟨⟨h1.1, by show a < M0 27 2; rw [e2]; exact h1.2⟩, h2.1, by show b < M0 27 2; rw [e2]; exact h2.2⟩)) (fun zc => (by exfalso; exact zc.2 ⟨h3, h4, h5⟩)) (fun zc => (by exfalso; have zz : M0 27 11 = 20 := zc.2; rw [e11] at zz; omega))
              obtain ⟨-, zs⟩ := zc
              obtain ⟨z1, z2⟩ := post_sim hZ (CC.lk hs) h1 h2 h3 h4 h5 (by show M 19 2 < 20; omega) zp zs
              obtain ⟨-, k2, k3, -⟩ := zs.keep hX3 (by show M0 27 11 < 20; omega) (by show 0 ≤ a ∧ a < M0 27 2; omega) (by show 0 ≤ b ∧ b < M0 27 2; omega) h4 h5
              have e46 : Y 46 0 = r := congrFun (k2 46 (by decide) (by decide) (by decide) (by decide) (by decide) (by decide) (by decide)) 0
              have hY : RR Y := z1.of (k2 2 (by decide) (by decide) (by decide) (by decide) (by decide) (by decide) (by decide)) (congrFun (k2 3 (by decide) (by decide) (by decide) (by decide) (by decide) (by decide) (by decide)) 3) (k2 4 (by decide) (by decide) (by decide) (by decide) (by decide) (by decide) (by decide)) (congrFun (k2 7 (by decide) (by decide) (by decide) (by decide) (by decide) (by decide) (by decide)) 3) (k2 8 (by decide) (by decide) (by decide) (by decide) (by decide) (by decide) (by decide)) (k2 9 (by decide) (by decide) (by decide) (by decide) (by decide) (by decide) (by decide)) (k2 10 (by decide) (by decide) (by decide) (by decide) (by decide) (by decide) (by decide)) (congrFun (k2 11 (by decide) (by decide) (by decide) (by decide) (by decide) (by decide) (by decide)) 6) (k2 12 (by decide) (by decide) (by decide) (by decide) (by decide) (by decide) (by decide)) (k2 13 (by decide) (by decide) (by decide) (by decide) (by decide) (by decide) (by decide)) (k2 14 (by decide) (by decide) (by decide) (by decide) (by decide) (by decide) (by decide)) (k2 15 (by decide) (by decide) (by decide) (by decide) (by decide) (by decide) (by decide)) (k2 16 (by decide) (by decide) (by decide) (by decide) (by decide) (by decide) (by decide)) (k2 17 (by decide) (by decide) (by decide) (by decide) (by decide) (by decide) (by decide)) (congrFun (k2 19 (by decide) (by decide) (by decide) (by decide) (by decide) (by decide) (by decide)) 2) (k2 20 (by decide) (by decide) (by decide) (by decide) (by decide) (by decide) (by decide)) (k2 21 (by decide) (by decide) (by decide) (by decide) (by decide) (by decide) (by decide)) rfl rfl rfl rfl rfl rfl rfl rfl rfl rfl rfl rfl rfl rfl rfl
              have hbd := zp.bd h5.1 h2
              have hr : (if s = 1 then Y 36 (6 * Y 27 11 - 2) else -1) = r := by
                rcases z2 with ⟨q1, q2, -⟩ | ⟨q1, q2, -, -, -⟩
                · rw [if_neg (by omega), q2]
                · rw [if_pos q1, q2]
              rw [hr]
              exact h r Y ⟨by omega, by omega⟩ (k3 0 (by omega)) (fun _ => e46) hY
          · skip
            refine ⟨true, 2, fun M1 => M1 = M, by omega, fun QW h => w_L_send_x2 a b c d (fun Q2 hk => c_X7_send_x5 a b c d hR.2.1.1 ia ib ic id h1 h2 h3 h4 h5 (hk _ (h _ rfl))), fun M1 hM Q2 h => ?_⟩
            rw [hM]
            exact c_X8_send a b c d hX.1 hX.2.1 hX.2.2.1 hX.2.2.2 ia ib ic id (fun s Y (zc : (((0 ≤ a ∧ a < M 27 2) ∧ 0 ≤ b ∧ b < M 27 2) ∧ a ≠ b ∧ ((1 ≤ c ∧ c ≤ 6) ∧ 0 ≤ d ∧ d ≤ 71) ∧ M 27 11 < 20) ∧ PostS (upM M 27 0 0) a b c d s Y) => (by exfalso; omega)) (fun (zc : ¬ ((0 ≤ a ∧ a < M 27 2) ∧ 0 ≤ b ∧ b < M 27 2)) => (by exfalso; omega)) (fun (zc : ((0 ≤ a ∧ a < M 27 2) ∧ 0 ≤ b ∧ b < M 27 2) ∧ ¬ (a ≠ b ∧ (1 ≤ c ∧ c ≤ 6) ∧ 0 ≤ d ∧ d ≤ 71)) => h 0 _ inr0 rfl (fun q => by omega) (RR.thr hR _)) (fun (zc : (((0 ≤ a ∧ a < M 27 2) ∧ 0 ≤ b ∧ b < M 27 2) ∧ a ≠ b ∧ (1 ≤ c ∧ c ≤ 6) ∧ 0 ≤ d ∧ d ≤ 71) ∧ M 27 11 = 20) => (by exfalso; omega))
        · skip
          refine ⟨true, 2, fun M1 => M1 = M, by omega, fun QW h => w_L_send_x2 a b c d (fun Q2 hk => c_X7_send_x4 a b c d hR.2.1.1 ia ib ic id h1 h2 h3 h4 (hk _ (h _ rfl))), fun M1 hM Q2 h => ?_⟩
          rw [hM]
          exact c_X8_send a b c d hX.1 hX.2.1 hX.2.2.1 hX.2.2.2 ia ib ic id (fun s Y (zc : (((0 ≤ a ∧ a < M 27 2) ∧ 0 ≤ b ∧ b < M 27 2) ∧ a ≠ b ∧ ((1 ≤ c ∧ c ≤ 6) ∧ 0 ≤ d ∧ d ≤ 71) ∧ M 27 11 < 20) ∧ PostS (upM M 27 0 0) a b c d s Y) => (by exfalso; omega)) (fun (zc : ¬ ((0 ≤ a ∧ a < M 27 2) ∧ 0 ≤ b ∧ b < M 27 2)) => (by exfalso; omega)) (fun (zc : ((0 ≤ a ∧ a < M 27 2) ∧ 0 ≤ b ∧ b < M 27 2) ∧ ¬ (a ≠ b ∧ (1 ≤ c ∧ c ≤ 6) ∧ 0 ≤ d ∧ d ≤ 71)) => h 0 _ inr0 rfl (fun q => by omega) (RR.thr hR _)) (fun (zc : (((0 ≤ a ∧ a < M 27 2) ∧ 0 ≤ b ∧ b < M 27 2) ∧ a ≠ b ∧ (1 ≤ c ∧ c ≤ 6) ∧ 0 ≤ d ∧ d ≤ 71) ∧ M 27 11 = 20) => (by exfalso; omega))
    · skip
      refine ⟨true, 1, fun M1 => M1 = M, by omega, fun QW h => w_L_send_x1 a b c d (fun Q2 hk => c_X7_send_x2 a b c d hR.2.1.1 ia ib ic id h1 h2 (hk _ (h _ rfl))), fun M1 hM Q2 h => ?_⟩
      rw [hM]
      exact c_X8_send a b c d hX.1 hX.2.1 hX.2.2.1 hX.2.2.2 ia ib ic id (fun s Y (zc : (((0 ≤ a ∧ a < M 27 2) ∧ 0 ≤ b ∧ b < M 27 2) ∧ a ≠ b ∧ ((1 ≤ c ∧ c ≤ 6) ∧ 0 ≤ d ∧ d ≤ 71) ∧ M 27 11 < 20) ∧ PostS (upM M 27 0 0) a b c d s Y) => (by exfalso; omega)) (fun (zc : ¬ ((0 ≤ a ∧ a < M 27 2) ∧ 0 ≤ b ∧ b < M 27 2)) => h 0 _ inr0 rfl (fun q => by omega) (RR.thr hR _)) (fun (zc : ((0 ≤ a ∧ a < M 27 2) ∧ 0 ≤ b ∧ b < M 27 2) ∧ ¬ (a ≠ b ∧ (1 ≤ c ∧ c ≤ 6) ∧ 0 ≤ d ∧ d ≤ 71)) => (by exfalso; omega)) (fun (zc : (((0 ≤ a ∧ a < M 27 2) ∧ 0 ≤ b ∧ b < M 27 2) ∧ a ≠ b ∧ (1 ≤ c ∧ c ≤ 6) ∧ 0 ≤ d ∧ d ≤ 71) ∧ M 27 11 = 20) => (by exfalso; omega))
  · skip
    refine ⟨true, 1, fun M1 => M1 = M, by omega, fun QW h => w_L_send_x1 a b c d (fun Q2 hk => c_X7_send_x1 a b c d hR.2.1.1 ia ib ic id h1 (hk _ (h _ rfl))), fun M1 hM Q2 h => ?_⟩
    rw [hM]
    exact c_X8_send a b c d hX.1 hX.2.1 hX.2.2.1 hX.2.2.2 ia ib ic id (fun s Y (zc : (((0 ≤ a ∧ a < M 27 2) ∧ 0 ≤ b ∧ b < M 27 2) ∧ a ≠ b ∧ ((1 ≤ c ∧ c ≤ 6) ∧ 0 ≤ d ∧ d ≤ 71) ∧ M 27 11 < 20) ∧ PostS (upM M 27 0 0) a b c d s Y) => (by exfalso; omega)) (fun (zc : ¬ ((0 ≤ a ∧ a < M 27 2) ∧ 0 ≤ b ∧ b < M 27 2)) => h 0 _ inr0 rfl (fun q => by omega) (RR.thr hR _)) (fun (zc : ((0 ≤ a ∧ a < M 27 2) ∧ 0 ≤ b ∧ b < M 27 2) ∧ ¬ (a ≠ b ∧ (1 ≤ c ∧ c ≤ 6) ∧ 0 ≤ d ∧ d ≤ 71)) => (by exfalso; omega)) (fun (zc : (((0 ≤ a ∧ a < M 27 2) ∧ 0 ≤ b ∧ b < M 27 2) ∧ a ≠ b ∧ (1 ≤ c ∧ c ≤ 6) ∧ 0 ≤ d ∧ d ≤ 71) ∧ M 27 11 = 20) => (by exfalso; omega))
theorem op_cancel {ev : Ev} {M : Mem} {a : Int} (hR : RR M) (ia : Inr a) : CALL ev t_L_cancel hh_L_cancel t_X8_cancel 2 [vI a] M := by
  have hg : 0 ≤ M 19 2 ∧ M 19 2 ≤ 20 := hR.2.2.2.2.2.1.1
  have hm : M 27 11 = M 19 2 := hR.2.2.2.2.1
  by_cases h1 : 0 ≤ a ∧ a < M 19 2
  · refine ⟨false, 0, fun M1 => M1 = upM (rmM (upM (cpM M 20 (27 * (a + 1)) (27 * a) (27 * (M 19 2 - (a + 1)))) 19 2 (M 19 2 - 1)) a 576) 46 0 (M 19 2 - 1), by omega, fun QW h => w_L_cancel a (fun Q2 hk => c_X7_cancel a hR.gi ia h1 (fun r zr => hk r _ ⟨by omega, by omega⟩ (by rw [zr]; exact h _ rfl))), fun M1 hM Q2 h => ?_⟩
    rw [hM]
    have hGJ : GJ (upM (rmM (upM (cpM M 20 (27 * (a + 1)) (27 * a) (27 * (M 19 2 - (a + 1)))) 19 2 (M 19 2 - 1)) a 576) 46 0 (M 19 2 - 1)) := hR.gj.of rfl rfl rfl
    refine c_X8_cancel a hGJ ia (fun zc => ?_) (fun zc => (by exfalso; exact zc ⟨h1.1, by show a < M 27 11; omega⟩))
    have hz := RM_del (c := a) (S' := fun j => if 6 * a ≤ j ∧ j < 6 * (M 27 11 - 1) then M 36 (j + 6) else M 36 j) (H' := fun j => if 21 * a ≤ j ∧ j < 21 * (M 27 11 - 1) then M 37 (j + 21) else M 37 j) (B' := (rmM (upM (cpM M 20 (27 * (a + 1)) (27 * a) (27 * (M 19 2 - (a + 1)))) 19 2 (M 19 2 - 1)) a 576) 21) (C' := (rmM (upM (cpM M 20 (27 * (a + 1)) (27 * a) (27 * (M 19 2 - (a + 1)))) 19 2 (M 19 2 - 1)) a 576) 20) hR.2.2.2.2.2.1 hR.2.2.2.2.2.2 h1
      (fun m w m0 m1 w0 w1 => by show (if _ then _ else _) = _; rw [if_neg (by omega)])
      (fun m w m0 m1 w0 w1 => by show (if _ then _ else _) = _; rw [if_pos (by omega), show 6 * m + w + 6 = 6 * (m + 1) + w from by omega])
      (fun m w m0 m1 w0 w1 => by show (if _ then _ else _) = _; rw [if_neg (by omega)])
      (fun m w m0 m1 w0 w1 => by show (if _ then _ else _) = _; rw [if_pos (by omega), show 21 * m + w + 21 = 21 * (m + 1) + w from by omega])
      (fun m w m0 m1 w0 w1 => by show (if 20 = 20 ∧ 27 * a ≤ 27 * m + w ∧ 27 * m + w < 27 * a + 27 * (M 19 2 - (a + 1)) then M 20 (27 * (a + 1) + (27 * m + w - 27 * a)) else M 20 (27 * m + w)) = _; rw [if_neg (by omega)])
      (fun m w m0 m1 w0 w1 => by show (if 20 = 20 ∧ 27 * a ≤ 27 * m + w ∧ 27 * m + w < 27 * a + 27 * (M 19 2 - (a + 1)) then M 20 (27 * (a + 1) + (27 * m + w - 27 * a)) else M 20 (27 * m + w)) = _; rw [if_pos ⟨rfl, by omega, by omega⟩, show 27 * (a + 1) + (27 * m + w - 27 * a) = 27 * (m + 1) + w from by omega])
      (fun i i0 i1 => by show (if 21 = 21 ∧ 0 ≤ i ∧ i < 576 then (if M 21 i = a then -1 else if a < M 21 i then M 21 i - 1 else M 21 i) else M 21 i) = _; rw [if_pos ⟨rfl, i0, i1⟩])
    have e36 : shM (shM (upM (upM (upM (rmM (upM (cpM M 20 (27 * (a + 1)) (27 * a) (27 * (M 19 2 - (a + 1)))) 19 2 (M 19 2 - 1)) a 576) 46 0 (M 19 2 - 1)) 27 0 0) 27 11 (M 27 11 - 1)) 36 (6 * a) (6 * (M 27 11 - 1)) 6) 37 (21 * a) (21 * (M 27 11 - 1)) 21 36 = (fun j => if 6 * a ≤ j ∧ j < 6 * (M 27 11 - 1) then M 36 (j + 6) else M 36 j) := by
      funext j
      show (if 36 = 36 ∧ 6 * a ≤ j ∧ j < 6 * (M 27 11 - 1) then M 36 (j + 6) else M 36 j) = _
      by_cases q : 6 * a ≤ j ∧ j < 6 * (M 27 11 - 1)
      · rw [if_pos ⟨rfl, q⟩, if_pos q]
      · rw [if_neg (fun z => q z.2), if_neg q]
    have e37 : shM (shM (upM (upM (upM (rmM (upM (cpM M 20 (27 * (a + 1)) (27 * a) (27 * (M 19 2 - (a + 1)))) 19 2 (M 19 2 - 1)) a 576) 46 0 (M 19 2 - 1)) 27 0 0) 27 11 (M 27 11 - 1)) 36 (6 * a) (6 * (M 27 11 - 1)) 6) 37 (21 * a) (21 * (M 27 11 - 1)) 21 37 = (fun j => if 21 * a ≤ j ∧ j < 21 * (M 27 11 - 1) then M 37 (j + 21) else M 37 j) := by
      funext j
      show (if 37 = 37 ∧ 21 * a ≤ j ∧ j < 21 * (M 27 11 - 1) then M 37 (j + 21) else M 37 j) = _
      by_cases q : 21 * a ≤ j ∧ j < 21 * (M 27 11 - 1)
      · rw [if_pos ⟨rfl, q⟩, if_pos q]
      · rw [if_neg (fun z => q z.2), if_neg q]
    refine h _ _ ?_ rfl (fun _ => ?_) ⟨hR.1.of rfl rfl, hR.2.1.of rfl rfl rfl rfl rfl rfl rfl rfl, hR.2.2.1.of rfl rfl rfl rfl rfl rfl rfl rfl rfl rfl rfl rfl, hR.2.2.2.1.of rfl rfl rfl rfl, ?_⟩
    · show Inr (M 27 11 - 1)
      exact ⟨by omega, by omega⟩
    · show M 19 2 - 1 = M 27 11 - 1
      omega
    · refine ⟨?_, ?_⟩
      · show M 27 11 - 1 = M 19 2 - 1
        omega
      · rw [← e36, ← e37] at hz
        exact hz
  · skip
    refine ⟨true, 1, fun M1 => M1 = M, by omega, fun QW h => w_L_cancel_x1 a (fun Q2 hk => c_X7_cancel_x1 a hR.gi ia h1 (hk _ (h _ rfl))), fun M1 hM Q2 h => ?_⟩
    rw [hM]
    exact c_X8_cancel a hR.gj ia (fun (zc : 0 ≤ a ∧ a < M 27 11) => (by exfalso; omega)) (fun (zc : ¬ (0 ≤ a ∧ a < M 27 11)) => h 0 _ inr0 rfl (fun q => by omega) (RR.thr hR _))
