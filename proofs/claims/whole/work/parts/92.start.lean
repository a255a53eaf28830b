def M0 (f : Nat → Int32) : Mem := fun k i => if k = 21 then (f i.toNat).toInt else 0
theorem M0_z {f : Nat → Int32} {k : Nat} (h : k ≠ 21) (i : Int) : M0 f k i = 0 := by unfold M0; rw [if_neg h]
theorem M0_e {f : Nat → Int32} {j k : Nat} (h : j ≠ 21) (h2 : k ≠ 21) : M0 f j = M0 f k := funext fun i => by rw [M0_z h, M0_z h2]
theorem M0_1 {f : Nat → Int32} : RTr (M0 f) := ⟨fun i i0 i1 => by rw [M0_z (by decide)]; omega, M0_e (by decide) (by decide)⟩
theorem M0_2 {f : Nat → Int32} : RS (M0 f) := by
  have e : M0 f 7 3 = 0 := M0_z (by decide) 3
  refine ⟨⟨by rw [e]; omega, fun i i0 i1 => ?_, fun i j i0 i1 => ?_⟩, by rw [M0_z (by decide), e], M0_e (by decide) (by decide), M0_e (by decide) (by decide), M0_e (by decide) (by decide)⟩
  · rw [e] at i1; omega
  · rw [e] at i1; omega
theorem M0_3 {f : Nat → Int32} : RK (M0 f) := by
  have e : M0 f 11 6 = 0 := M0_z (by decide) 6
  refine ⟨⟨by rw [e]; omega, fun i i0 i1 => ?_⟩, by rw [M0_z (by decide), e], fun j j0 j1 => ?_⟩
  · rw [e] at i1; omega
  · rw [e] at j1; omega
theorem M0_4 {f : Nat → Int32} : RX (M0 f) := by
  have e : M0 f 3 3 = 0 := M0_z (by decide) 3
  refine ⟨by rw [e]; omega, fun i i0 i1 => ?_, by rw [M0_z (by decide), e], M0_e (by decide) (by decide)⟩
  rw [e] at i1; omega
theorem M0_5 {f : Nat → Int32} (hf : ∀ j, j < 576 → f j = -1) : RM (M0 f) := by
  have e : M0 f 19 2 = 0 := M0_z (by decide) 2
  unfold RM
  rw [e]
  refine ⟨M0_z (by decide) 11, RG.nil (fun i i0 i1 => ?_), fun m m0 m1 => absurd m1 (by omega)⟩
  have h1 : M0 f 21 i = (f i.toNat).toInt := by unfold M0; rw [if_pos rfl]
  rw [h1, hf i.toNat (by omega)]
  rfl
theorem M0_RR {f : Nat → Int32} (hf : ∀ j, j < 576 → f j = -1) : RR (M0 f) := ⟨M0_1, M0_2, M0_3, M0_4, M0_5 hf⟩
def mkE (l : Launch) (sz : Nat) (ad : List Nat) (D : va_G) (y : YT) (S : Nat → Nat) : Ev := (l, sz, fun k => ad.getD k 0, D, y, S)
set_option maxRecDepth 20000 in
theorem wd_made {l : Launch} {sz b : Nat} {D : va_G} {y : YT} {S : Nat → Nat} (h0 o5 c5_q1 o1 c1_q1 c1_q2 c1_q3 o4 c4_q1 c4_q2 c4_q3 o0 c0_q1 c0_q2 c0_q3 c0_q4 c0_q5 c0_q6 o2 o6 c6_q1 c6_q2 o3 c3_q1 c3_q2 c3_q3 c3_q4 m0 r1 r2 r3 r4 r5 r6 r7 r8 r9 r10 r11 r12 r13 r14 r15 r16 r17 r18 z0 : Nat) (f : Nat → Int32) : [0, 1, 2, 3, 4, 5, 6, 7, 8, 9, 10, 11, 12, 13, 14, 15, 16, 17, 18, 19, 20, 21, 22, 23, 24, 25, 26, 27, 28, 29, 30, 31, 32, 33, 34, 35, 36, 37, 38, 39, 40, 41, 42, 43, 44, 45, 46].map (fun i => (mdW y h0 o5 c5_q1 o1 c1_q1 c1_q2 c1_q3 o4 c4_q1 c4_q2 c4_q3 o0 c0_q1 c0_q2 c0_q3 c0_q4 c0_q5 c0_q6 o2 o6 c6_q1 c6_q2 o3 c3_q1 c3_q2 c3_q3 c3_q4 m0 r1 r2 r3 r4 r5 r6 r7 r8 r9 r10 r11 r12 r13 r14 r15 r16 r17 r18 z0 (fun i : Nat => Int32.ofInt (M0 f 21 (i : Int))))[i]?) = (wd (mkE l sz [h0, o5, c5_q1, o1, c1_q1, c1_q2, c1_q3, o4, c4_q1, c4_q2, c4_q3, o0, c0_q1, c0_q2, c0_q3, c0_q4, c0_q5, c0_q6, o2, o6, c6_q1, c6_q2, o3, c3_q1, c3_q2, c3_q3, c3_q4, m0, r1, r2, r3, r4, r5, r6, r7, r8, r9, r10, r11, r12, r13, r14, r15, r16, r17, r18, z0, b] D y S) (M0 f)).map some := rfl
set_option maxRecDepth 20000 in
theorem whole_start {p : Program} {e : Env} {s : State} {m : MethodId} {below : List Frame} {meth : Method} {c : Code} (l : Launch) (hflags : l.flags = flags0) {b L : Nat} {xs : Nat → Int32} (hL : L ≤ 2560) (C0 : lw_At p s m meth c b L xs) : W p l e room_1 s m #[Value.ref b] below meth c s.heap [] 0 0 (lw_Z below #[Value.ref b] s) (entryFrame m ([Value.ref b] : List Value).toArray 9) := by
  obtain ⟨hx, hb, hr, hml, hown, htt, hX, hbl, hlocks, hgv⟩ := C0
  have hts : ∀ w ∈ lw_big, w.before #[Value.ref b] s = true := fun w hw => htt w (List.mem_filter.mp hw).1
  obtain ⟨D, hD0⟩ := st_D hts
  obtain ⟨y, hY0⟩ := st_Y hts
  obtain ⟨S, hS0⟩ := st_S htt
  have hK : va_K D vwCl (tyY y) s := ⟨hD0, hY0⟩
  have hns := st_ns htt
  have hl := lv_entry [Value.ref b] (n := 9) (Nat.le_of_ble_eq_true rfl)
  rw [lg_entry_eq]
  have hc : IC D y (fun q => s.heap.size ≤ q) RL cL_law 9 (p, e, room_1, s, m, #[Value.ref b], below, meth, c, lw_Z below #[Value.ref b] s) := ⟨hx, hb, hml, hown, hts, hK, fun q h => h⟩
  refine law_made (g := (p, e, room_1, s, m, #[Value.ref b], below, meth, c, lw_Z below #[Value.ref b] s)) hc hl hns rfl (fun h0 o5 c5_q1 o1 c1_q1 c1_q2 c1_q3 o4 c4_q1 c4_q2 c4_q3 o0 c0_q1 c0_q2 c0_q3 c0_q4 c0_q5 c0_q6 o2 o6 c6_q1 c6_q2 o3 c3_q1 c3_q2 c3_q3 c3_q4 m0 r1 r2 r3 r4 r5 r6 r7 r8 r9 r10 r11 r12 r13 r14 r15 r16 r17 r18 z0 f ls hf hl H locs hP hD hS => ?_) s.heap [] (fun k q h => (by cases h)) ⟨fun i j p q h => (by cases h), fun k q h => (by cases h)⟩ va_S.rf
  have ef : (fun i : Nat => Int32.ofInt (M0 f 21 (i : Int))) = f := funext fun i => by
    show Int32.ofInt (f ((i : Int).toNat)).toInt = f i
    rw [Int32.ofInt_toInt]
    rfl
  have hC := wd_made (l := l) (sz := s.heap.size) (b := b) (D := D) (y := y) (S := S) h0 o5 c5_q1 o1 c1_q1 c1_q2 c1_q3 o4 c4_q1 c4_q2 c4_q3 o0 c0_q1 c0_q2 c0_q3 c0_q4 c0_q5 c0_q6 o2 o6 c6_q1 c6_q2 o3 c3_q1 c3_q2 c3_q3 c3_q4 m0 r1 r2 r3 r4 r5 r6 r7 r8 r9 r10 r11 r12 r13 r14 r15 r16 r17 r18 z0 f
  rw [ef] at hC
  have hPW := va_pick hP _ hC
  have hDW := hD.sub _ (by decide) hC
  generalize hev0 : mkE l s.heap.size [h0, o5, c5_q1, o1, c1_q1, c1_q2, c1_q3, o4, c4_q1, c4_q2, c4_q3, o0, c0_q1, c0_q2, c0_q3, c0_q4, c0_q5, c0_q6, o2, o6, c6_q1, c6_q2, o3, c3_q1, c3_q2, c3_q3, c3_q4, m0, r1, r2, r3, r4, r5, r6, r7, r8, r9, r10, r11, r12, r13, r14, r15, r16, r17, r18, z0, b] D y S = ev at hPW hDW
  have hevS : evS ev := ⟨fun i j hi hj he => hDW.1 i j _ _ (wd_get ev _ hi) (wd_get ev _ hj) he, fun i hi => by rw [show eB ev = s.heap.size from by rw [← hev0]; rfl]; exact hDW.2 i _ (wd_get ev _ hi), by
    rw [← hev0]
    show l.stackTraces = false
    unfold Launch.stackTraces; rw [hflags]; decide⟩
  have hev : evAt ev s := by
    refine ⟨hevS, ?_⟩
    rw [← hev0]
    exact ⟨hK, st_z1 htt hgv, st_z2 htt hgv, Nat.le_refl _, hS0, st_nw htt⟩
  have hc2 : GC ev t_law (p, e, room_1, s, m, #[Value.ref b], below, meth, c, lw_Z below #[Value.ref b] s) := ⟨hx, hb, hml, hown, hts, hev, st_nc hgv⟩
  have hX2 : GX ev (p, e, room_1, s, m, #[Value.ref b], below, meth, c, lw_Z below #[Value.ref b] s) L xs := by
    rw [← hev0]
    exact ⟨hX, hbl, rfl, hL⟩
  have eDe : eD ev = D := by rw [← hev0]; rfl
  have eBe : eB ev = s.heap.size := by rw [← hev0]; rfl
  have hPW2 : PW ev (M0 f) H := by show va_P (eD ev) vwCl (wd ev (M0 f)) H; rw [eDe]; exact hPW
  have hS2 : va_S (eR ev) s.heap H locs := by show va_S (fun q => eB ev ≤ q) s.heap H locs; rw [eBe]; exact hS
  have hl2 : LH (eA ev) ls (mL t_law) (LL 0) := by rw [← hev0]; exact hl
  have hfin := law_loop hc2 hX2 rfl (fun Lo M H locs ls hP hS hl => by
    have hS3 : va_S (fun q => eB ev ≤ q) s.heap H locs := hS
    rw [eBe] at hS3
    exact va_forget hS3.2.2 (lw_ret (d0 := s.drawn) (Drawn.sameBut.refl s.drawn lw_cs) hx hb hr hlocks (dc_at lcE_d 3 1707 .ireturn 1 rfl))) 512 0 47 3881 (M0 f) (M0_RR hf) (by omega) (by omega) (by omega) (by omega) (by omega) H locs ls hPW2 hS2 hl2
  have eLe : eL ev = l := by rw [← hev0]; rfl
  rw [← eLe]
  exact hfin
