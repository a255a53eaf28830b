/-! messages on both sides, one after another -/
theorem NPJ.of {X Y : Mem} (h : NPJ X) (f2 : Y 27 2 = X 27 2) (f6 : Y 27 6 = X 27 6) (f11 : Y 27 11 = X 27 11) (e28 : Y 28 = X 28) (e29 : Y 29 = X 29) (e30 : Y 30 = X 30) (e31 : Y 31 = X 31) (e32 : Y 32 = X 32) (e33 : Y 33 = X 33) (e34 : Y 34 = X 34) (e35 : Y 35 = X 35) (e36 : Y 36 = X 36) (e37 : Y 37 = X 37) : NPJ Y :=
  ⟨h.1.of e28, h.2.1.of f2 e29 e30 e31, h.2.2.1.of f6 e32 e33 e34 e35, h.2.2.2.of f11 e36 e37⟩
theorem PostR.bd {M M' : Mem} {a b l t r : Int} (h : PostR M a b l t r M') (ht : 0 ≤ t) (hb : 0 ≤ b ∧ b < M 7 3) : -1 ≤ r ∧ r ≤ 72 := by
  rcases h with ⟨f, hf, hr, -⟩ | ⟨f, g, p, hf, hr, -⟩
  · omega
  · have := hf.1.2.1 b hb.1 hb.2
    omega
theorem CC.lk {M : Mem} (hn : 0 ≤ M 7 3 ∧ M 7 3 ≤ 8) : CC (lkA M) := by
  intro u v u0 u1 v0 v1
  replace u1 : u < M 7 3 := u1
  replace v1 : v < M 7 3 := v1
  have e : hpC (lkA M) = hpC M := hpC_of rfl rfl rfl rfl rfl rfl rfl rfl rfl rfl rfl
  rw [e]
  show lkM M (hpC M) (M 7 3) (M 7 3) 0 23 (8 * u + v) = _
  unfold lkM
  rw [if_pos (by omega), show (8 * u + v) / 8 = u from by omega, show (8 * u + v) % 8 = v from by omega]
theorem CC.of {C D : Mem} (h : CC C) (e2 : D 2 = C 2) (e7 : D 7 = C 7) (e8 : D 8 = C 8) (e9 : D 9 = C 9) (e10 : D 10 = C 10) (e11 : D 11 = C 11) (e12 : D 12 = C 12) (e13 : D 13 = C 13) (e14 : D 14 = C 14) (e15 : D 15 = C 15) (e16 : D 16 = C 16) (e17 : D 17 = C 17) (e23 : D 23 = C 23) : CC D := by
  intro u v u0 u1 v0 v1
  rw [e7] at u1 v1
  rw [e23, hpC_of (X := D) (M := C) e2 e8 e9 e10 (by rw [e11]) e12 e13 e14 e15 e16 e17]
  exact h u v u0 u1 v0 v1
theorem CC.post {C C1 : Mem} {a b l t r : Int} (h : CC C) (hp : PostR C a b l t r C1) (hm : 0 ≤ C 19 2 ∧ C 19 2 < 20) (hB : BKI C) : CC C1 ∧ C1 7 3 = C 7 3 := by
  have hk := (hp.keep hm hB).1
  have q := fun (k : Nat) (h1 : k ≠ 19) (h2 : k ≠ 20) (h3 : k ≠ 21) (h4 : k ≠ 22) (h5 : k ≠ 24) (h6 : k ≠ 25) => hk k h1 h2 h3 h4 h5 h6
  refine ⟨h.of (q 2 (by decide) (by decide) (by decide) (by decide) (by decide) (by decide)) (q 7 (by decide) (by decide) (by decide) (by decide) (by decide) (by decide)) (q 8 (by decide) (by decide) (by decide) (by decide) (by decide) (by decide)) (q 9 (by decide) (by decide) (by decide) (by decide) (by decide) (by decide)) (q 10 (by decide) (by decide) (by decide) (by decide) (by decide) (by decide)) (q 11 (by decide) (by decide) (by decide) (by decide) (by decide) (by decide)) (q 12 (by decide) (by decide) (by decide) (by decide) (by decide) (by decide)) (q 13 (by decide) (by decide) (by decide) (by decide) (by decide) (by decide)) (q 14 (by decide) (by decide) (by decide) (by decide) (by decide) (by decide)) (q 15 (by decide) (by decide) (by decide) (by decide) (by decide) (by decide)) (q 16 (by decide) (by decide) (by decide) (by decide) (by decide) (by decide)) (q 17 (by decide) (by decide) (by decide) (by decide) (by decide) (by decide)) (q 23 (by decide) (by decide) (by decide) (by decide) (by decide) (by decide)), ?_⟩
  rw [q 7 (by decide) (by decide) (by decide) (by decide) (by decide) (by decide)]
theorem mix_np {C Y : Mem} (h : RR (mix C Y)) : NPJ Y := h.np.of rfl rfl rfl rfl rfl rfl rfl rfl rfl rfl rfl rfl rfl
theorem chain_sim : ∀ (qs : List Rq) (C Y C1 Y1 : Mem), RR (mix C Y) → CC C → (∀ q ∈ qs, rqO (C 7 3) q) → C 19 2 + qs.length ≤ 20 → PCh qs C C1 → SCh qs Y Y1 → RR (mix C1 Y1) ∧ (∀ k : Nat, k < 27 → Y1 k = Y k) ∧ (∀ j, j ≠ 11 → Y1 27 j = Y 27 j) ∧ (∀ k : Nat, 27 < k → k ≠ 36 → k ≠ 37 → k ≠ 41 → k ≠ 42 → k ≠ 43 → k ≠ 44 → Y1 k = Y k)
  | [], C, Y, C1, Y1, h, _, _, _, hc, hy => by
    cases hc; cases hy
    exact ⟨h, fun _ _ => rfl, fun _ _ => rfl, fun _ _ _ _ _ _ _ _ => rfl⟩
  | q :: qs, C, Y, C1, Y1, h, hC, hq, hlen, hc, hy => by
    obtain ⟨r, C2, c1, c2⟩ := hc
    obtain ⟨s, Y2, y1, y2⟩ := hy
    rw [List.length_cons] at hlen
    have hv := hq q List.mem_cons_self
    unfold rqO at hv
    have hn0 : 0 ≤ C 19 2 := h.2.2.2.2.2.1.1.1
    have hB : BKI C := h.bk
    have hns : Y 27 2 = C 7 3 := h.ens
    have hmm : Y 27 11 = C 19 2 := h.2.2.2.2.1
    obtain ⟨z1, z2⟩ := post_sim h hC hv.1 hv.2.1 hv.2.2.1 hv.2.2.2.1 hv.2.2.2.2 (by omega) c1 y1
    obtain ⟨d1, d2⟩ := hC.post c1 ⟨hn0, by omega⟩ hB
    obtain ⟨-, k2, k3, -⟩ := y1.keep (mix_np h) (by omega) (by rw [hns]; exact hv.1) (by rw [hns]; exact hv.2.1) hv.2.2.2.1 hv.2.2.2.2
    obtain ⟨r1, r2, r3, r4⟩ := chain_sim qs C2 Y2 C1 Y1 z1 d1 (fun x hx => by rw [d2]; exact hq x (List.mem_cons_of_mem _ hx)) (by omega) c2 y2
    refine ⟨r1, fun k hk => ?_, fun j hj => by rw [r3 j hj, k3 j hj], fun k h1 h2 h3 h4 h5 h6 h7 => ?_⟩
    · rw [r2 k hk, k2 k (by omega) (by omega) (by omega) (by omega) (by omega) (by omega) (by omega)]
    · rw [r4 k h1 h2 h3 h4 h5 h6 h7, k2 k h4 h5 h6 h7 h2 h3 (by omega)]
theorem rqL_congr {R R' : Int → Int} {l : Int} : ∀ (n : Nat) (i : Int), (∀ j w, i ≤ j → j < i + n → 0 ≤ w → w < 4 → R (4 * j + w) = R' (4 * j + w)) → rqL R l n i = rqL R' l n i
  | 0, _, _ => rfl
  | n + 1, i, h => by
    have ih := rqL_congr (R := R) (R' := R') (l := l) n (i + 1) (fun j w a b => h j w (by omega) (by omega))
    have h0 := h i 0 (by omega) (by omega) (by omega) (by omega)
    rw [Int.add_zero] at h0
    have h1 := h i 1 (by omega) (by omega) (by omega) (by omega)
    have h2 := h i 2 (by omega) (by omega) (by omega) (by omega)
    have h3 := h i 3 (by omega) (by omega) (by omega) (by omega)
    unfold rqL
    rw [h0, h1, h2, h3, ih]
theorem rqA_congr {R R' : Int → Int} {k : Nat} (h : ∀ j w, 0 ≤ j → j < (k : Int) → 0 ≤ w → w < 4 → R (4 * j + w) = R' (4 * j + w)) : ∀ (n : Nat) (l : Int), rqA R k n l = rqA R' k n l
  | 0, _ => rfl
  | n + 1, l => by
    unfold rqA
    rw [rqL_congr k 0 (fun j w a b => h j w a (by omega)), rqA_congr h n (l + 1)]
theorem rqM_at {M : Mem} {n j w : Int} (hn : n ≤ 20) (j0 : 0 ≤ j) (j1 : j < n) (w0 : 0 ≤ w) (w1 : w < 4) : rqM M n 0 26 (4 * j + w) = M 20 (27 * j + w) := by
  unfold rqM
  rw [if_pos (by omega), show (4 * j + w) / 4 = j from by omega, show (4 * j + w) % 4 = w from by omega]
/-! a message cancelled -/
theorem RM_del {ns n c : Int} {S H B S' H' B' C C' : Int → Int} (hG : RG ns n S H B) (hW : RW2 n C S H) (hc : 0 ≤ c ∧ c < n)
    (s1 : ∀ m w, 0 ≤ m → m < c → 0 ≤ w → w < 6 → S' (6 * m + w) = S (6 * m + w)) (s2 : ∀ m w, c ≤ m → m < n - 1 → 0 ≤ w → w < 6 → S' (6 * m + w) = S (6 * (m + 1) + w))
    (h1 : ∀ m j, 0 ≤ m → m < c → 0 ≤ j → j < 21 → H' (21 * m + j) = H (21 * m + j)) (h2 : ∀ m j, c ≤ m → m < n - 1 → 0 ≤ j → j < 21 → H' (21 * m + j) = H (21 * (m + 1) + j))
    (c1 : ∀ m j, 0 ≤ m → m < c → 0 ≤ j → j < 27 → C' (27 * m + j) = C (27 * m + j)) (c2 : ∀ m j, c ≤ m → m < n - 1 → 0 ≤ j → j < 27 → C' (27 * m + j) = C (27 * (m + 1) + j))
    (hB : ∀ i, 0 ≤ i → i < 576 → B' i = if B i = c then -1 else if c < B i then B i - 1 else B i) : RG ns (n - 1) S' H' B' ∧ RW2 (n - 1) C' S' H' := by
  obtain ⟨g1, g2, g3, g4, g5⟩ := hG
  -- the old number of a new one
  have key : ∀ m, 0 ≤ m → m < n - 1 → ∃ o, (0 ≤ o ∧ o < n) ∧ (o = if m < c then m else m + 1) ∧ (∀ w, 0 ≤ w → w < 6 → S' (6 * m + w) = S (6 * o + w)) ∧ (∀ j, 0 ≤ j → j < 21 → H' (21 * m + j) = H (21 * o + j)) ∧ (∀ j, 0 ≤ j → j < 27 → C' (27 * m + j) = C (27 * o + j)) := fun m m0 m1 => by
    by_cases q : m < c
    · exact ⟨m, by omega, by rw [if_pos q], fun w w0 w1 => s1 m w m0 q w0 w1, fun j j0 j1 => h1 m j m0 q j0 j1, fun j j0 j1 => c1 m j m0 q j0 j1⟩
    · exact ⟨m + 1, by omega, by rw [if_neg q], fun w w0 w1 => s2 m w (by omega) m1 w0 w1, fun j j0 j1 => h2 m j (by omega) m1 j0 j1, fun j j0 j1 => c2 m j (by omega) m1 j0 j1⟩
  have bk : ∀ m, 0 ≤ m → m < n - 1 → ∀ i, bkA S' H' m i ↔ bkA S H (if m < c then m else m + 1) i := fun m m0 m1 i => by
    obtain ⟨o, o1, o2, o3, o4, o5⟩ := key m m0 m1
    rw [← o2]
    exact bkP_of (o3 2 (by omega) (by omega)) (o3 5 (by omega) (by omega)) (fun j j0 j1 => o4 j j0 (by have := (g2 o o1.1 o1.2).2.2.2.2.2.2; omega)) i
  refine ⟨⟨by omega, fun m m0 m1 => ?_, fun m k m0 m1 k0 k1 => ?_, fun m m' i m0 m1 m0' m1' q1 q2 => ?_, fun i i0 i1 => ?_⟩, fun m m0 m1 => ?_⟩
  · obtain ⟨o, o1, o2, o3, o4, o5⟩ := key m m0 m1
    have e0 := o3 0 (by omega) (by omega)
    rw [Int.add_zero, Int.add_zero] at e0
    rw [e0, o3 1 (by omega) (by omega), o3 2 (by omega) (by omega), o3 3 (by omega) (by omega), o3 4 (by omega) (by omega), o3 5 (by omega) (by omega)]
    exact g2 o o1.1 o1.2
  · obtain ⟨o, o1, o2, o3, o4, o5⟩ := key m m0 m1
    rw [o3 5 (by omega) (by omega)] at k1
    have h7 := (g2 o o1.1 o1.2).2.2.2.2.2.2
    have := g3 o k o1.1 o1.2 k0 k1
    rw [o3 2 (by omega) (by omega), o4 (3 * k) (by omega) (by omega), show 21 * m + 3 * k + 1 = 21 * m + (3 * k + 1) from by omega, show 21 * m + 3 * k + 2 = 21 * m + (3 * k + 2) from by omega, o4 (3 * k + 1) (by omega) (by omega), o4 (3 * k + 2) (by omega) (by omega)]
    rw [show 21 * o + 3 * k + 1 = 21 * o + (3 * k + 1) from by omega, show 21 * o + 3 * k + 2 = 21 * o + (3 * k + 2) from by omega] at this
    exact this
  · rw [bk m m0 m1 i] at q1
    rw [bk m' m0' m1' i] at q2
    have := g4 _ _ i (by split <;> omega) (by split <;> omega) (by split <;> omega) (by split <;> omega) q1 q2
    split at this <;> split at this <;> omega
  · have d1 := lt_val (S := S) (H := H) (i := i) n.toNat (fun m m' a b c d => g4 m m' i a (by omega) c (by omega))
    have d2 := lt_val (S := S') (H := H') (i := i) (n - 1).toNat (fun m m' a b e f q1 q2 => by
      rw [bk m a (by omega) i] at q1
      rw [bk m' e (by omega) i] at q2
      have := g4 _ _ i (by split <;> omega) (by split <;> omega) (by split <;> omega) (by split <;> omega) q1 q2
      split at this <;> split at this <;> omega)
    rw [hB i i0 i1, g5 i i0 i1]
    by_cases hex : ∃ q, (0 ≤ q ∧ q < n) ∧ bkA S H q i
    · obtain ⟨q, q1, q2⟩ := hex
      rw [d1.1 q q1.1 (by omega) q2]
      by_cases e : q = c
      · rw [if_pos e, d2.2]
        intro m m0 m1 z
        rw [bk m m0 (by omega) i] at z
        have := g4 _ _ i (by split <;> omega) (by split <;> omega) q1.1 q1.2 z q2
        split at this <;> omega
      · rw [if_neg e]
        by_cases e2 : c < q
        · rw [if_pos e2]
          refine (d2.1 (q - 1) (by omega) (by omega) ?_).symm
          rw [bk (q - 1) (by omega) (by omega) i, if_neg (by omega), show q - 1 + 1 = q from by omega]
          exact q2
        · rw [if_neg e2]
          refine (d2.1 q (by omega) (by omega) ?_).symm
          rw [bk q (by omega) (by omega) i, if_pos (by omega)]
          exact q2
    · rw [d1.2 (fun m m0 m1 z => hex ⟨m, ⟨m0, by omega⟩, z⟩), if_neg (by omega), if_neg (by omega), d2.2]
      intro m m0 m1 z
      rw [bk m m0 (by omega) i] at z
      exact hex ⟨_, ⟨by split <;> omega, by split <;> omega⟩, z⟩
  · obtain ⟨o, o1, o2, o3, o4, o5⟩ := key m m0 m1
    obtain ⟨w1, w2⟩ := hW o o1.1 o1.2
    have h7 := (g2 o o1.1 o1.2).2.2.2.2.2.2
    refine ⟨fun w a b => by rw [o5 w a (by omega), o3 w a b]; exact w1 w a b, fun j a b => ?_⟩
    rw [o3 5 (by omega) (by omega)] at b
    rw [show 27 * m + 6 + j = 27 * m + (6 + j) from by omega, o5 (6 + j) (by omega) (by omega), o4 j a (by omega), ← w2 j a b, show 27 * o + 6 + j = 27 * o + (6 + j) from by omega]
