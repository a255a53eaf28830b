theorem RM_add {ns n : Int} {S H B S' H' B' C C' : Int → Int} {a b l t v p : Int} (hG : RG ns n S H B) (hW : RW2 n C S H) (hn : n < 20) (h8 : ns ≤ 8) (ha : 0 ≤ a ∧ a < ns) (hb : 0 ≤ b ∧ b < ns) (hab : a ≠ b) (hl : 1 ≤ l ∧ l ≤ 6) (ht : 0 ≤ t ∧ t ≤ 71) (hv : 0 ≤ v ∧ v ≤ 72) (hp : 0 ≤ p ∧ p ≤ 7)
    (s_old : ∀ m w, 0 ≤ m → m < n → 0 ≤ w → w < 6 → S' (6 * m + w) = S (6 * m + w)) (h_old : ∀ m j, 0 ≤ m → m < n → 0 ≤ j → j < 21 → H' (21 * m + j) = H (21 * m + j)) (c_old : ∀ m w, 0 ≤ m → m < n → 0 ≤ w → w < 27 → C' (27 * m + w) = C (27 * m + w))
    (s_new : S' (6 * n) = a ∧ S' (6 * n + 1) = b ∧ S' (6 * n + 2) = l ∧ S' (6 * n + 3) = t ∧ S' (6 * n + 4) = v ∧ S' (6 * n + 5) = p)
    (c_new : C' (27 * n) = a ∧ C' (27 * n + 1) = b ∧ C' (27 * n + 2) = l ∧ C' (27 * n + 3) = t ∧ C' (27 * n + 4) = v ∧ C' (27 * n + 5) = p)
    (h_new : ∀ k, 0 ≤ k → k < p → ((0 ≤ H' (21 * n + 3 * k) ∧ H' (21 * n + 3 * k) < ns) ∧ (0 ≤ H' (21 * n + 3 * k + 1) ∧ H' (21 * n + 3 * k + 1) < ns) ∧ (0 ≤ H' (21 * n + 3 * k + 2) ∧ H' (21 * n + 3 * k + 2) + l ≤ 72)) ∧ C' (27 * n + 6 + 3 * k) = H' (21 * n + 3 * k) ∧ C' (27 * n + 6 + 3 * k + 1) = H' (21 * n + 3 * k + 1) ∧ C' (27 * n + 6 + 3 * k + 2) = H' (21 * n + 3 * k + 2))
    (free : ∀ k e, 0 ≤ k → k < p → 0 ≤ e → e < l → B (72 * H' (21 * n + 3 * k) + (H' (21 * n + 3 * k + 2) + e)) = -1 ∧ B (72 * H' (21 * n + 3 * k + 1) + (H' (21 * n + 3 * k + 2) + e)) = -1)
    (hB : ∀ i, 0 ≤ i → i < 576 → (bkA S' H' n i → B' i = n) ∧ (¬ bkA S' H' n i → B' i = B i)) : RG ns (n + 1) S' H' B' ∧ RW2 (n + 1) C' S' H' := by
  obtain ⟨g1, g2, g3, g4, g5⟩ := hG
  obtain ⟨s0, s1, s2, s3, s4, s5⟩ := s_new
  have s_old0 : ∀ m, 0 ≤ m → m < n → S' (6 * m) = S (6 * m) := fun m m0 m1 => by
    have := s_old m 0 m0 m1 (by omega) (by omega)
    rw [Int.add_zero] at this; exact this
  have bold : ∀ m, 0 ≤ m → m < n → ∀ i, bkA S' H' m i ↔ bkA S H m i := fun m m0 m1 i =>
    bkP_of (s_old m 2 m0 m1 (by omega) (by omega)) (s_old m 5 m0 m1 (by omega) (by omega)) (fun j j0 j1 => h_old m j m0 m1 j0 (by have := (g2 m m0 m1).2.2.2.2.2.2; omega)) i
  have inr : ∀ m, 0 ≤ m → m < n → ∀ i, bkA S H m i → 0 ≤ i ∧ i < 576 := fun m m0 m1 i => by
    rintro ⟨k, e, a1, a2, a3, a4, a5⟩
    have := g3 m k m0 m1 a1 (by omega)
    rcases a5 with a5 | a5 <;> omega
  have inn : ∀ i, bkA S' H' n i → B i = -1 ∧ 0 ≤ i ∧ i < 576 := fun i => by
    rintro ⟨k, e, a1, a2, a3, a4, a5⟩
    rw [s2] at a3
    rw [s5] at a4
    have h1 := (h_new k a1 (by omega)).1
    have h2 := free k e a1 (by omega) a2 a3
    rcases a5 with a5 | a5
    · rw [a5]; exact ⟨h2.1, by omega, by omega⟩
    · rw [a5]; exact ⟨h2.2, by omega, by omega⟩
  have dis : ∀ m, 0 ≤ m → m < n → ∀ i, bkA S H m i → ¬ bkA S' H' n i := fun m m0 m1 i q1 q2 => by
    have h1 := inr m m0 m1 i q1
    have h2 := (inn i q2).1
    rw [g5 i h1.1 h1.2] at h2
    exact lt_free n.toNat h2 m m0 (by omega) q1
  refine ⟨⟨by omega, fun m m0 m1 => ?_, fun m k m0 m1 k0 k1 => ?_, fun m m' i m0 m1 m0' m1' q1 q2 => ?_, fun i i0 i1 => ?_⟩, fun m m0 m1 => ⟨fun w w0 w1 => ?_, fun j j0 j1 => ?_⟩⟩
  · by_cases q : m = n
    · subst q; rw [s0, s1, s2, s3, s4, s5]; exact ⟨ha, hb, hab, hl, by omega, hv, hp⟩
    · rw [s_old0 m m0 (by omega), s_old m 1 m0 (by omega) (by omega) (by omega), s_old m 2 m0 (by omega) (by omega) (by omega), s_old m 3 m0 (by omega) (by omega) (by omega), s_old m 4 m0 (by omega) (by omega) (by omega), s_old m 5 m0 (by omega) (by omega) (by omega)]
      exact g2 m m0 (by omega)
  · by_cases q : m = n
    · subst q; rw [s5] at k1; rw [s2]; exact (h_new k k0 k1).1
    · rw [s_old m 5 m0 (by omega) (by omega) (by omega)] at k1
      have h7 := (g2 m m0 (by omega)).2.2.2.2.2.2
      rw [s_old m 2 m0 (by omega) (by omega) (by omega), h_old m (3 * k) m0 (by omega) (by omega) (by omega), show 21 * m + 3 * k + 1 = 21 * m + (3 * k + 1) from by omega, show 21 * m + 3 * k + 2 = 21 * m + (3 * k + 2) from by omega, h_old m (3 * k + 1) m0 (by omega) (by omega) (by omega), h_old m (3 * k + 2) m0 (by omega) (by omega) (by omega)]
      have := g3 m k m0 (by omega) k0 k1
      rw [show 21 * m + 3 * k + 1 = 21 * m + (3 * k + 1) from by omega, show 21 * m + 3 * k + 2 = 21 * m + (3 * k + 2) from by omega] at this
      exact this
  · by_cases e1 : m = n
    · by_cases e2 : m' = n
      · omega
      · rw [e1] at q1
        exact absurd q1 (dis m' m0' (by omega) i ((bold m' m0' (by omega) i).mp q2))
    · by_cases e2 : m' = n
      · rw [e2] at q2
        exact absurd q2 (dis m m0 (by omega) i ((bold m m0 (by omega) i).mp q1))
      · exact g4 m m' i m0 (by omega) m0' (by omega) ((bold m m0 (by omega) i).mp q1) ((bold m' m0' (by omega) i).mp q2)
  · have e : (n + 1).toNat = n.toNat + 1 := by omega
    have en : ((n.toNat : Nat) : Int) = n := by omega
    rw [e]
    obtain ⟨b1, b2⟩ := hB i i0 i1
    by_cases q : bkA S' H' n i
    · rw [b1 q]
      unfold ltF
      rw [en, if_pos q]
    · rw [b2 q, g5 i i0 i1]
      have e2 : ltF (fun _ => -1) S' H' (n.toNat + 1) i = ltF (fun _ => -1) S' H' n.toNat i := by
        conv => lhs; unfold ltF
        rw [en, if_neg q]
      rw [e2]
      exact (ltF_of n.toNat (fun m m0 m1 => bold m m0 (by omega) i)).symm
  · by_cases q : m = n
    · subst q
      obtain ⟨c0, c1, c2, c3, c4, c5⟩ := c_new
      have hc : w = 0 ∨ w = 1 ∨ w = 2 ∨ w = 3 ∨ w = 4 ∨ w = 5 := by omega
      rcases hc with rfl | rfl | rfl | rfl | rfl | rfl
      · rw [Int.add_zero, Int.add_zero, c0, s0]
      · rw [c1, s1]
      · rw [c2, s2]
      · rw [c3, s3]
      · rw [c4, s4]
      · rw [c5, s5]
    · rw [c_old m w m0 (by omega) w0 (by omega), s_old m w m0 (by omega) w0 w1]
      exact (hW m m0 (by omega)).1 w w0 w1
  · by_cases q : m = n
    · subst q
      rw [s5] at j1
      obtain ⟨-, d1, d2, d3⟩ := h_new (j / 3) (by omega) (by omega)
      have hc : j = 3 * (j / 3) ∨ j = 3 * (j / 3) + 1 ∨ j = 3 * (j / 3) + 2 := by omega
      generalize j / 3 = k at d1 d2 d3 hc
      rcases hc with hc | hc | hc
      · rw [hc]; exact d1
      · rw [hc, show 27 * m + 6 + (3 * k + 1) = 27 * m + 6 + 3 * k + 1 from by omega, show 21 * m + (3 * k + 1) = 21 * m + 3 * k + 1 from by omega]; exact d2
      · rw [hc, show 27 * m + 6 + (3 * k + 2) = 27 * m + 6 + 3 * k + 2 from by omega, show 21 * m + (3 * k + 2) = 21 * m + 3 * k + 2 from by omega]; exact d3
    · rw [s_old m 5 m0 (by omega) (by omega) (by omega)] at j1
      have h7 := (g2 m m0 (by omega)).2.2.2.2.2.2
      rw [show 27 * m + 6 + j = 27 * m + (6 + j) from by omega, c_old m (6 + j) m0 (by omega) (by omega) (by omega), h_old m j m0 (by omega) j0 (by omega), ← (hW m m0 (by omega)).2 j j0 j1, show 27 * m + 6 + j = 27 * m + (6 + j) from by omega]
theorem ee3 {X : Mem} (h : RR X) {H B : Int → Int} {l u v s : Int} (hH : H (8 * u + v) = hpC X u v) (hB : B = X 21) (hl : 1 ≤ l) (hu : 0 ≤ u ∧ u < X 7 3) (hv : 0 ≤ v ∧ v < X 7 3) (hs : 0 ≤ s ∧ s ≤ 72) : EE H B l u v s = ERm X l u v s := by
  rw [← h.ee hl hu hv hs]
  have hn := h.ns
  refine eeT_congr hl _ _ _ (fun t t0 t1 => ?_)
  have q : lkM X (hpC X) (X 7 3) (X 7 3) 0 23 (8 * u + v) = hpC X u v := by
    unfold lkM
    rw [if_pos (by omega), show (8 * u + v) / 8 = u from by omega, show (8 * u + v) % 8 = v from by omega]
  show (bitP (H (8 * u + v)) (6 + t / 6) ∧ B (72 * u + t) = -1 ∧ B (72 * v + t) = -1) ↔ (bitP (lkM X (hpC X) (X 7 3) (X 7 3) 0 23 (8 * u + v)) (6 + t / 6) ∧ X 21 (72 * u + t) = -1 ∧ X 21 (72 * v + t) = -1)
  rw [q, hH, hB]
def CC (C : Mem) : Prop := ∀ u v, 0 ≤ u → u < C 7 3 → 0 ≤ v → v < C 7 3 → C 23 (8 * u + v) = hpC C u v
theorem entE_20 (X : Mem) (m a b l t v j : Int) : entE X m a b l t v 20 j = if j = 27 * m + 5 then 0 else if j = 27 * m + 4 then v else if j = 27 * m + 3 then t else if j = 27 * m + 2 then l else if j = 27 * m + 1 then b else if j = 27 * m then a else X 20 j := by
  simp only [entE, upM]; grind
theorem post_sim {C Y C1 Y1 : Mem} {a b l t r s : Int} (hZ : RR (mix C Y)) (hC : CC C) (ha : 0 ≤ a ∧ a < C 7 3) (hb : 0 ≤ b ∧ b < C 7 3) (hab : a ≠ b) (hl : 1 ≤ l ∧ l ≤ 6) (ht : 0 ≤ t ∧ t ≤ 71) (hm : C 19 2 < 20) (hc : PostR C a b l t r C1) (hy : PostS Y a b l t s Y1) :
    RR (mix C1 Y1) ∧ ((s = 0 ∧ r = -1 ∧ C1 19 2 = C 19 2) ∨ (s = 1 ∧ r = Y1 36 (6 * Y1 27 11 - 2) ∧ C1 19 2 = C 19 2 + 1 ∧ 0 ≤ r ∧ r ≤ 72)) := by
  have hn : 0 ≤ C 7 3 ∧ C 7 3 ≤ 8 := hZ.ns
  have hns : Y 27 2 = C 7 3 := hZ.ens
  have hmm : Y 27 11 = C 19 2 := hZ.2.2.2.2.1
  have hG : RG (C 7 3) (C 19 2) (Y 36) (Y 37) (C 21) := hZ.2.2.2.2.2.1
  have hW : RW2 (C 19 2) (C 20) (Y 36) (Y 37) := hZ.2.2.2.2.2.2
  have hpe : hpC (mix C Y) = hpC C := hpC_of rfl rfl rfl rfl rfl rfl rfl rfl rfl rfl rfl
  have hE : ∀ u v q, 0 ≤ u → u < C 7 3 → 0 ≤ v → v < C 7 3 → 0 ≤ q → q ≤ 72 → EFm C l u v q = ERm (mix C Y) l u v q := fun u v q u0 u1 v0 v1 q0 q1 =>
    ee3 (X := mix C Y) hZ (by rw [hpe]; exact hC u v u0 u1 v0 v1) rfl hl.1 ⟨u0, u1⟩ ⟨v0, v1⟩ ⟨q0, q1⟩
  have hE8 : ∀ u v q, 0 ≤ u → u < C 7 3 → 0 ≤ v → v < C 7 3 → 0 ≤ q → q ≤ 72 → ERm Y l u v q = ERm (mix C Y) l u v q := fun u v q u0 u1 v0 v1 q0 q1 =>
    ER_of (gvR_of rfl rfl rfl rfl rfl rfl rfl rfl rfl rfl) (lt0_of rfl rfl rfl) hl.1 ⟨u0, by omega⟩ ⟨v0, by omega⟩ q0
  have main : ∀ fc fy : Int → Int, ArrOK (EFm C l) (C 7 3) a t fc → ArrOK (ERm Y l) (Y 27 2) a t fy → ∀ v, 0 ≤ v → v < C 7 3 → fc v = fy v := fun fc fy h1 h2 v v0 v1 => by
    rw [hns] at h2
    exact ArrOK.uniq (ER_ok _ _ hl.1 _) ht.1 (h1.congr ht.1 hE) (h2.congr ht.1 hE8) v v0 v1
  rcases hc with ⟨fc, ⟨c1, c2⟩, cr, rfl⟩ | ⟨fc, gc, pc, ⟨c1, c2, c3⟩, cr, rfl⟩
  · rcases hy with ⟨fy, ⟨y1, y2⟩, yr, rfl⟩ | ⟨fy, gy, py, ⟨y1, y2, y3⟩, yr, rfl⟩
    · exact ⟨hZ.of rfl rfl rfl rfl rfl rfl rfl rfl rfl rfl rfl rfl rfl rfl rfl rfl rfl rfl rfl rfl rfl rfl rfl rfl rfl rfl rfl rfl rfl rfl rfl rfl, Or.inl ⟨yr, cr, rfl⟩⟩
    · exact absurd c2 (by rw [main fc fy c1 y1 b hb.1 hb.2]; exact y2)
  · rcases hy with ⟨fy, ⟨y1, y2⟩, yr, rfl⟩ | ⟨fy, gy, py, ⟨y1, y2, y3⟩, yr, rfl⟩
    · exact absurd y2 (by rw [← main fc fy c1 y1 b hb.1 hb.2]; exact c2)
    · have hf := main fc fy c1 y1
      have hfb := hf b hb.1 hb.2
      have c1z : ArrOK (ERm (mix C Y) l) (C 7 3) a t fc := c1.congr ht.1 hE
      have w1 : RW (C 7 3) a b (ERm (mix C Y) l) fc (fun j => gc (7 - j)) (7 - pc) := c3.rw.congr c1 ht.1 hE (fun _ _ _ => rfl)
      have y1' := y1
      have y3' := y3
      rw [hns] at y1' y3'
      have w2 : RW (C 7 3) a b (ERm (mix C Y) l) fc gy py := y3'.congr y1' ht.1 hE8 (fun v v0 v1 => (hf v v0 v1).symm)
      obtain ⟨ep, eg⟩ := w2.uniq w1
      replace eg : ∀ j, 0 ≤ j → j ≤ py → gy j = gc (7 - j) := eg
      have hpp := y3.1
      have hat := fun {j : Int} (j0 : 0 ≤ j) (j1 : j < py) => RW.at (l := l) c1z w2 ht.1 (fun u v q q0 q1 => eeT_len _ hl.1 q0 q1) j0 j1
      have hbd := c1.2.1 b hb.1 hb.2
      -- the class's rows
      have hh20 := hpT_20 (C 19 2) l (7 - pc).toNat (pc + 1) 0 (entE (rtM (arM (upM C 22 7 l) fc) gc) (C 19 2) a b l t (fc b)) (by omega)
      have e25 : entE (rtM (arM (upM C 22 7 l) fc) gc) (C 19 2) a b l t (fc b) 25 = gc := by rw [ent_k _ _ _ _ _ _ _ (by decide) (by decide)]; rfl
      have e24 : entE (rtM (arM (upM C 22 7 l) fc) gc) (C 19 2) a b l t (fc b) 24 = fc := by rw [ent_k _ _ _ _ _ _ _ (by decide) (by decide)]; rfl
      have e21 : entE (rtM (arM (upM C 22 7 l) fc) gc) (C 19 2) a b l t (fc b) 21 = C 21 := by rw [ent_k _ _ _ _ _ _ _ (by decide) (by decide)]; rfl
      have e20 : ∀ j, entE (rtM (arM (upM C 22 7 l) fc) gc) (C 19 2) a b l t (fc b) 20 j = if j = 27 * C 19 2 + 5 then 0 else if j = 27 * C 19 2 + 4 then fc b else if j = 27 * C 19 2 + 3 then t else if j = 27 * C 19 2 + 2 then l else if j = 27 * C 19 2 + 1 then b else if j = 27 * C 19 2 then a else C 20 j := fun j => entE_20 _ _ _ _ _ _ _ j
      have hh21 := hpT_21 (C 19 2) l (7 - pc).toNat (pc + 1) 0 (entE (rtM (arM (upM C 22 7 l) fc) gc) (C 19 2) a b l t (fc b))
      rw [e25, e24] at hh20
      rw [e25, e24, e21] at hh21
      have ent19 : hpT (C 19 2) l (7 - pc).toNat (pc + 1) 0 (entE (rtM (arM (upM C 22 7 l) fc) gc) (C 19 2) a b l t (fc b)) 19 2 = C 19 2 + 1 := by rw [hp_k _ _ (by decide) (by decide)]; rfl
      obtain ⟨k1, k2, k3⟩ := hh20
      have hK : ∀ k : Nat, k ≠ 19 → k ≠ 20 → k ≠ 21 → k ≠ 22 → k ≠ 24 → k ≠ 25 → hpT (C 19 2) l (7 - pc).toNat (pc + 1) 0 (entE (rtM (arM (upM C 22 7 l) fc) gc) (C 19 2) a b l t (fc b)) k = C k := fun k h1 h2 h3 h4 h5 h6 => by
        rw [hp_k _ _ h2 h3, ent_k _ _ _ _ _ _ _ h2 h1]
        funext j; simp only [rtM, arM, upM]; grind
      generalize hpT (C 19 2) l (7 - pc).toNat (pc + 1) 0 (entE (rtM (arM (upM C 22 7 l) fc) gc) (C 19 2) a b l t (fc b)) = C1 at k1 k2 k3 hh21 ent19 hK ⊢
      generalize entE (rtM (arM (upM C 22 7 l) fc) gc) (C 19 2) a b l t (fc b) = X0 at e20 k1 k2
      have hgk : ∀ k, 0 ≤ k → k < py → gc (pc + 1 + k - 1) = gy (py - k) ∧ gc (pc + 1 + k) = gy (py - k - 1) := fun k h0 h1 => by
        rw [eg (py - k) (by omega) (by omega), eg (py - k - 1) (by omega) (by omega)]
        exact ⟨by congr 1; omega, by congr 1; omega⟩
      have hsn := fun {k : Int} (h0 : 0 ≤ k) (h1 : k < py) => snt_h0 Y a b l t fy gy py h0 h1
      have hs36 := snt_36 Y a b l t fy gy py
      have hs37 := snt_37 Y a b l t fy gy py
      have hyn := snt_n Y a b l t fy gy py
      have hyk := fun {k : Nat} h1 h2 h3 h4 h5 h6 h7 => snt_k Y a b l t fy gy py (k := k) h1 h2 h3 h4 h5 h6 h7
      have hy27 := fun {j : Int} hj => snt_27 Y a b l t fy gy py (j := j) hj
      generalize sntM Y a b l t fy gy py = Y1 at hsn hs36 hs37 hyn hyk hy27 ⊢
      rw [hmm] at hsn hs36 hs37 hyn
      have n0 := hG.1
      have sn5 : Y1 36 (6 * C 19 2 + 5) = py := by rw [hs36, if_pos rfl]
      have sn4 : Y1 36 (6 * C 19 2 + 4) = fc b := by rw [hs36, if_neg (by omega), if_pos rfl, hfb]
      have sn3 : Y1 36 (6 * C 19 2 + 3) = t := by rw [hs36, if_neg (by omega), if_neg (by omega), if_pos rfl]
      have sn2 : Y1 36 (6 * C 19 2 + 2) = l := by rw [hs36, if_neg (by omega), if_neg (by omega), if_neg (by omega), if_pos rfl]
      have sn1 : Y1 36 (6 * C 19 2 + 1) = b := by rw [hs36, if_neg (by omega), if_neg (by omega), if_neg (by omega), if_neg (by omega), if_pos rfl]
      have sn0 : Y1 36 (6 * C 19 2) = a := by rw [hs36, if_neg (by omega), if_neg (by omega), if_neg (by omega), if_neg (by omega), if_neg (by omega), if_pos rfl]
      have hvals : ∀ k, 0 ≤ k → k < py → ((0 ≤ Y1 37 (21 * C 19 2 + 3 * k) ∧ Y1 37 (21 * C 19 2 + 3 * k) < C 7 3) ∧ (0 ≤ Y1 37 (21 * C 19 2 + 3 * k + 1) ∧ Y1 37 (21 * C 19 2 + 3 * k + 1) < C 7 3) ∧ (0 ≤ Y1 37 (21 * C 19 2 + 3 * k + 2) ∧ Y1 37 (21 * C 19 2 + 3 * k + 2) + l ≤ 72)) ∧ C1 20 (27 * C 19 2 + 6 + 3 * k) = Y1 37 (21 * C 19 2 + 3 * k) ∧ C1 20 (27 * C 19 2 + 6 + 3 * k + 1) = Y1 37 (21 * C 19 2 + 3 * k + 1) ∧ C1 20 (27 * C 19 2 + 6 + 3 * k + 2) = Y1 37 (21 * C 19 2 + 3 * k + 2) := fun k h0 h1 => by
        obtain ⟨q1, q2, q3⟩ := hsn h0 h1
        have ha1 := hat (j := py - k - 1) (by omega) (by omega)
        rw [show py - k - 1 + 1 = py - k from by omega] at ha1
        have hv := hf (gy (py - k - 1)) ha1.1.1 ha1.1.2
        obtain ⟨r1, r2, r3⟩ := k3 k h0 (by omega)
        obtain ⟨g1, g2⟩ := hgk k h0 h1
        rw [show (0 : Int) + k = k from by omega, g1] at r1
        rw [show (0 : Int) + k = k from by omega, g2] at r2
        rw [show (0 : Int) + k = k from by omega, g2] at r3
        rw [q1, q2, q3, r1, r2, r3, ← hv]
        exact ⟨⟨ha1.2.1, ha1.1, by omega⟩, rfl, rfl, rfl⟩
      have hadd := RM_add (S' := Y1 36) (H' := Y1 37) (B' := C1 21) (C' := C1 20) (v := fc b) (p := py) hG hW hm hn.2 ha hb hab hl ht (by omega) hpp
        (fun m w m0 m1 w0 w1 => by rw [hs36, if_neg (by omega), if_neg (by omega), if_neg (by omega), if_neg (by omega), if_neg (by omega), if_neg (by omega)])
        (fun m j m0 m1 j0 j1 => by rw [hs37, if_neg (by omega)])
        (fun m w m0 m1 w0 w1 => by rw [k1 _ (by omega) (by omega), e20, if_neg (by omega), if_neg (by omega), if_neg (by omega), if_neg (by omega), if_neg (by omega), if_neg (by omega)])
        ⟨sn0, sn1, sn2, sn3, sn4, sn5⟩
        ⟨by rw [k1 _ (by omega) (by omega), e20, if_neg (by omega), if_neg (by omega), if_neg (by omega), if_neg (by omega), if_neg (by omega), if_pos rfl],
         by rw [k1 _ (by omega) (by omega), e20, if_neg (by omega), if_neg (by omega), if_neg (by omega), if_neg (by omega), if_pos rfl],
         by rw [k1 _ (by omega) (by omega), e20, if_neg (by omega), if_neg (by omega), if_neg (by omega), if_pos rfl],
         by rw [k1 _ (by omega) (by omega), e20, if_neg (by omega), if_neg (by omega), if_pos rfl],
         by rw [k1 _ (by omega) (by omega), e20, if_neg (by omega), if_pos rfl],
         by
          rw [k2]
          by_cases q : (7 - pc).toNat = 0
          · rw [if_pos q, e20, if_pos rfl]; omega
          · rw [if_neg q]; omega⟩
        hvals
        (fun k e h0 h1 e0 e1 => by
          obtain ⟨q1, q2, q3⟩ := hsn h0 h1
          have ha1 := hat (j := py - k - 1) (by omega) (by omega)
          rw [show py - k - 1 + 1 = py - k from by omega] at ha1
          have hv := hf (gy (py - k - 1)) ha1.1.1 ha1.1.2
          rw [q1, q2, q3, ← hv]
          have hE2 := hE (gy (py - k)) (gy (py - k - 1)) (fc (gy (py - k))) ha1.2.1.1 ha1.2.1.2 ha1.1.1 ha1.1.2 (by omega) (by omega)
          have hEE : EFm C l (gy (py - k)) (gy (py - k - 1)) (fc (gy (py - k))) = fc (gy (py - k - 1)) := by rw [hE2]; exact ha1.2.2.1.2
          have hfr := eeT_free (okC (C 23) (C 21) (gy (py - k)) (gy (py - k - 1))) hl.1 (72 - fc (gy (py - k))).toNat (fc (gy (py - k))) 0 (by omega) (by omega) (by omega) (by show EFm C l (gy (py - k)) (gy (py - k - 1)) (fc (gy (py - k))) ≠ -1; rw [hEE]; exact ha1.2.2.2.1) (fc (gy (py - k - 1)) - l + e) (by omega) (by show EFm C l (gy (py - k)) (gy (py - k - 1)) (fc (gy (py - k))) - l ≤ _; rw [hEE]; omega) (by show _ < EFm C l (gy (py - k)) (gy (py - k - 1)) (fc (gy (py - k))); rw [hEE]; omega)
          exact hfr.2)
        (fun i i0 i1 => by
          obtain ⟨t1, t2⟩ := hh21 i
          have hiff : bkA (Y1 36) (Y1 37) (C 19 2) i ↔ ∃ k, (0 ≤ k ∧ k < ((7 - pc).toNat : Int)) ∧ ((72 * gc (pc + 1 + k - 1) + (fc (gc (pc + 1 + k)) - l) ≤ i ∧ i < 72 * gc (pc + 1 + k - 1) + (fc (gc (pc + 1 + k)) - l + l)) ∨ (72 * gc (pc + 1 + k) + (fc (gc (pc + 1 + k)) - l) ≤ i ∧ i < 72 * gc (pc + 1 + k) + (fc (gc (pc + 1 + k)) - l + l))) := by
            unfold bkA bkP bkE
            rw [sn2, sn5]
            have hval : ∀ k, 0 ≤ k → k < py → Y1 37 (21 * C 19 2 + 3 * k) = gy (py - k) ∧ Y1 37 (21 * C 19 2 + 3 * k + 1) = gy (py - k - 1) ∧ Y1 37 (21 * C 19 2 + 3 * k + 2) = fc (gy (py - k - 1)) - l := fun k h0 h1 => by
              obtain ⟨q1, q2, q3⟩ := hsn h0 h1
              have ha1 := hat (j := py - k - 1) (by omega) (by omega)
              have hv := hf (gy (py - k - 1)) ha1.1.1 ha1.1.2
              rw [q1, q2, q3, hv]; exact ⟨rfl, rfl, rfl⟩
            constructor
            · rintro ⟨k, e, a1, a2, a3, a4, a5⟩
              obtain ⟨v1, v2, v3⟩ := hval k a1 (by omega)
              obtain ⟨g1, g2⟩ := hgk k a1 (by omega)
              rw [v1, v2, v3] at a5
              refine ⟨k, by omega, ?_⟩
              rw [g1, g2]
              omega
            · rintro ⟨k, hk, hh⟩
              obtain ⟨v1, v2, v3⟩ := hval k hk.1 (by omega)
              obtain ⟨g1, g2⟩ := hgk k hk.1 (by omega)
              rw [g1, g2] at hh
              rcases hh with hh | hh
              · refine ⟨k, i - (72 * gy (py - k) + (fc (gy (py - k - 1)) - l)), hk.1, by omega, by omega, by omega, Or.inl ?_⟩
                rw [v1, v3]; omega
              · refine ⟨k, i - (72 * gy (py - k - 1) + (fc (gy (py - k - 1)) - l)), hk.1, by omega, by omega, by omega, Or.inr ?_⟩
                rw [v2, v3]; omega
          exact ⟨fun q => t1 (hiff.mp q), fun q => t2 (fun z => q (hiff.mpr z))⟩)
      refine ⟨⟨hZ.1.of ?_ ?_, hZ.2.1.of ?_ ?_ ?_ ?_ ?_ ?_ ?_ ?_, hZ.2.2.1.of ?_ ?_ ?_ ?_ ?_ ?_ ?_ ?_ ?_ ?_ ?_ ?_, hZ.2.2.2.1.of ?_ ?_ ?_ ?_, ?_⟩, Or.inr ⟨yr, ?_, ent19, ?_, ?_⟩⟩
      case refine_27 =>
        show Y1 27 11 = C1 19 2 ∧ RG (C1 7 3) (C1 19 2) (Y1 36) (Y1 37) (C1 21) ∧ RW2 (C1 19 2) (C1 20) (Y1 36) (Y1 37)
        rw [ent19, hK 7 (by decide) (by decide) (by decide) (by decide) (by decide) (by decide)]
        exact ⟨hyn, hadd⟩
      case refine_28 => rw [hyn, cr, show 6 * (C 19 2 + 1) - 2 = 6 * C 19 2 + 4 from by omega, sn4]
      case refine_29 => omega
      case refine_30 => omega
      all_goals first
        | exact hy27 (by decide)
        | exact hyk (by decide) (by decide) (by decide) (by decide) (by decide) (by decide) (by decide)
        | exact hK _ (by decide) (by decide) (by decide) (by decide) (by decide) (by decide)
        | exact congrFun (hK _ (by decide) (by decide) (by decide) (by decide) (by decide) (by decide)) _
