/-! how class and reference stand to each other -/
def RTr (M : Mem) : Prop := TInv M ∧ M 28 = M 2
def RS (M : Mem) : Prop := SInv M ∧ M 27 2 = M 7 3 ∧ M 29 = M 8 ∧ M 30 = M 9 ∧ M 31 = M 10
def ckR (M : Mem) (j : Int) : Prop := (0 ≤ M 32 j ∧ M 32 j < 144) ∧ (0 ≤ M 33 j ∧ M 33 j < 144) ∧ M 12 j = imin (M 32 j % 12) (M 33 j % 12) ∧ M 13 j = imax (M 32 j % 12) (M 33 j % 12) ∧ M 14 j = imin (M 32 j / 12) (M 33 j / 12) ∧ M 15 j = imax (M 32 j / 12) (M 33 j / 12) ∧ M 16 j = M 34 j ∧ M 17 j = M 35 j
def RK (M : Mem) : Prop := KInv M ∧ M 27 6 = M 11 6 ∧ ∀ j, 0 ≤ j → j < M 11 6 → ckR M j
def RX (M : Mem) : Prop := (0 ≤ M 3 3 ∧ M 3 3 ≤ 40) ∧ (∀ i, 0 ≤ i → i < M 3 3 → 33 ≤ M 4 i ∧ M 4 i ≤ 126) ∧ M 27 14 = M 3 3 ∧ M 38 = M 4
abbrev bkA (S H : Int → Int) (m i : Int) : Prop := bkP S H m (S (6 * m + 5)) 0 i
/-- messages: rows, routes, turns -/
def RG (ns : Int) (n : Int) (S H B : Int → Int) : Prop :=
  (0 ≤ n ∧ n ≤ 20) ∧
  (∀ m, 0 ≤ m → m < n → (0 ≤ S (6 * m) ∧ S (6 * m) < ns) ∧ (0 ≤ S (6 * m + 1) ∧ S (6 * m + 1) < ns) ∧ S (6 * m) ≠ S (6 * m + 1) ∧ (1 ≤ S (6 * m + 2) ∧ S (6 * m + 2) ≤ 6) ∧ (0 ≤ S (6 * m + 3) ∧ S (6 * m + 3) < 72) ∧ (0 ≤ S (6 * m + 4) ∧ S (6 * m + 4) ≤ 72) ∧ (0 ≤ S (6 * m + 5) ∧ S (6 * m + 5) ≤ 7)) ∧
  (∀ m k, 0 ≤ m → m < n → 0 ≤ k → k < S (6 * m + 5) → (0 ≤ H (21 * m + 3 * k) ∧ H (21 * m + 3 * k) < ns) ∧ (0 ≤ H (21 * m + 3 * k + 1) ∧ H (21 * m + 3 * k + 1) < ns) ∧ (0 ≤ H (21 * m + 3 * k + 2) ∧ H (21 * m + 3 * k + 2) + S (6 * m + 2) ≤ 72)) ∧
  (∀ m m' i, 0 ≤ m → m < n → 0 ≤ m' → m' < n → bkA S H m i → bkA S H m' i → m = m') ∧
  (∀ i, 0 ≤ i → i < 576 → B i = ltF (fun _ => -1) S H n.toNat i)
/-- the class's rows are the reference's -/
def RW2 (n : Int) (C S H : Int → Int) : Prop := ∀ m, 0 ≤ m → m < n → (∀ w, 0 ≤ w → w < 6 → C (27 * m + w) = S (6 * m + w)) ∧ ∀ j, 0 ≤ j → j < 3 * S (6 * m + 5) → C (27 * m + 6 + j) = H (21 * m + j)
def RM (M : Mem) : Prop := M 27 11 = M 19 2 ∧ RG (M 7 3) (M 19 2) (M 36) (M 37) (M 21) ∧ RW2 (M 19 2) (M 20) (M 36) (M 37)
def RR (M : Mem) : Prop := RTr M ∧ RS M ∧ RK M ∧ RX M ∧ RM M
theorem RTr.of {X Y : Mem} (h : RTr X) (h1 : Y 2 = X 2) (h2 : Y 28 = X 28) : RTr Y := by
  unfold RTr TInv at h ⊢; rw [h1, h2]; exact h
theorem RS.of {X Y : Mem} (h : RS X) (h1 : Y 7 3 = X 7 3) (h2 : Y 8 = X 8) (h3 : Y 9 = X 9) (h4 : Y 10 = X 10) (h5 : Y 27 2 = X 27 2) (h6 : Y 29 = X 29) (h7 : Y 30 = X 30) (h8 : Y 31 = X 31) : RS Y := by
  unfold RS SInv at h ⊢; rw [h1, h2, h3, h4, h5, h6, h7, h8]; exact h
theorem RK.of {X Y : Mem} (h : RK X) (h1 : Y 11 6 = X 11 6) (h2 : Y 12 = X 12) (h3 : Y 13 = X 13) (h4 : Y 14 = X 14) (h5 : Y 15 = X 15) (h6 : Y 16 = X 16) (h7 : Y 17 = X 17) (h8 : Y 27 6 = X 27 6) (h9 : Y 32 = X 32) (h10 : Y 33 = X 33) (h11 : Y 34 = X 34) (h12 : Y 35 = X 35) : RK Y := by
  unfold RK KInv ckR at h ⊢; rw [h1, h2, h3, h4, h5, h6, h7, h8, h9, h10, h11, h12]; exact h
theorem RX.of {X Y : Mem} (h : RX X) (h1 : Y 3 3 = X 3 3) (h2 : Y 4 = X 4) (h3 : Y 27 14 = X 27 14) (h4 : Y 38 = X 38) : RX Y := by
  unfold RX at h ⊢; rw [h1, h2, h3, h4]; exact h
theorem RM.of {X Y : Mem} (h : RM X) (h1 : Y 7 3 = X 7 3) (h2 : Y 19 2 = X 19 2) (h3 : Y 20 = X 20) (h4 : Y 21 = X 21) (h5 : Y 27 11 = X 27 11) (h6 : Y 36 = X 36) (h7 : Y 37 = X 37) : RM Y := by
  unfold RM at h ⊢; rw [h1, h2, h3, h4, h5, h6, h7]; exact h
theorem RW2.at {n : Int} {C S H : Int → Int} (h : RW2 n C S H) {m : Int} (m0 : 0 ≤ m) (m1 : m < n) : C (27 * m) = S (6 * m) ∧ C (27 * m + 1) = S (6 * m + 1) ∧ C (27 * m + 2) = S (6 * m + 2) ∧ C (27 * m + 3) = S (6 * m + 3) ∧ C (27 * m + 4) = S (6 * m + 4) ∧ C (27 * m + 5) = S (6 * m + 5) := by
  obtain ⟨h1, -⟩ := h m m0 m1
  have h0 := h1 0 (by omega) (by omega)
  rw [Int.add_zero, Int.add_zero] at h0
  exact ⟨h0, h1 1 (by omega) (by omega), h1 2 (by omega) (by omega), h1 3 (by omega) (by omega), h1 4 (by omega) (by omega), h1 5 (by omega) (by omega)⟩
section RRF
variable {M : Mem}
theorem RR.tj (h : RR M) : TJ M := by have := h.1; unfold RTr TInv at this; unfold TJ; rw [this.2]; exact this.1
theorem RR.sj (h : RR M) : SJ M := by
  obtain ⟨h1, h2, h3, h4, h5⟩ := h.2.1
  unfold SInv at h1; unfold SJ; rw [h2, h3, h4, h5]; exact h1
theorem RR.kj (h : RR M) : KJ M := by
  obtain ⟨h1, h2, h3⟩ := h.2.2.1
  refine ⟨by rw [h2]; exact h1.1, fun i i0 i1 => ?_⟩
  rw [h2] at i1
  obtain ⟨a1, a2, a3, a4, a5, a6, a7, a8⟩ := h3 i i0 i1
  have := h1.2 i i0 i1
  rw [← a7, ← a8]
  exact ⟨a1, a2, this.2.2.2.2.1, this.2.2.2.2.2⟩
theorem RR.ns (h : RR M) : 0 ≤ M 7 3 ∧ M 7 3 ≤ 8 := h.2.1.1.1
theorem RR.gj (h : RR M) : GJ M := by
  obtain ⟨h1, ⟨g1, g2, g3, -, -⟩, -⟩ := h.2.2.2.2
  have hn := h.ns
  unfold GJ
  rw [h1]
  refine ⟨g1, fun m m0 m1 => ?_, fun m k m0 m1 k0 k1 => ?_⟩
  · have := g2 m m0 m1; omega
  · have := g3 m k m0 m1 k0 k1; omega
theorem RR.np (h : RR M) : NPJ M := ⟨h.tj, h.sj, h.kj, h.gj⟩
theorem RR.bk (h : RR M) : BKI M := by
  obtain ⟨h1, ⟨g1, -, -, -, g5⟩, -⟩ := h.2.2.2.2
  intro i i0 i1
  have := ltF_bd (b := fun _ => -1) (S := M 36) (H := M 37) (i := i) rfl (M 19 2).toNat
  rw [g5 i i0 i1]
  omega
theorem RR.gi (h : RR M) : GInv M := by
  obtain ⟨h1, ⟨g1, g2, -, -, -⟩, w⟩ := h.2.2.2.2
  have hn := h.ns
  refine ⟨g1, fun m m0 m1 => ?_, h.bk⟩
  obtain ⟨a0, a1, a2, a3, a4, a5⟩ := RW2.at w m0 m1
  have := g2 m m0 m1
  rw [a0, a1, a2, a3, a4, a5]
  omega
theorem RR.hi (h : RR M) : HInv M := by
  obtain ⟨h1, ⟨g1, g2, g3, -, -⟩, w⟩ := h.2.2.2.2
  have hn := h.ns
  intro m k m0 m1 k0 k1
  obtain ⟨a0, a1, a2, a3, a4, a5⟩ := RW2.at w m0 m1
  rw [a5] at k1
  have hw := (w m m0 m1).2
  have e0 := hw (3 * k) (by omega) (by omega)
  have e1 := hw (3 * k + 1) (by omega) (by omega)
  have e2 := hw (3 * k + 2) (by omega) (by omega)
  have := g3 m k m0 m1 k0 k1
  rw [show 27 * m + 6 + 3 * k + 1 = 27 * m + 6 + (3 * k + 1) from by omega, show 27 * m + 6 + 3 * k + 2 = 27 * m + 6 + (3 * k + 2) from by omega, e0, e1, e2, a2]
  rw [show 21 * m + (3 * k + 1) = 21 * m + 3 * k + 1 from by omega, show 21 * m + (3 * k + 2) = 21 * m + 3 * k + 2 from by omega]
  omega
theorem RR.sv (h : RR M) : SV M := by
  obtain ⟨h1, ⟨g1, g2, -, -, -⟩, -⟩ := h.2.2.2.2
  intro m m0 m1
  rw [h1] at m1
  have := g2 m m0 m1
  rw [h.2.1.2.1]
  omega
theorem RR.lt (h : RR M) {i : Int} (i0 : 0 ≤ i) (i1 : i < 576) : M 21 i = lt0 M i := by
  obtain ⟨h1, ⟨-, -, -, -, g5⟩, -⟩ := h.2.2.2.2
  unfold lt0
  rw [h1]
  exact g5 i i0 i1
theorem RR.cv (h : RR M) {c hr : Int} : cvC M c hr ↔ cvR M c hr := by
  obtain ⟨h1, h2, h3⟩ := h.2.2.1
  unfold cvC cvR
  constructor
  · rintro ⟨j, j0, j1, hc⟩
    obtain ⟨a1, a2, a3, a4, a5, a6, a7, a8⟩ := h3 j j0 j1
    refine ⟨j, ⟨j0, by rw [h2]; exact j1⟩, ?_⟩
    unfold cov at hc
    unfold covR
    rw [a3, a4, a5, a6, a7, a8] at hc
    omega
  · rintro ⟨j, ⟨j0, j1⟩, hc⟩
    rw [h2] at j1
    obtain ⟨a1, a2, a3, a4, a5, a6, a7, a8⟩ := h3 j j0 j1
    refine ⟨j, j0, j1, ?_⟩
    unfold covR at hc
    unfold cov
    rw [a3, a4, a5, a6, a7, a8]
    omega
theorem RR.cvE (h : RR M) : cvC M = cvR M := by
  funext c hr; exact propext h.cv
end RRF
/-- a call of the class by a helper, then of the reference: they say the same -/
def CALL (ev : Ev) (tL : MT) (hh : List (Nat × Nat × Nat × Nat)) (t8 : MT) (lv : Nat) (as : List AV) (M : Mem) : Prop :=
  ∃ (kb : Bool) (kk : Int) (A : Mem → Prop), (0 ≤ kk ∧ kk ≤ 3) ∧ (∀ QW : Int → Mem → Prop, (∀ M1, A M1 → QW kk M1) → WM ev kb 9 tL hh (vR 0 :: as ++ [vR 46]) M QW) ∧
    ∀ M1, A M1 → ∀ Q2 : Out → Mem → Prop, (∀ (b : Int) (M2 : Mem), Inr b → M2 27 0 = kk → (kk = 0 → M2 46 0 = b) → RR M2 → Q2 (.inl (some (vI b))) M2) → AM ev false lv t8 (vR 27 :: as) M1 Q2
/-- a call of both that answers an int -/
def CALI (ev : Ev) (t7 t8 : MT) (l7 l8 : Nat) (M : Mem) : Prop :=
  ∃ (a : Int) (A : Mem → Prop), Inr a ∧ (∀ Q2 : Out → Mem → Prop, (∀ M1, A M1 → Q2 (.inl (some (vI a))) M1) → AM ev false l7 t7 [vR 0] M Q2) ∧ ∀ M1, A M1 → ∀ Q2 : Out → Mem → Prop, (∀ M2 : Mem, RR M2 → Q2 (.inl (some (vI a))) M2) → AM ev false l8 t8 [vR 27] M1 Q2
