/-! the text of heights: state, items, their heights, their counts -/
abbrev PS : Type := Int × Int × (Int → Int) × (Int → Int)
def upF (f : Int → Int) (i v : Int) : Int → Int := fun j => if j = i then v else f j
def psM (M : Mem) (s : PS) : Mem := fun k j => if k = 3 ∧ j = 4 then s.2.1 else if k = 3 ∧ j = 5 then s.1 else if k = 5 then s.2.2.1 j else if k = 6 then s.2.2.2 j else M k j
def pdig (d : Int) (s : PS) : PS :=
  if s.1 = 0 then (1, s.2.1 + 1, upF s.2.2.1 s.2.1 d, upF s.2.2.2 s.2.1 0)
  else if s.1 = 1 then (if s.2.2.1 (s.2.1 - 1) = 0 ∨ 500 < 10 * s.2.2.1 (s.2.1 - 1) + d then (4, s.2.1, s.2.2.1, s.2.2.2) else (1, s.2.1, upF s.2.2.1 (s.2.1 - 1) (10 * s.2.2.1 (s.2.1 - 1) + d), s.2.2.2))
  else (if 10 * s.2.2.2 (s.2.1 - 1) + d = 0 ∨ 144 < 10 * s.2.2.2 (s.2.1 - 1) + d then (4, s.2.1, s.2.2.1, s.2.2.2) else (3, s.2.1, s.2.2.1, upF s.2.2.2 (s.2.1 - 1) (10 * s.2.2.2 (s.2.1 - 1) + d)))
def pstep (c : Int) (s : PS) : PS :=
  if 48 ≤ c ∧ c ≤ 57 then pdig (c - 48) s
  else if c = 42 ∧ s.1 = 1 then (2, s.2.1, s.2.2.1, s.2.2.2)
  else if c = 44 ∧ (s.1 = 1 ∨ s.1 = 3) then (0, s.2.1, s.2.2.1, s.2.2.2)
  else (4, s.2.1, s.2.2.1, s.2.2.2)
def PSI (k : Int) (s : PS) : Prop := (0 ≤ s.1 ∧ s.1 ≤ 3) ∧ 0 ≤ s.2.1 ∧ (s.1 = 0 → 2 * s.2.1 ≤ k) ∧ (s.1 ≠ 0 → 2 * s.2.1 ≤ k + 1 ∧ 1 ≤ s.2.1) ∧ ∀ i, 0 ≤ i → i < s.2.1 → (0 ≤ s.2.2.1 i ∧ s.2.2.1 i ≤ 500) ∧ (0 ≤ s.2.2.2 i ∧ s.2.2.2 i ≤ 144)
theorem upF_s (f : Int → Int) (i v : Int) : upF f i v i = v := by unfold upF; rw [if_pos rfl]
theorem upF_n (f : Int → Int) {i v j : Int} (h : j ≠ i) : upF f i v j = f j := by unfold upF; rw [if_neg h]
theorem PSI.step {k c : Int} {s : PS} (h : PSI k s) (hw : (pstep c s).1 ≠ 4) : PSI (k + 1) (pstep c s) := by
  obtain ⟨st, it, H, R⟩ := s
  obtain ⟨h1, h2, h3, h4, h5⟩ := h
  dsimp only at h1 h2 h3 h4 h5
  unfold pstep at hw ⊢
  dsimp only at hw ⊢
  by_cases hc : 48 ≤ c ∧ c ≤ 57
  · rw [if_pos hc] at hw ⊢
    unfold pdig at hw ⊢
    dsimp only at hw ⊢
    by_cases a0 : st = 0
    · rw [if_pos a0] at hw ⊢
      have := h3 a0
      refine ⟨by dsimp only; omega, by dsimp only; omega, by dsimp only; omega, by dsimp only; omega, fun i q0 q1 => ?_⟩
      dsimp only at q1 ⊢
      by_cases hi : i = it
      · rw [hi, upF_s, upF_s]; omega
      · rw [upF_n H hi, upF_n R hi]; exact h5 i q0 (by omega)
    · rw [if_neg a0] at hw ⊢
      have h6 := h4 a0
      have h7 := h5 (it - 1) (by omega) (by omega)
      by_cases a1 : st = 1
      · rw [if_pos a1] at hw ⊢
        by_cases a2 : H (it - 1) = 0 ∨ 500 < 10 * H (it - 1) + (c - 48)
        · rw [if_pos a2] at hw; exact absurd rfl hw
        · rw [if_neg a2] at hw ⊢
          refine ⟨by dsimp only; omega, by dsimp only; omega, by dsimp only; omega, by dsimp only; omega, fun i q0 q1 => ?_⟩
          dsimp only at q1 ⊢
          by_cases hi : i = it - 1
          · rw [hi, upF_s]; exact ⟨by omega, h7.2⟩
          · rw [upF_n H hi]; exact h5 i q0 q1
      · rw [if_neg a1] at hw ⊢
        by_cases a2 : 10 * R (it - 1) + (c - 48) = 0 ∨ 144 < 10 * R (it - 1) + (c - 48)
        · rw [if_pos a2] at hw; exact absurd rfl hw
        · rw [if_neg a2] at hw ⊢
          refine ⟨by dsimp only; omega, by dsimp only; omega, by dsimp only; omega, by dsimp only; omega, fun i q0 q1 => ?_⟩
          dsimp only at q1 ⊢
          by_cases hi : i = it - 1
          · rw [hi, upF_s]; exact ⟨h7.1, by omega⟩
          · rw [upF_n R hi]; exact h5 i q0 q1
  · rw [if_neg hc] at hw ⊢
    by_cases b1 : c = 42 ∧ st = 1
    · rw [if_pos b1] at hw ⊢
      have := h4 (by omega)
      exact ⟨by dsimp only; omega, by dsimp only; omega, by dsimp only; omega, by dsimp only; omega, h5⟩
    · rw [if_neg b1] at hw ⊢
      by_cases b2 : c = 44 ∧ (st = 1 ∨ st = 3)
      · rw [if_pos b2] at hw ⊢
        have := h4 (by omega)
        exact ⟨by dsimp only; omega, by dsimp only; omega, by dsimp only; omega, by dsimp only; omega, h5⟩
      · rw [if_neg b2] at hw; exact absurd rfl hw
def prun (f : Int → Int) : Nat → Int → PS → Int × PS
  | 0, i, s => (i, s)
  | n + 1, i, s => if (pstep (f i) s).1 = 4 then (i, pstep (f i) s) else prun f n (i + 1) (pstep (f i) s)
def clS (f : Int → Int) : Nat → Int → Int
  | 0, _ => 0
  | n + 1, i => imax 1 (f i) + clS f n (i + 1)
def stH (M : Mem) (h : Int → Int) : Mem := fun k j => if k = 2 then h j else M k j
def segF (h : Int → Int) (a b v : Int) : Int → Int := fun j => if a ≤ j ∧ j < b then v else h j
def cpT (H R : Int → Int) : Nat → Int → Int → (Int → Int) → (Int → Int)
  | 0, _, _, h => h
  | n + 1, i, c, h => cpT H R n (i + 1) (c + imax 1 (R i)) (segF h c (c + imax 1 (R i)) (H i))
theorem pstep_r (c : Int) (s : PS) : 0 ≤ (pstep c s).1 ∧ (pstep c s).1 ≤ 4 := by
  unfold pstep pdig
  split
  · split
    · (dsimp only; omega)
    · split
      · split <;> (dsimp only; omega)
      · split <;> (dsimp only; omega)
  · split
    · (dsimp only; omega)
    · split <;> (dsimp only; omega)
theorem clS_nn (f : Int → Int) : ∀ (n : Nat) (i : Int), 0 ≤ clS f n i
  | 0, _ => Int.le_refl 0
  | n + 1, i => by
    have := clS_nn f n (i + 1)
    unfold clS imax
    split <;> omega
theorem seg_step (h : Int → Int) (a b v : Int) (M : Mem) (hab : a ≤ b) : upM (stH M (segF h a b v)) 2 b v = stH M (segF h a (b + 1) v) := by
  funext k j
  simp only [upM, stH, segF]
  grind
theorem seg_0 (h : Int → Int) (a v : Int) (M : Mem) : stH M h = stH M (segF h a a v) := by
  funext k j
  simp only [stH, segF]
  grind
theorem ps_put (M : Mem) (x : Int) (s t : PS) : upM (psM M (x, t.2)) 3 5 t.1 = psM M t := by
  funext k j
  simp only [upM, psM]
  grind
theorem ps_0 (M : Mem) : upM (upM M 3 4 0) 3 5 0 = psM M (0, 0, M 5, M 6) := by
  funext k j
  simp only [upM, psM]
  grind
theorem stH_0 (M : Mem) : M = stH M (M 2) := by
  funext k j
  simp only [stH]
  grind
