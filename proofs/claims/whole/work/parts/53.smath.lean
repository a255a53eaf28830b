/-! the lines of the reference -/
theorem rq_pos {v m b : Int} (hm : 1 ≤ m) (hv : 0 ≤ v) (hb : v ≤ m * b) : 0 ≤ (2 * v + m) / (2 * m) ∧ (2 * v + m) / (2 * m) ≤ b := by
  refine ⟨Int.ediv_nonneg (by omega) (by omega), ?_⟩
  have h : (2 * v + m) / (2 * m) < b + 1 := by
    apply Int.ediv_lt_of_lt_mul (by omega)
    have e : (b + 1) * (2 * m) = 2 * (m * b) + 2 * m := by rw [Int.add_mul, Int.one_mul, Int.mul_comm b, Int.mul_assoc]
    rw [e]; omega
  omega
theorem rq_in {k m dx : Int} (hm : 1 ≤ m) (h0 : 0 ≤ k) (h1 : k ≤ m) : (0 ≤ dx → 0 ≤ rq (k * dx) m ∧ rq (k * dx) m ≤ dx) ∧ (dx ≤ 0 → dx ≤ rq (k * dx) m ∧ rq (k * dx) m ≤ 0) := by
  constructor
  · intro hd
    have a := Int.mul_nonneg h0 hd
    have b := Int.mul_le_mul_of_nonneg_right h1 hd
    unfold rq
    rw [if_neg (by omega)]
    exact rq_pos hm a b
  · intro hd
    have a := Int.mul_nonneg h0 (show 0 ≤ -dx by omega)
    have b := Int.mul_le_mul_of_nonneg_right h1 (show 0 ≤ -dx by omega)
    have e : -(k * dx) = k * -dx := by rw [Int.mul_neg]
    have c := rq_pos (v := k * -dx) hm a b
    unfold rq
    by_cases hv : k * dx < 0
    · rw [if_pos hv, e]; omega
    · rw [if_neg hv]
      have h0 : k * dx = 0 := by omega
      have h1 : k * -dx = 0 := by omega
      rw [h0, ← h1]; rw [h1] at c ⊢
      have hz : (2 * 0 + m) / (2 * m) = 0 := Int.ediv_eq_zero_of_lt (by omega) (by omega)
      omega
theorem alo_in {c t k : Int} (hc : 0 ≤ c ∧ c < 144) (ht : 0 ≤ t ∧ t < 144) {dx dy m : Int} (hx : dx = t % 12 - c % 12) (hy : dy = t / 12 - c / 12) (h0 : 0 ≤ k) (hm : 1 ≤ m) (h1 : k ≤ m) : 0 ≤ alo c dx dy m k ∧ alo c dx dy m k < 144 := by
  have a := rq_in (dx := dx) hm h0 h1
  have b := rq_in (dx := dy) hm h0 h1
  have hb := alo_bd c dx dy m k
  unfold alo at hb ⊢
  rw [if_pos (by omega)] at hb ⊢
  omega
theorem alo_off {c dx : Int} (hc : 0 ≤ c ∧ c < 144) (hd : -6 ≤ dx ∧ dx ≤ 6) : alo c dx 3 (mxa dx 3) 12 = -1 := by
  have key : rq (12 * dx) (mxa dx 3) = 12 ∨ rq (12 * dx) (mxa dx 3) = -12 ∨ rq (12 * 3) (mxa dx 3) = 12 := by
    have h : dx = -6 ∨ dx = -5 ∨ dx = -4 ∨ dx = -3 ∨ dx = -2 ∨ dx = -1 ∨ dx = 0 ∨ dx = 1 ∨ dx = 2 ∨ dx = 3 ∨ dx = 4 ∨ dx = 5 ∨ dx = 6 := by omega
    rcases h with rfl | rfl | rfl | rfl | rfl | rfl | rfl | rfl | rfl | rfl | rfl | rfl | rfl <;> decide
  unfold alo
  rw [if_neg (by omega)]
theorem fa_no {h : Int → Int} {c dx dy m eye rise : Int} {n : Nat} {k : Int} (h0 : alo c dx dy m k ≠ -1) (h1 : ¬ eye * m + rise * k < h (alo c dx dy m k) * m) : fa h c dx dy m eye rise (n + 1) k = fa h c dx dy m eye rise n (k + 1) := by
  conv => lhs; unfold fa
  rw [if_neg h0, if_neg h1]
theorem fa_yes {h : Int → Int} {c dx dy m eye rise : Int} {n : Nat} {k : Int} (h0 : alo c dx dy m k ≠ -1) (h1 : eye * m + rise * k < h (alo c dx dy m k) * m) : fa h c dx dy m eye rise (n + 1) k = alo c dx dy m k := by
  conv => lhs; unfold fa
  rw [if_neg h0, if_pos h1]
theorem fa_off {h : Int → Int} {c dx dy m eye rise : Int} {n : Nat} {k : Int} (h0 : alo c dx dy m k = -1) : fa h c dx dy m eye rise n k = -1 := by
  cases n with
  | zero => rfl
  | succ n => unfold fa; rw [if_pos h0]
abbrev covR (M : Mem) (j x y hr : Int) : Prop := (imin (M 32 j % 12) (M 33 j % 12) ≤ x ∧ x ≤ imax (M 32 j % 12) (M 33 j % 12)) ∧ (imin (M 32 j / 12) (M 33 j / 12) ≤ y ∧ y ≤ imax (M 32 j / 12) (M 33 j / 12)) ∧ (M 34 j ≤ hr ∧ hr ≤ M 35 j)
def cvR (M : Mem) (c hr : Int) : Prop := ∃ j, (0 ≤ j ∧ j < M 27 6) ∧ covR M j (c % 12) (c / 12) hr
theorem ex_s {P : Int → Prop} {i : Int} (h : 0 ≤ i) : (∃ j, (0 ≤ j ∧ j < i + 1) ∧ P j) ↔ (∃ j, (0 ≤ j ∧ j < i) ∧ P j) ∨ P i := by
  constructor
  · rintro ⟨j, h1, h2⟩
    by_cases hj : j = i
    · right; rw [← hj]; exact h2
    · left; exact ⟨j, by omega, h2⟩
  · rintro (⟨j, h1, h2⟩ | h2)
    · exact ⟨j, by omega, h2⟩
    · exact ⟨i, by omega, h2⟩
theorem ex_0 {P : Int → Prop} : ¬ ∃ j, (0 ≤ j ∧ j < 0) ∧ P j := by
  rintro ⟨j, h1, -⟩; omega
