/-! the route backwards -/
abbrev SBP (E : Int → Int → Int → Int) (f : Int → Int) (v u : Int) : Prop := f u ≠ -1 ∧ E u v (f u) = f v
abbrev LB (ns : Int) (P : Int → Prop) (r : Int) : Prop := (0 ≤ r ∧ r < ns) ∧ P r ∧ ∀ u, 0 ≤ u → u < r → ¬ P u
def rtM (M : Mem) (g : Int → Int) : Mem := fun k j => if k = 25 then g j else M k j
def RT (ns a b : Int) (E : Int → Int → Int → Int) (f g : Int → Int) (p : Int) : Prop := (0 ≤ p ∧ p ≤ 7) ∧ g 7 = b ∧ g p = a ∧ ∀ j, p < j → j ≤ 7 → ((0 ≤ g j ∧ g j < ns) ∧ g j ≠ a ∧ f (g j) ≠ -1) ∧ LB ns (SBP E f (g j)) (g (j - 1))
theorem cnt8_pos {p : Int → Prop} {x : Int} (h0 : 0 ≤ x) (h1 : x < 8) (hx : p x) : 1 ≤ cnt8 p := by
  unfold cnt8
  have a0 := one_01 (p 0); have a1 := one_01 (p 1); have a2 := one_01 (p 2); have a3 := one_01 (p 3)
  have a4 := one_01 (p 4); have a5 := one_01 (p 5); have a6 := one_01 (p 6); have a7 := one_01 (p 7)
  have hc : x = 0 ∨ x = 1 ∨ x = 2 ∨ x = 3 ∨ x = 4 ∨ x = 5 ∨ x = 6 ∨ x = 7 := by omega
  rcases hc with rfl | rfl | rfl | rfl | rfl | rfl | rfl | rfl <;> have hh := one_t hx <;> omega
theorem cnt8_le7 {p : Int → Prop} {x : Int} (h0 : 0 ≤ x) (h1 : x < 8) (hx : ¬ p x) : cnt8 p ≤ 7 := by
  unfold cnt8
  have a0 := one_01 (p 0); have a1 := one_01 (p 1); have a2 := one_01 (p 2); have a3 := one_01 (p 3)
  have a4 := one_01 (p 4); have a5 := one_01 (p 5); have a6 := one_01 (p 6); have a7 := one_01 (p 7)
  have hc : x = 0 ∨ x = 1 ∨ x = 2 ∨ x = 3 ∨ x = 4 ∨ x = 5 ∨ x = 6 ∨ x = 7 := by omega
  rcases hc with rfl | rfl | rfl | rfl | rfl | rfl | rfl | rfl <;> have hh := one_f hx <;> omega
theorem one_le {p q : Prop} (h : q → p) : one q ≤ one p := by
  rcases one_01 p with ⟨e, n⟩ | ⟨e, n⟩
  · rw [e, one_f (fun r => n (h r))]; exact Int.le_refl _
  · rcases one_01 q with ⟨e', _⟩ | ⟨e', _⟩ <;> omega
theorem cnt8_lt {p q : Int → Prop} {x : Int} (h : ∀ w, 0 ≤ w → w < 8 → q w → p w) (h0 : 0 ≤ x) (h1 : x < 8) (hp : p x) (hq : ¬ q x) : cnt8 q + 1 ≤ cnt8 p := by
  unfold cnt8
  have a0 := one_le (h 0 (by omega) (by omega)); have a1 := one_le (h 1 (by omega) (by omega)); have a2 := one_le (h 2 (by omega) (by omega)); have a3 := one_le (h 3 (by omega) (by omega))
  have a4 := one_le (h 4 (by omega) (by omega)); have a5 := one_le (h 5 (by omega) (by omega)); have a6 := one_le (h 6 (by omega) (by omega)); have a7 := one_le (h 7 (by omega) (by omega))
  have hc : x = 0 ∨ x = 1 ∨ x = 2 ∨ x = 3 ∨ x = 4 ∨ x = 5 ∨ x = 6 ∨ x = 7 := by omega
  rcases hc with rfl | rfl | rfl | rfl | rfl | rfl | rfl | rfl <;> have hh := one_t hp <;> have hi := one_f hq <;> omega
/-- the stations that have the message earlier -/
abbrev erl (ns : Int) (f : Int → Int) (v : Int) : Int → Prop := fun w => w < ns ∧ f w ≠ -1 ∧ f w < f v
theorem rt_put (M : Mem) (g : Int → Int) (p u : Int) : upM (rtM M g) 25 p u = rtM M (upF g p u) := by
  funext k j; simp only [upM, rtM, upF]; grind
theorem rt_0 (M : Mem) (b : Int) : upM M 25 7 b = rtM M (upF (M 25) 7 b) := by
  funext k j; simp only [upM, rtM, upF]; grind
