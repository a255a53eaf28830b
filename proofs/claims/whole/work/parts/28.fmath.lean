/-! counting the settled -/
noncomputable def one (p : Prop) : Int := @ite Int p (Classical.propDecidable p) 1 0
theorem one_t {p : Prop} (h : p) : one p = 1 := by unfold one; rw [if_pos h]
theorem one_f {p : Prop} (h : ¬ p) : one p = 0 := by unfold one; rw [if_neg h]
theorem one_01 (p : Prop) : (one p = 0 ∧ ¬ p) ∨ (one p = 1 ∧ p) := by
  rcases Classical.em p with h | h
  · exact Or.inr ⟨one_t h, h⟩
  · exact Or.inl ⟨one_f h, h⟩
noncomputable def cnt8 (p : Int → Prop) : Int := one (p 0) + one (p 1) + one (p 2) + one (p 3) + one (p 4) + one (p 5) + one (p 6) + one (p 7)
theorem cnt8_add {p p' : Int → Prop} {x : Int} (h0 : 0 ≤ x) (h1 : x < 8) (hx : ¬ p x) (h : ∀ u, 0 ≤ u → u < 8 → (p' u ↔ u = x ∨ p u)) : cnt8 p' = cnt8 p + 1 := by
  have key : ∀ u, 0 ≤ u → u < 8 → one (p' u) = one (p u) + (if u = x then 1 else 0) := by
    intro u u0 u1
    by_cases hu : u = x
    · rw [if_pos hu, one_t ((h u u0 u1).mpr (Or.inl hu)), one_f (by rw [hu]; exact hx)]; rfl
    · rw [if_neg hu, Int.add_zero]
      rcases one_01 (p u) with ⟨e, n⟩ | ⟨e, n⟩
      · rw [e, one_f (fun q => ((h u u0 u1).mp q).elim hu n)]
      · rw [e, one_t ((h u u0 u1).mpr (Or.inr n))]
  unfold cnt8
  rw [key 0 (by omega) (by omega), key 1 (by omega) (by omega), key 2 (by omega) (by omega), key 3 (by omega) (by omega), key 4 (by omega) (by omega), key 5 (by omega) (by omega), key 6 (by omega) (by omega), key 7 (by omega) (by omega)]
  have hc : x = 0 ∨ x = 1 ∨ x = 2 ∨ x = 3 ∨ x = 4 ∨ x = 5 ∨ x = 6 ∨ x = 7 := by omega
  rcases hc with rfl | rfl | rfl | rfl | rfl | rfl | rfl | rfl <;> simp <;> omega
theorem cnt8_full {p : Int → Prop} (h : cnt8 p = 8) : ∀ u, 0 ≤ u → u < 8 → p u := by
  unfold cnt8 at h
  have a0 := one_01 (p 0); have a1 := one_01 (p 1); have a2 := one_01 (p 2); have a3 := one_01 (p 3)
  have a4 := one_01 (p 4); have a5 := one_01 (p 5); have a6 := one_01 (p 6); have a7 := one_01 (p 7)
  intro u u0 u1
  have hc : u = 0 ∨ u = 1 ∨ u = 2 ∨ u = 3 ∨ u = 4 ∨ u = 5 ∨ u = 6 ∨ u = 7 := by omega
  rcases hc with rfl | rfl | rfl | rfl | rfl | rfl | rfl | rfl
  · exact (a0.resolve_left (fun q => by omega)).2
  · exact (a1.resolve_left (fun q => by omega)).2
  · exact (a2.resolve_left (fun q => by omega)).2
  · exact (a3.resolve_left (fun q => by omega)).2
  · exact (a4.resolve_left (fun q => by omega)).2
  · exact (a5.resolve_left (fun q => by omega)).2
  · exact (a6.resolve_left (fun q => by omega)).2
  · exact (a7.resolve_left (fun q => by omega)).2
theorem cnt8_none {p : Int → Prop} (h : ∀ u, 0 ≤ u → u < 8 → ¬ p u) : cnt8 p = 0 := by
  unfold cnt8
  rw [one_f (h 0 (by omega) (by omega)), one_f (h 1 (by omega) (by omega)), one_f (h 2 (by omega) (by omega)), one_f (h 3 (by omega) (by omega)), one_f (h 4 (by omega) (by omega)), one_f (h 5 (by omega) (by omega)), one_f (h 6 (by omega) (by omega)), one_f (h 7 (by omega) (by omega))]
  rfl
def ar0 (M : Mem) (a t : Int) : Int → Int := fun v => if v = a then t else if 0 ≤ v ∧ v < 8 then -1 else M 24 v
theorem ar0_eq (M : Mem) (a t l : Int) : upM (upM (fillM M 24 8 (-1)) 22 7 l) 24 a t = arM (upM M 22 7 l) (ar0 M a t) := by
  funext k j; simp only [upM, fillM, arM, ar0]; grind
theorem dj_0 {E : Int → Int → Int → Int} {M : Mem} {ns a t : Int} (ha : 0 ≤ a ∧ a < ns) (hn : ns ≤ 8) (ht : 0 ≤ t ∧ t ≤ 72) : DJ E ns a t (fun u => bitP 0 u) (ar0 M a t) := by
  have h1 : ∀ u, 0 ≤ u → u < ns → ¬ bitP 0 u := fun u u0 u1 => bit_0 u0 (by omega)
  have h2 : ∀ v, 0 ≤ v → v < ns → v ≠ a → ar0 M a t v = -1 := fun v v0 v1 hv => by unfold ar0; rw [if_neg hv, if_pos (by omega)]
  have h3 : ar0 M a t a = t := by unfold ar0; rw [if_pos rfl]
  refine ⟨⟨h3, fun v v0 v1 => ?_, fun v v0 v1 hv hf => absurd (h2 v v0 v1 hv) hf⟩, fun u u0 u1 q => absurd q (h1 u u0 u1), fun u w u0 u1 _ _ q => absurd q (h1 u u0 u1), fun u v u0 u1 _ _ q => absurd q (h1 u u0 u1)⟩
  by_cases hv : v = a
  · rw [hv, h3]; omega
  · exact Or.inl (h2 v v0 v1 hv)
