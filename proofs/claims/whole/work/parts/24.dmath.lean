/-! arrivals: what the earliest routes are, and that they are one -/
/-- how a transmission's end depends on its start -/
def EOK (E : Int → Int → Int → Int) (ns : Int) : Prop := ∀ u v s, 0 ≤ u → u < ns → 0 ≤ v → v < ns → 0 ≤ s → s ≤ 72 → (E u v s = -1 ∨ (s + 1 ≤ E u v s ∧ E u v s ≤ 72)) ∧ ∀ s', s ≤ s' → s' ≤ 72 → E u v s' ≠ -1 → E u v s ≠ -1 ∧ E u v s ≤ E u v s'
def ArrOK (E : Int → Int → Int → Int) (ns a t : Int) (f : Int → Int) : Prop :=
  f a = t ∧ (∀ v, 0 ≤ v → v < ns → f v = -1 ∨ (t ≤ f v ∧ f v ≤ 72)) ∧
  (∀ u v, 0 ≤ u → u < ns → 0 ≤ v → v < ns → f u ≠ -1 → E u v (f u) ≠ -1 → f v ≠ -1 ∧ f v ≤ E u v (f u)) ∧
  (∀ v, 0 ≤ v → v < ns → v ≠ a → f v ≠ -1 → ∃ u, 0 ≤ u ∧ u < ns ∧ f u ≠ -1 ∧ E u v (f u) = f v)
theorem ArrOK.le {E : Int → Int → Int → Int} {ns a t : Int} {f g : Int → Int} (hE : EOK E ns) (ht : 0 ≤ t) (hf : ArrOK E ns a t f) (hg : ArrOK E ns a t g) :
    ∀ (n : Nat) (v : Int), 0 ≤ v → v < ns → f v ≠ -1 → f v ≤ n → g v ≠ -1 ∧ g v ≤ f v := by
  intro n
  induction n with
  | zero =>
    intro v h0 h1 h2 h3
    by_cases hv : v = a
    · subst hv; rw [hf.1, hg.1]; omega
    · obtain ⟨u, u0, u1, u2, u3⟩ := hf.2.2.2 v h0 h1 hv h2
      have hu := hf.2.1 u u0 u1
      have := (hE u v (f u) u0 u1 h0 h1 (by omega) (by omega)).1
      omega
  | succ n ih =>
    intro v h0 h1 h2 h3
    by_cases hv : v = a
    · subst hv; rw [hf.1, hg.1]; omega
    · obtain ⟨u, u0, u1, u2, u3⟩ := hf.2.2.2 v h0 h1 hv h2
      have hu := hf.2.1 u u0 u1
      have hs := (hE u v (f u) u0 u1 h0 h1 (by omega) (by omega)).1
      obtain ⟨i1, i2⟩ := ih u u0 u1 u2 (by omega)
      have hgu := hg.2.1 u u0 u1
      obtain ⟨m1, m2⟩ := (hE u v (g u) u0 u1 h0 h1 (by omega) (by omega)).2 (f u) i2 (by omega) (by omega)
      obtain ⟨c1, c2⟩ := hg.2.2.1 u v u0 u1 h0 h1 i1 m1
      exact ⟨c1, by omega⟩
theorem ArrOK.uniq {E : Int → Int → Int → Int} {ns a t : Int} {f g : Int → Int} (hE : EOK E ns) (ht : 0 ≤ t) (hf : ArrOK E ns a t f) (hg : ArrOK E ns a t g) (v : Int) (h0 : 0 ≤ v) (h1 : v < ns) : f v = g v := by
  have a1 := ArrOK.le hE ht hf hg (f v).toNat v h0 h1
  have a2 := ArrOK.le hE ht hg hf (g v).toNat v h0 h1
  have b1 := hf.2.1 v h0 h1
  have b2 := hg.2.1 v h0 h1
  by_cases c1 : f v = -1
  · by_cases c2 : g v = -1
    · omega
    · have := a2 c2 (by omega); omega
  · have d1 := a1 c1 (by omega)
    have d2 := a2 d1.1 (by omega)
    omega
/-- support by an arrival that has come down since -/
def WArr (E : Int → Int → Int → Int) (ns a t : Int) (f : Int → Int) : Prop :=
  f a = t ∧ (∀ v, 0 ≤ v → v < ns → f v = -1 ∨ (t ≤ f v ∧ f v ≤ 72)) ∧
  (∀ v, 0 ≤ v → v < ns → v ≠ a → f v ≠ -1 → ∃ u s, 0 ≤ u ∧ u < ns ∧ f u ≠ -1 ∧ f u ≤ s ∧ s ≤ 72 ∧ E u v s = f v)
theorem WArr.fin {E : Int → Int → Int → Int} {ns a t : Int} {f : Int → Int} (hE : EOK E ns) (ht : 0 ≤ t) (h : WArr E ns a t f)
    (hc : ∀ u v, 0 ≤ u → u < ns → 0 ≤ v → v < ns → f u ≠ -1 → E u v (f u) ≠ -1 → f v ≠ -1 ∧ f v ≤ E u v (f u)) : ArrOK E ns a t f := by
  refine ⟨h.1, h.2.1, hc, fun v h0 h1 hv h2 => ?_⟩
  obtain ⟨u, s, u0, u1, u2, u3, u4, u5⟩ := h.2.2 v h0 h1 hv h2
  have hu := h.2.1 u u0 u1
  have hm := (hE u v (f u) u0 u1 h0 h1 (by omega) (by omega)).2 s u3 u4 (by omega)
  have hcc := hc u v u0 u1 h0 h1 u2 hm.1
  exact ⟨u, u0, u1, u2, by omega⟩
def rlxF (e f : Int → Int) (n : Int) : Int → Int := fun v => if 0 ≤ v ∧ v < n ∧ e v ≠ -1 ∧ (f v = -1 ∨ e v < f v) then e v else f v
/-- the settled stations come ahead, and have passed on -/
def DJ (E : Int → Int → Int → Int) (ns a t : Int) (st : Int → Prop) (f : Int → Int) : Prop := WArr E ns a t f ∧
  (∀ u, 0 ≤ u → u < ns → st u → f u ≠ -1) ∧
  (∀ u w, 0 ≤ u → u < ns → 0 ≤ w → w < ns → st u → ¬ st w → f w ≠ -1 → f u ≤ f w) ∧
  (∀ u v, 0 ≤ u → u < ns → 0 ≤ v → v < ns → st u → E u v (f u) ≠ -1 → f v ≠ -1 ∧ f v ≤ E u v (f u))
theorem DJ.step {E : Int → Int → Int → Int} {ns a t x : Int} {st st' : Int → Prop} {f : Int → Int} (hE : EOK E ns) (ht : 0 ≤ t) (h : DJ E ns a t st f) (ha : 0 ≤ a ∧ a < ns) (hx : 0 ≤ x ∧ x < ns) (hx1 : ¬ st x) (hx2 : f x ≠ -1)
    (hmin : ∀ w, 0 ≤ w → w < ns → ¬ st w → f w ≠ -1 → f x ≤ f w) (hst : ∀ u, 0 ≤ u → u < ns → (st' u ↔ u = x ∨ st u)) : DJ E ns a t st' (rlxF (fun v => E x v (f x)) f ns) := by
  obtain ⟨⟨w1, w2, w3⟩, d1, d2, d3⟩ := h
  have hfx := w2 x hx.1 hx.2
  have hEx : ∀ v, 0 ≤ v → v < ns → E x v (f x) = -1 ∨ (f x + 1 ≤ E x v (f x) ∧ E x v (f x) ≤ 72) := fun v h0 h1 => (hE x v (f x) hx.1 hx.2 h0 h1 (by omega) (by omega)).1
  -- what the pass does
  have key : ∀ v, 0 ≤ v → v < ns → (rlxF (fun v => E x v (f x)) f ns v = f v ∧ (E x v (f x) ≠ -1 → f v ≠ -1 ∧ f v ≤ E x v (f x))) ∨ (rlxF (fun v => E x v (f x)) f ns v = E x v (f x) ∧ E x v (f x) ≠ -1 ∧ (f v = -1 ∨ E x v (f x) < f v)) := by
    intro v h0 h1
    unfold rlxF
    by_cases hc : 0 ≤ v ∧ v < ns ∧ E x v (f x) ≠ -1 ∧ (f v = -1 ∨ E x v (f x) < f v)
    · rw [if_pos hc]; exact Or.inr ⟨rfl, hc.2.2.1, hc.2.2.2⟩
    · rw [if_neg hc]; exact Or.inl ⟨rfl, fun q => by omega⟩
  generalize rlxF (fun v => E x v (f x)) f ns = g at key ⊢
  have hset : ∀ u, 0 ≤ u → u < ns → (u = x ∨ st u) → g u = f u := by
    intro u h0 h1 hu
    have k := key u h0 h1
    have e := hEx u h0 h1
    rcases hu with rfl | hu
    · omega
    · have a1 := d1 u h0 h1 hu
      have a2 := d2 u x h0 h1 hx.1 hx.2 hu hx1 hx2
      omega
  refine ⟨⟨?_, ?_, ?_⟩, ?_, ?_, ?_⟩
  · have k := key a ha.1 ha.2
    have e := hEx a ha.1 ha.2
    omega
  · intro v h0 h1
    have k := key v h0 h1
    have e := hEx v h0 h1
    have := w2 v h0 h1
    omega
  · intro v h0 h1 hv hg
    rcases key v h0 h1 with ⟨k1, k2⟩ | ⟨k1, k2, k3⟩
    · obtain ⟨u, s, u0, u1, u2, u3, u4, u5⟩ := w3 v h0 h1 hv (by omega)
      have ku := key u u0 u1
      exact ⟨u, s, u0, u1, by omega, by omega, u4, by omega⟩
    · exact ⟨x, f x, hx.1, hx.2, by rw [hset x hx.1 hx.2 (Or.inl rfl)]; exact hx2, by rw [hset x hx.1 hx.2 (Or.inl rfl)]; exact Int.le_refl _, by omega, k1.symm⟩
  · intro u h0 h1 hu
    have hu := (hst u h0 h1).mp hu
    rw [hset u h0 h1 hu]
    rcases hu with rfl | hu
    · exact hx2
    · exact d1 u h0 h1 hu
  · intro u w h0 h1 w0 w1' hu hw hg
    have hu := (hst u h0 h1).mp hu
    have hw : ¬ (w = x ∨ st w) := fun q => hw ((hst w w0 w1').mpr q)
    rw [hset u h0 h1 hu]
    have kw := key w w0 w1'
    have ew := hEx w w0 w1'
    have hw1 : ¬ st w := fun q => hw (Or.inr q)
    rcases hu with rfl | hu
    · rcases kw with ⟨k1, k2⟩ | ⟨k1, k2, k3⟩
      · have := hmin w w0 w1' hw1 (by omega); omega
      · omega
    · rcases kw with ⟨k1, k2⟩ | ⟨k1, k2, k3⟩
      · have := d2 u w h0 h1 w0 w1' hu hw1 (by omega); omega
      · have := d2 u x h0 h1 hx.1 hx.2 hu hx1 hx2; omega
  · intro u v h0 h1 v0 v1 hu he
    have hu := (hst u h0 h1).mp hu
    rw [hset u h0 h1 hu] at he ⊢
    have kv := key v v0 v1
    rcases hu with rfl | hu
    · omega
    · have := d3 u v h0 h1 v0 v1 hu he; omega
theorem DJ.fin {E : Int → Int → Int → Int} {ns a t : Int} {st : Int → Prop} {f : Int → Int} (hE : EOK E ns) (ht : 0 ≤ t) (h : DJ E ns a t st f) (hall : ∀ u, 0 ≤ u → u < ns → f u ≠ -1 → st u) : ArrOK E ns a t f :=
  h.1.fin hE ht (fun u v h0 h1 v0 v1 hu he => h.2.2.2 u v h0 h1 v0 v1 (hall u h0 h1 hu) he)
def euI (op : Int → Prop) (f : Int → Int) (i e : Int) : Prop := (e = -1 ∧ ∀ s, 0 ≤ s → s < i → ¬ op s) ∨ ((0 ≤ e ∧ e < i) ∧ op e ∧ ∀ s, 0 ≤ s → s < i → op s → f e ≤ f s)
theorem eu_no {op : Int → Prop} {f : Int → Int} {i e : Int} (h : euI op f i e) (hi : ¬ op i) : euI op f (i + 1) e := by
  rcases h with ⟨h1, h2⟩ | ⟨h1, h2, h3⟩
  · exact Or.inl ⟨h1, fun s s0 s1 => if hs : s = i then hs ▸ hi else h2 s s0 (by omega)⟩
  · exact Or.inr ⟨by omega, h2, fun s s0 s1 hs => if he : s = i then absurd (he ▸ hs) hi else h3 s s0 (by omega) hs⟩
theorem eu_keep {op : Int → Prop} {f : Int → Int} {i e : Int} (h : euI op f i e) (he : e ≠ -1) (hf : f e ≤ f i) : euI op f (i + 1) e := by
  rcases h with ⟨h1, h2⟩ | ⟨h1, h2, h3⟩
  · exact absurd h1 he
  · exact Or.inr ⟨by omega, h2, fun s s0 s1 hs => if hq : s = i then (by rw [hq]; exact hf) else h3 s s0 (by omega) hs⟩
theorem eu_new {op : Int → Prop} {f : Int → Int} {i e : Int} (h : euI op f i e) (h0 : 0 ≤ i) (hi : op i) (hf : e = -1 ∨ f i < f e) : euI op f (i + 1) i := by
  refine Or.inr ⟨by omega, hi, fun s s0 s1 hs => ?_⟩
  by_cases hq : s = i
  · rw [hq]; exact Int.le_refl _
  · rcases h with ⟨h1, h2⟩ | ⟨h1, h2, h3⟩
    · exact absurd hs (h2 s s0 (by omega))
    · have := h3 s s0 (by omega) hs; omega
