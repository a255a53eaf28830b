/-! the reference's links and arrivals -/
noncomputable def gvR (M : Mem) (j : Int) : Int := @ite Int (j / 12 / 8 < M 27 2 ∧ j / 12 % 8 < M 27 2 ∧ j / 12 / 8 ≠ j / 12 % 8 ∧ lnkF (M 28) (M 29) (M 30) (M 31) (cvR M) (j / 12 / 8) (j / 12 % 8) (j % 12 + 6) = 0) (Classical.propDecidable _) 1 0
theorem gvR_01 (M : Mem) (j : Int) : gvR M j = 0 ∨ gvR M j = 1 := by unfold gvR; split <;> omega
theorem gv_y {M : Mem} {k hr : Int} (hk : 0 ≤ k) (h0 : 6 ≤ hr) (h1 : hr ≤ 17) (h : k / 8 < M 27 2 ∧ k % 8 < M 27 2 ∧ k / 8 ≠ k % 8 ∧ lnkF (M 28) (M 29) (M 30) (M 31) (cvR M) (k / 8) (k % 8) hr = 0) : gvR M (12 * k + hr - 6) = 1 := by
  unfold gvR
  rw [show (12 * k + hr - 6) / 12 = k from by omega, show (12 * k + hr - 6) % 12 + 6 = hr from by omega, if_pos h]
theorem gv_n {M : Mem} {k hr : Int} (hk : 0 ≤ k) (h0 : 6 ≤ hr) (h1 : hr ≤ 17) (h : ¬ (k / 8 < M 27 2 ∧ k % 8 < M 27 2 ∧ k / 8 ≠ k % 8 ∧ lnkF (M 28) (M 29) (M 30) (M 31) (cvR M) (k / 8) (k % 8) hr = 0)) : gvR M (12 * k + hr - 6) = 0 := by
  unfold gvR
  rw [show (12 * k + hr - 6) / 12 = k from by omega, show (12 * k + hr - 6) % 12 + 6 = hr from by omega, if_neg h]
noncomputable def glM (M : Mem) (n : Int) : Mem := fun k j => if k = 42 ∧ 0 ≤ j ∧ j < n then gvR M j else M k j
theorem gl_s {M : Mem} {n v : Int} (h0 : 0 ≤ n) (hv : v = gvR M n) : upM (glM M n) 42 n v = glM M (n + 1) := by
  subst hv
  funext zk zj
  unfold upM glM
  by_cases hk : zk = 42
  · by_cases hj : zj = n
    · rw [if_pos ⟨hk, hj⟩, if_pos (by omega), hj]
    · rw [if_neg (fun q => hj q.2)]
      by_cases hc : zk = 42 ∧ 0 ≤ zj ∧ zj < n
      · rw [if_pos hc, if_pos (by omega)]
      · rw [if_neg hc, if_neg (by omega)]
  · rw [if_neg (fun q => hk q.1), if_neg (fun q => hk q.1), if_neg (fun q => hk q.1)]
theorem gl_0 (M : Mem) : M = glM M 0 := by
  funext zk zj
  unfold glM
  rw [if_neg (by omega)]
abbrev okR (G B : Int → Int) (u v t : Int) : Prop := G (12 * (8 * u + v) + t / 6) = 1 ∧ B (72 * u + t) = -1 ∧ B (72 * v + t) = -1
noncomputable abbrev ER (G B : Int → Int) (l u v t : Int) : Int := eeT (okR G B u v) l (72 - t).toNat t 0
theorem ok_EOK (ok : Int → Int → Int → Prop) {l : Int} (hl : 1 ≤ l) (ns : Int) : EOK (fun u v s => eeT (ok u v) l (72 - s).toNat s 0) ns := by
  intro u v s u0 u1 v0 v1 s0 s1
  have hb := eeT_bd (ok u v) hl (72 - s).toNat s 0 (by omega) (by omega)
  refine ⟨?_, fun s' h1 h2 h3 => ?_⟩
  · show eeT _ _ _ _ _ = -1 ∨ _
    rcases hb with h | h
    · exact Or.inl h
    · right; show s + 1 ≤ eeT _ _ _ _ _ ∧ eeT _ _ _ _ _ ≤ 72; omega
  · have e1 : s + ((s' - s).toNat : Int) = s' := by omega
    have e2 : (72 - s).toNat = (72 - s').toNat + (s' - s).toNat := by omega
    have h4 := ee_shift (ok u v) hl (s' - s).toNat (72 - s').toNat s s0
    rw [e1, ← e2] at h4
    exact h4 h3
theorem ER_ok (G B : Int → Int) {l : Int} (hl : 1 ≤ l) (ns : Int) : EOK (fun u v s => ER G B l u v s) ns := ok_EOK (fun u v => okR G B u v) hl ns
def bgE (e l : Int) : Int := if e = -1 then -1 else e - l
theorem eeT_len (ok : Int → Prop) {l : Int} (hl : 1 ≤ l) {s : Int} (h0 : 0 ≤ s) (h1 : s ≤ 72) : eeT ok l (72 - s).toNat s 0 = -1 ∨ (s + l ≤ eeT ok l (72 - s).toNat s 0 ∧ eeT ok l (72 - s).toNat s 0 ≤ 72) := by
  have := eeT_bd ok hl (72 - s).toNat s 0 (by omega) (by omega)
  omega
/-- all the arrivals together -/
def a73 (x : Int) : Int := if x = -1 then 73 else x
def ms8 (f : Int → Int) : Int := a73 (f 0) + a73 (f 1) + a73 (f 2) + a73 (f 3) + a73 (f 4) + a73 (f 5) + a73 (f 6) + a73 (f 7)
theorem ms8_lt {f : Int → Int} {v x : Int} (h0 : 0 ≤ v) (h1 : v < 8) (hx : 0 ≤ x ∧ x ≤ 72) (h : f v = -1 ∨ x < f v) : ms8 (upF f v x) < ms8 f := by
  have hc : v = 0 ∨ v = 1 ∨ v = 2 ∨ v = 3 ∨ v = 4 ∨ v = 5 ∨ v = 6 ∨ v = 7 := by omega
  have key : a73 (upF f v x v) < a73 (f v) := by rw [upF_s]; unfold a73; rw [if_neg (by omega)]; split <;> omega
  have oth : ∀ w, w ≠ v → a73 (upF f v x w) = a73 (f w) := fun w hw => by rw [upF_n f hw]
  unfold ms8
  rcases hc with rfl | rfl | rfl | rfl | rfl | rfl | rfl | rfl
  · rw [oth 1 (by omega), oth 2 (by omega), oth 3 (by omega), oth 4 (by omega), oth 5 (by omega), oth 6 (by omega), oth 7 (by omega)]; omega
  · rw [oth 0 (by omega), oth 2 (by omega), oth 3 (by omega), oth 4 (by omega), oth 5 (by omega), oth 6 (by omega), oth 7 (by omega)]; omega
  · rw [oth 0 (by omega), oth 1 (by omega), oth 3 (by omega), oth 4 (by omega), oth 5 (by omega), oth 6 (by omega), oth 7 (by omega)]; omega
  · rw [oth 0 (by omega), oth 1 (by omega), oth 2 (by omega), oth 4 (by omega), oth 5 (by omega), oth 6 (by omega), oth 7 (by omega)]; omega
  · rw [oth 0 (by omega), oth 1 (by omega), oth 2 (by omega), oth 3 (by omega), oth 5 (by omega), oth 6 (by omega), oth 7 (by omega)]; omega
  · rw [oth 0 (by omega), oth 1 (by omega), oth 2 (by omega), oth 3 (by omega), oth 4 (by omega), oth 6 (by omega), oth 7 (by omega)]; omega
  · rw [oth 0 (by omega), oth 1 (by omega), oth 2 (by omega), oth 3 (by omega), oth 4 (by omega), oth 5 (by omega), oth 7 (by omega)]; omega
  · rw [oth 0 (by omega), oth 1 (by omega), oth 2 (by omega), oth 3 (by omega), oth 4 (by omega), oth 5 (by omega), oth 6 (by omega)]; omega
/-- what holds of the arrivals: in range, -1 beyond the stations -/
def WA8 (E : Int → Int → Int → Int) (ns a t : Int) (f : Int → Int) : Prop := WArr E ns a t f ∧ ∀ v, ns ≤ v → v < 8 → f v = -1
theorem WA8.nn {E : Int → Int → Int → Int} {ns a t : Int} {f : Int → Int} (h : WA8 E ns a t f) (ht : 0 ≤ t) (hn : ns ≤ 8) : 0 ≤ ms8 f := by
  have key : ∀ v, 0 ≤ v → v < 8 → 0 ≤ a73 (f v) := fun v v0 v1 => by
    by_cases hv : v < ns
    · have := h.1.2.1 v v0 hv; unfold a73; split <;> omega
    · rw [h.2 v (by omega) v1]; decide
  have := key 0 (by omega) (by omega); have := key 1 (by omega) (by omega); have := key 2 (by omega) (by omega); have := key 3 (by omega) (by omega)
  have := key 4 (by omega) (by omega); have := key 5 (by omega) (by omega); have := key 6 (by omega) (by omega); have := key 7 (by omega) (by omega)
  unfold ms8; omega
theorem WA8.step {E : Int → Int → Int → Int} {ns a t : Int} {f : Int → Int} (hE : EOK E ns) (h : WA8 E ns a t f) (ht : 0 ≤ t) {u v : Int} (hu : 0 ≤ u ∧ u < ns) (hv : 0 ≤ v ∧ v < ns) (huv : u ≠ v) (hfu : f u ≠ -1) (he : E u v (f u) ≠ -1) (hl : f v = -1 ∨ E u v (f u) < f v) : WA8 E ns a t (upF f v (E u v (f u))) := by
  obtain ⟨⟨h1, h2, h3⟩, h4⟩ := h
  have hbu := h2 u hu.1 hu.2
  have hb := (hE u v (f u) hu.1 hu.2 hv.1 hv.2 (by omega) (by omega)).1
  have hva : v ≠ a := fun q => by subst q; omega
  refine ⟨⟨by rw [upF_n f (fun q => hva q.symm)]; exact h1, fun w w0 w1 => ?_, fun w w0 w1 wa hw => ?_⟩, fun w w0 w1 => by rw [upF_n f (by omega)]; exact h4 w w0 w1⟩
  · by_cases hw : w = v
    · rw [hw, upF_s]; right; omega
    · rw [upF_n f hw]; exact h2 w w0 w1
  · by_cases hwv : w = v
    · subst hwv
      exact ⟨u, f u, hu.1, hu.2, by rw [upF_n f huv]; exact hfu, by rw [upF_n f huv]; exact Int.le_refl _, by omega, by rw [upF_s]⟩
    · rw [upF_n f hwv] at hw ⊢
      obtain ⟨u', s, a0, a1, a2, a3, a4, a5⟩ := h3 w w0 w1 wa hw
      by_cases hq : u' = v
      · subst hq
        exact ⟨u', s, a0, a1, by rw [upF_s]; exact he, by rw [upF_s]; omega, a4, a5⟩
      · exact ⟨u', s, a0, a1, by rw [upF_n f hq]; exact a2, by rw [upF_n f hq]; exact a3, a4, a5⟩
abbrev clP (E : Int → Int → Int → Int) (f : Int → Int) (u v : Int) : Prop := f u ≠ -1 → E u v (f u) ≠ -1 → f v ≠ -1 ∧ f v ≤ E u v (f u)
theorem cl_all {E : Int → Int → Int → Int} {f : Int → Int} {ns : Int} (hn : 0 ≤ ns) (h : ∀ j, 0 ≤ j → j < ns * ns → clP E f (j / ns) (j % ns)) : ∀ u v, 0 ≤ u → u < ns → 0 ≤ v → v < ns → f u ≠ -1 → E u v (f u) ≠ -1 → f v ≠ -1 ∧ f v ≤ E u v (f u) := by
  intro u v u0 u1 v0 v1
  have hp : 0 < ns := by omega
  have h1 : 0 ≤ ns * u := Int.mul_nonneg hn u0
  have h2 : ns * u + ns ≤ ns * ns := by
    have := Int.mul_le_mul_of_nonneg_left (show u + 1 ≤ ns by omega) hn
    rw [Int.mul_add, Int.mul_one] at this
    exact this
  have h3 := h (v + ns * u) (by omega) (by omega)
  have e1 : (v + ns * u) / ns = u := by rw [Int.add_mul_ediv_left _ _ (by omega), Int.ediv_eq_zero_of_lt v0 v1]; omega
  have e2 : (v + ns * u) % ns = v := by rw [Int.add_mul_emod_self_left, Int.emod_eq_of_lt v0 v1]
  rw [e1, e2] at h3
  exact h3
def avM (M : Mem) (f : Int → Int) : Mem := fun k j => if k = 43 then f j else M k j
theorem av_put (M : Mem) (f : Int → Int) (i v : Int) : upM (avM M f) 43 i v = avM M (upF f i v) := by
  funext zk zj; simp only [upM, avM, upF]; grind
theorem av_self (M : Mem) : M = avM M (M 43) := by
  funext zk zj; simp only [avM]; grind
def ar8 (f : Int → Int) (a t i : Int) : Int → Int := fun v => if 0 ≤ v ∧ v < i then (if v = a then t else -1) else f v
theorem ar8_s {f : Int → Int} {a t i x : Int} (h : 0 ≤ i) (hx : x = if i = a then t else -1) : upF (ar8 f a t i) i x = ar8 f a t (i + 1) := by
  subst hx
  funext v
  unfold upF ar8
  by_cases hv : v = i
  · subst hv; rw [if_pos rfl, if_pos (show 0 ≤ v ∧ v < v + 1 from ⟨h, by omega⟩)]
  · rw [if_neg hv]
    by_cases hc : 0 ≤ v ∧ v < i
    · rw [if_pos hc, if_pos (show 0 ≤ v ∧ v < i + 1 from by omega)]
    · rw [if_neg hc, if_neg (show ¬ (0 ≤ v ∧ v < i + 1) from by omega)]
theorem ar8_0 (f : Int → Int) (a t : Int) : f = ar8 f a t 0 := by
  funext v; unfold ar8; rw [if_neg (by omega)]
theorem wa8_0 {E : Int → Int → Int → Int} {f : Int → Int} {ns a t : Int} (ha : 0 ≤ a ∧ a < ns) (hn : ns ≤ 8) (ht : 0 ≤ t ∧ t ≤ 72) : WA8 E ns a t (ar8 f a t 8) := by
  have h2 : ∀ v, 0 ≤ v → v < 8 → v ≠ a → ar8 f a t 8 v = -1 := fun v v0 v1 hv => by unfold ar8; rw [if_pos (by omega), if_neg hv]
  have h3 : ar8 f a t 8 a = t := by unfold ar8; rw [if_pos (by omega), if_pos rfl]
  refine ⟨⟨h3, fun v v0 v1 => ?_, fun v v0 v1 hv hf => absurd (h2 v v0 (by omega) hv) hf⟩, fun v v0 v1 => h2 v (by omega) v1 (by omega)⟩
  by_cases hv : v = a
  · rw [hv, h3]; omega
  · exact Or.inl (h2 v v0 (by omega) hv)
noncomputable def layM (M : Mem) : Mem := glM (tkM M (ltA M)) 768
noncomputable abbrev ERm (M : Mem) (l : Int) : Int → Int → Int → Int := fun u v s => ER (layM M 42) (layM M 41) l u v s
theorem lay42 (M : Mem) {j : Int} (h0 : 0 ≤ j) (h1 : j < 768) : layM M 42 j = gvR M j := by
  unfold layM glM
  rw [if_pos ⟨rfl, h0, h1⟩]
  rfl
theorem lay_dg {M : Mem} {l u s : Int} (hl : 1 ≤ l) (h0 : 0 ≤ u) (h1 : u < 8) (hs : 0 ≤ s) : ERm M l u u s = -1 := by
  refine ee_none _ hl _ _ _ (fun t t0 t1 q => ?_)
  have q1 := q.1
  rw [lay42 M (by omega) (by omega)] at q1
  unfold gvR at q1
  rw [if_neg (fun z => z.2.2.1 (by omega))] at q1
  omega
