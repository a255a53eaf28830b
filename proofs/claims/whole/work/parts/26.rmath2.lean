/-! an earlier start ends no later -/
theorem ee_run (ok : Int → Prop) {l : Int} (hl : 1 ≤ l) : ∀ (n : Nat) (t r1 r2 : Int), 0 ≤ t → 0 ≤ r1 → r1 ≤ r2 → r2 < l → eeT ok l n t r1 ≠ -1 → eeT ok l n t r2 ≠ -1 ∧ eeT ok l n t r2 ≤ eeT ok l n t r1
  | 0, _, _, _, _, _, _, _, h => absurd rfl h
  | n + 1, t, r1, r2, ht, h0, h1, h2, h => by
    by_cases hk : ok t
    · have hb := eeT_bd ok hl (n + 1) t r1 h0 (by omega)
      rw [eeT_yes hk] at h hb ⊢
      rw [eeT_yes hk]
      by_cases e2 : r2 + 1 = l
      · rw [if_pos e2]
        by_cases e1 : r1 + 1 = l
        · rw [if_pos e1]; rw [if_pos e1] at hb; omega
        · rw [if_neg e1] at hb h ⊢; omega
      · rw [if_neg e2]
        rw [if_neg (by omega)] at h ⊢
        exact ee_run ok hl n (t + 1) (r1 + 1) (r2 + 1) (by omega) (by omega) (by omega) (by omega) h
    · rw [eeT_no hk hl] at h ⊢
      rw [eeT_no hk hl]
      exact ⟨h, Int.le_refl _⟩
theorem ee_shift (ok : Int → Prop) {l : Int} (hl : 1 ≤ l) : ∀ (k n : Nat) (t : Int), 0 ≤ t → eeT ok l n (t + k) 0 ≠ -1 → eeT ok l (n + k) t 0 ≠ -1 ∧ eeT ok l (n + k) t 0 ≤ eeT ok l n (t + k) 0
  | 0, n, t, _, h => by
    rw [show t + ((0 : Nat) : Int) = t from by omega] at h ⊢
    exact ⟨h, Int.le_refl _⟩
  | k + 1, n, t, ht, h => by
    have e : t + ((k + 1 : Nat) : Int) = (t + 1) + (k : Int) := by omega
    rw [e] at h ⊢
    obtain ⟨h1, h2⟩ := ee_shift ok hl k n (t + 1) (by omega) h
    have hn : n + (k + 1) = (n + k) + 1 := by omega
    rw [hn]
    have hb := eeT_bd ok hl (n + k) (t + 1) 0 (by omega) (by omega)
    by_cases hk : ok t
    · rw [eeT_yes hk]
      by_cases e1 : 0 + 1 = l
      · rw [if_pos e1]; omega
      · rw [if_neg e1]
        have := ee_run ok hl (n + k) (t + 1) 0 (0 + 1) (by omega) (by omega) (by omega) (by omega) h1
        omega
    · rw [eeT_no hk hl]; omega
theorem EE_ok (H B : Int → Int) {l : Int} (hl : 1 ≤ l) (ns : Int) : EOK (fun u v s => EE H B l u v s) ns := by
  intro u v s u0 u1 v0 v1 s0 s1
  have hb := eeT_bd (okC H B u v) hl (72 - s).toNat s 0 (by omega) (by omega)
  refine ⟨?_, fun s' h1 h2 h3 => ?_⟩
  · show eeT _ _ _ _ _ = -1 ∨ _
    rcases hb with h | h
    · exact Or.inl h
    · right; show s + 1 ≤ eeT _ _ _ _ _ ∧ eeT _ _ _ _ _ ≤ 72; omega
  · have e1 : s + ((s' - s).toNat : Int) = s' := by omega
    have e2 : (72 - s).toNat = (72 - s').toNat + (s' - s).toNat := by omega
    have h4 := ee_shift (okC H B u v) hl (s' - s).toNat (72 - s').toNat s s0
    rw [e1, ← e2] at h4
    exact h4 h3
theorem ee_none (ok : Int → Prop) {l : Int} (hl : 1 ≤ l) : ∀ (n : Nat) (t run : Int), (∀ s, t ≤ s → s < t + n → ¬ ok s) → eeT ok l n t run = -1
  | 0, _, _, _ => rfl
  | n + 1, t, run, h => by
    rw [eeT_no (h t (Int.le_refl _) (by omega)) hl]
    exact ee_none ok hl n (t + 1) 0 (fun s h1 h2 => h s (by omega) (by omega))
theorem rlx_at (e f : Int → Int) (i : Int) : rlxF e f i i = f i := by unfold rlxF; rw [if_neg (by omega)]
theorem rlx_none {e f : Int → Int} {u : Int} (h : e u = -1) (i : Int) : rlxF e f i u = f u := by unfold rlxF; rw [if_neg (by omega)]
theorem rlx_0 (e f : Int → Int) : rlxF e f 0 = f := by funext v; unfold rlxF; rw [if_neg (by omega)]
theorem rlx_s1 {M : Mem} {e f : Int → Int} {i w : Int} (h0 : 0 ≤ i) (hw : w = e i) (h1 : e i ≠ -1) (h2 : f i = -1 ∨ e i < f i) : upM (arM M (rlxF e f i)) 24 i w = arM M (rlxF e f (i + 1)) := by
  subst hw
  funext k j; simp only [upM, arM, rlxF]; grind
theorem rlx_s2 {M : Mem} {e f : Int → Int} {i : Int} (h : ¬ (e i ≠ -1 ∧ (f i = -1 ∨ e i < f i))) : arM M (rlxF e f i) = arM M (rlxF e f (i + 1)) := by
  have : rlxF e f i = rlxF e f (i + 1) := by
    funext v
    unfold rlxF
    by_cases hv : v = i
    · subst hv; rw [if_neg (by omega), if_neg (by omega)]
    · by_cases hc : 0 ≤ v ∧ v < i ∧ e v ≠ -1 ∧ (f v = -1 ∨ e v < f v)
      · rw [if_pos hc, if_pos (by omega)]
      · rw [if_neg hc, if_neg (by omega)]
  rw [this]
