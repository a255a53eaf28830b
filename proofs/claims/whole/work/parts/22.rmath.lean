/-! routes: when a transmission can end -/
abbrev okC (H B : Int → Int) (a b t : Int) : Prop := bitP (H (8 * a + b)) (6 + t / 6) ∧ B (72 * a + t) = -1 ∧ B (72 * b + t) = -1
/-- the end of the first run of l free turns from turn t on; n turns are left -/
noncomputable def eeT (ok : Int → Prop) (l : Int) : Nat → Int → Int → Int
  | 0, _, _ => -1
  | n + 1, t, run => @ite Int (ok t) (Classical.propDecidable _) (if run + 1 = l then t + 1 else eeT ok l n (t + 1) (run + 1)) (if 0 = l then t + 1 else eeT ok l n (t + 1) 0)
theorem eeT_yes {ok : Int → Prop} {l : Int} {n : Nat} {t run : Int} (h : ok t) : eeT ok l (n + 1) t run = if run + 1 = l then t + 1 else eeT ok l n (t + 1) (run + 1) := by
  conv => lhs; unfold eeT
  rw [if_pos h]
theorem eeT_no {ok : Int → Prop} {l : Int} {n : Nat} {t run : Int} (h : ¬ ok t) (hl : 1 ≤ l) : eeT ok l (n + 1) t run = eeT ok l n (t + 1) 0 := by
  conv => lhs; unfold eeT
  rw [if_neg h, if_neg (by omega)]
theorem eeT_bd (ok : Int → Prop) {l : Int} (hl : 1 ≤ l) : ∀ (n : Nat) (t run : Int), 0 ≤ run → run < l → eeT ok l n t run = -1 ∨ (t + (l - run) ≤ eeT ok l n t run ∧ eeT ok l n t run ≤ t + n)
  | 0, _, _, _, _ => Or.inl rfl
  | n + 1, t, run, h0, h1 => by
    by_cases h : ok t
    · rw [eeT_yes h]
      by_cases h2 : run + 1 = l
      · rw [if_pos h2]; right; omega
      · rw [if_neg h2]
        rcases eeT_bd ok hl n (t + 1) (run + 1) (by omega) (by omega) with h3 | h3
        · exact Or.inl h3
        · right; omega
    · rw [eeT_no h hl]
      rcases eeT_bd ok hl n (t + 1) 0 (by omega) (by omega) with h3 | h3
      · exact Or.inl h3
      · right; omega
noncomputable abbrev EE (H B : Int → Int) (l a b t : Int) : Int := eeT (okC H B a b) l (72 - t).toNat t 0
def arM (M : Mem) (f : Int → Int) : Mem := fun k j => if k = 24 then f j else M k j
