/-! sight, sun, mirrors: functions of heights, cells, masts, mirrors and of what the clouds cover -/
theorem alo_bd (c dx dy m k : Int) : -1 ≤ alo c dx dy m k ∧ alo c dx dy m k < 144 := by unfold alo; split <;> omega
theorem fa_bd (h : Int → Int) (c dx dy m eye rise : Int) : ∀ (n : Nat) (k : Int), -1 ≤ fa h c dx dy m eye rise n k ∧ fa h c dx dy m eye rise n k < 144
  | 0, _ => by unfold fa; omega
  | n + 1, k => by
    have h1 := alo_bd c dx dy m k
    have h2 := fa_bd h c dx dy m eye rise n (k + 1)
    unfold fa
    split
    · omega
    · split
      · exact h1
      · exact h2
def iabs (x : Int) : Int := if x < 0 then -x else x
def mxa (a b : Int) : Int := imax (iabs a) (iabs b)
theorem mxa_spec (a b : Int) : (a ≤ mxa a b ∧ -a ≤ mxa a b ∧ b ≤ mxa a b ∧ -b ≤ mxa a b) ∧ (mxa a b = a ∨ mxa a b = -a ∨ mxa a b = b ∨ mxa a b = -b) := by
  unfold mxa imax iabs
  split <;> split <;> split <;> omega
theorem mxa_of {a b m : Int} (h : (a ≤ m ∧ -a ≤ m ∧ b ≤ m ∧ -b ≤ m) ∧ (m = a ∨ m = -a ∨ m = b ∨ m = -b)) : m = mxa a b := by
  have := mxa_spec a b
  omega
def eyeF (h ce ma : Int → Int) (s : Int) : Int := h (ce s) + ma s
def blkF (h : Int → Int) (c eye t eyeT : Int) : Int := fa h c (t % 12 - c % 12) (t / 12 - c / 12) (mxa (t % 12 - c % 12) (t / 12 - c / 12)) eye (eyeT - eye) (mxa (t % 12 - c % 12) (t / 12 - c / 12) - 1).toNat 1
theorem blkF_bd (h : Int → Int) (c eye t eyeT : Int) : -1 ≤ blkF h c eye t eyeT ∧ blkF h c eye t eyeT < 144 := fa_bd ..
def betF (h ce ma : Int → Int) (a b : Int) : Int := blkF h (ce a) (eyeF h ce ma a) (ce b) (eyeF h ce ma b)
def upH (hr : Int) : Int := 6 - iabs (12 - hr)
noncomputable def snF (h : Int → Int) (c eye hr : Int) (cvd : Prop) : Int := if upH hr ≤ 0 then 1 else if fa h c (12 - hr) 3 (mxa (12 - hr) 3) eye (20 * upH hr) 11 1 ≠ -1 then 2 else @ite Int cvd (Classical.propDecidable cvd) 3 0
theorem snF_bd (h : Int → Int) (c eye hr : Int) (cvd : Prop) : 0 ≤ snF h c eye hr cvd ∧ snF h c eye hr cvd ≤ 3 := by
  unfold snF
  split
  · omega
  · split
    · omega
    · split <;> omega
theorem snF_cv (h : Int → Int) (c eye hr : Int) {cvd : Prop} (h0 : ¬ upH hr ≤ 0) (h1 : fa h c (12 - hr) 3 (mxa (12 - hr) 3) eye (20 * upH hr) 11 1 = -1) : snF h c eye hr cvd = @ite Int cvd (Classical.propDecidable cvd) 3 0 := by
  unfold snF
  rw [if_neg h0, if_neg (fun q => q h1)]
abbrev thrP (h ce ma mi : Int → Int) (a b hr : Int) : Prop := mi a = 2 ∨ 0 < 500 * ((12 - hr) * (ce b % 12 - ce a % 12) + 3 * (ce b / 12 - ce a / 12)) + upH hr * (eyeF h ce ma b - eyeF h ce ma a)
noncomputable def lnkF (h ce ma mi : Int → Int) (cv : Int → Int → Prop) (a b hr : Int) : Int := if snF h (ce a) (eyeF h ce ma a) hr (cv (ce a) hr) ≠ 0 then snF h (ce a) (eyeF h ce ma a) hr (cv (ce a) hr) else if betF h ce ma a b ≠ -1 then 4 else if thrP h ce ma mi a b hr then 0 else 5
def cvC (M : Mem) (c hr : Int) : Prop := ∃ j, 0 ≤ j ∧ j < M 11 6 ∧ cov M j (c % 12) (c / 12) hr
/-- pairs in sight -/
def siT (f : Int → Int → Int) (a : Int) : Nat → Int → Int → Int
  | 0, _, s => s
  | n + 1, b, s => siT f a n (b + 1) (if b ≠ a ∧ f a b = -1 then s + 1 else s)
def siA (f : Int → Int → Int) (k : Nat) : Nat → Int → Int → Int
  | 0, _, s => s
  | n + 1, a, s => siA f k n (a + 1) (siT f a k 0 s)
def lmT (f : Int → Int) : Nat → Int → Int
  | 0, _ => -1
  | n + 1, k => if f k = -1 then k else lmT f n (k + 1)
def ssT (f : Int → Int) : Nat → Int → Int → Int
  | 0, _, s => s
  | n + 1, b, s => ssT f n (b + 1) (if f b = -1 then s + 1 else s)
theorem ssT_bd (f : Int → Int) : ∀ (n : Nat) (b s : Int), s ≤ ssT f n b s ∧ ssT f n b s ≤ s + n
  | 0, _, s => by unfold ssT; omega
  | n + 1, b, s => by
    have h := ssT_bd f n (b + 1) (if f b = -1 then s + 1 else s)
    unfold ssT
    split at h <;> rename_i hb
    · rw [if_pos hb]; omega
    · rw [if_neg hb]; omega
theorem siT_bd (f : Int → Int → Int) (a : Int) : ∀ (n : Nat) (b s : Int), s ≤ siT f a n b s ∧ siT f a n b s ≤ s + n
  | 0, _, s => by unfold siT; omega
  | n + 1, b, s => by
    have h := siT_bd f a n (b + 1) (if b ≠ a ∧ f a b = -1 then s + 1 else s)
    unfold siT
    split at h <;> rename_i hb
    · rw [if_pos hb]; omega
    · rw [if_neg hb]; omega
/-- the best cell: seen z of a cell, none where it is taken -/
noncomputable def bcT (tk : Int → Prop) (h z : Int → Int) : Nat → Int → Int → Int → Int
  | 0, _, b, _ => b
  | n + 1, c, b, v => @ite Int (tk c) (Classical.propDecidable _) (bcT tk h z n (c + 1) b v) (if b = -1 ∨ v < z c ∨ (z c = v ∧ h b < h c) then bcT tk h z n (c + 1) c (z c) else bcT tk h z n (c + 1) b v)
/-! bits -/
theorem tI_inr (x : Int32) : Inr x.toInt := ⟨by have := Int32.le_toInt x; omega, by have := Int32.toInt_lt x; omega⟩
noncomputable def shT (f : Int → Prop) : Nat → Int → Int → Int
  | 0, _, s => s
  | n + 1, hr, s => shT f n (hr + 1) (@ite Int (f hr) (Classical.propDecidable _) (iorI s (ishlI 1 hr)) s)
abbrev bitP (s hr : Int) : Prop := iandI (ishrI s hr) 1 = 1
theorem shT_inr (f : Int → Prop) : ∀ (n : Nat) (hr s : Int), Inr s → Inr (shT f n hr s)
  | 0, _, _, h => h
  | n + 1, hr, s, h => by
    unfold shT
    apply shT_inr f n (hr + 1)
    split
    · exact tI_inr _
    · exact h
theorem shT_yes {f : Int → Prop} {n : Nat} {hr s : Int} (h : f hr) : shT f (n + 1) hr s = shT f n (hr + 1) (iorI s (ishlI 1 hr)) := by
  conv => lhs; unfold shT
  rw [if_pos h]
theorem shT_no {f : Int → Prop} {n : Nat} {hr s : Int} (h : ¬ f hr) : shT f (n + 1) hr s = shT f n (hr + 1) s := by
  conv => lhs; unfold shT
  rw [if_neg h]
