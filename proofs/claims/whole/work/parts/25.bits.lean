def bt (x : Int32) (i : Nat) : Bool := x.toBitVec.getLsbD i
theorem b_ext {x y : Int32} (h : ∀ i, i < 32 → bt x i = bt y i) : x = y := Int32.toBitVec_inj.mp (BitVec.eq_of_getLsbD_eq (fun i hi => h i hi))
theorem b_or (x y : Int32) (i : Nat) : bt (x ||| y) i = (bt x i || bt y i) := by unfold bt; rw [Int32.toBitVec_or, BitVec.getLsbD_or]
theorem b_and (x y : Int32) (i : Nat) : bt (x &&& y) i = (bt x i && bt y i) := by unfold bt; rw [Int32.toBitVec_and, BitVec.getLsbD_and]
theorem b_xor (x y : Int32) (i : Nat) : bt (x ^^^ y) i = (bt x i ^^ bt y i) := by unfold bt; rw [Int32.toBitVec_xor, BitVec.getLsbD_xor]
theorem b_big {x : Int32} {i : Nat} (h : 32 ≤ i) : bt x i = false := BitVec.getLsbD_of_ge _ _ h
theorem b_0 (i : Nat) : bt 0 i = false := BitVec.getLsbD_zero
theorem s_l : ∀ n, n < 32 → ((nI n &&& 31).toBitVec.smod 32).toNat = n := by decide +kernel
theorem s_u : ∀ n, n < 32 → (((nI n).toUInt32 &&& Int32.toUInt32 31).toBitVec % 32).toNat = n := by decide +kernel
theorem b_shl (n : Nat) (hn : n < 32) (x : Int32) {i : Nat} (hi : i < 32) : bt (x <<< (nI n &&& 31)) i = (decide (n ≤ i) && bt x (i - n)) := by
  unfold bt
  rw [Int32.toBitVec_shiftLeft]
  show (x.toBitVec <<< ((nI n &&& 31).toBitVec.smod 32).toNat).getLsbD i = _
  rw [s_l n hn, BitVec.getLsbD_shiftLeft]
  rcases Nat.lt_or_ge i n with h | h
  · simp [h, Nat.not_le.mpr h]
  · simp [hi, h, Nat.not_lt.mpr h]
theorem b_ushr (n : Nat) (hn : n < 32) (x : Int32) (i : Nat) : bt ((x.toUInt32 >>> ((nI n).toUInt32 &&& Int32.toUInt32 31)).toInt32) i = bt x (n + i) := by
  show (x.toUInt32 >>> ((nI n).toUInt32 &&& Int32.toUInt32 31)).toBitVec.getLsbD i = x.toUInt32.toBitVec.getLsbD (n + i)
  rw [UInt32.toBitVec_shiftRight]
  show (x.toUInt32.toBitVec >>> (((nI n).toUInt32 &&& Int32.toUInt32 31).toBitVec % 32).toNat).getLsbD i = _
  rw [s_u n hn, BitVec.getLsbD_ushiftRight]
theorem b_sshr (n : Nat) (hn : n < 32) (x : Int32) {i : Nat} (hi : i < 32) : bt (x >>> (nI n &&& 31)) i = if n + i < 32 then bt x (n + i) else bt x 31 := by
  unfold bt
  rw [Int32.toBitVec_shiftRight]
  show (x.toBitVec.sshiftRight ((nI n &&& 31).toBitVec.smod 32).toNat).getLsbD i = _
  rw [s_l n hn, BitVec.getLsbD_sshiftRight, BitVec.msb_eq_getLsbD_last]
  simp [hi]
theorem bt_1 : ∀ i, i < 32 → bt 1 i = decide (i = 0) := by decide +kernel
theorem bt_and1 (x : Int32) : (x &&& 1 = 1 ↔ bt x 0 = true) ∧ (x &&& 1 = 0 ↔ bt x 0 = false) := by
  have key : ∀ i, i < 32 → bt (x &&& 1) i = (bt x i && decide (i = 0)) := fun i hi => by rw [b_and, bt_1 i hi]
  cases hb : bt x 0 with
  | true =>
    have h1 : x &&& 1 = 1 := b_ext fun i hi => by
      rw [key i hi, bt_1 i hi]
      by_cases h0 : i = 0
      · subst h0; rw [hb]; rfl
      · rw [decide_eq_false h0, Bool.and_false]
    refine ⟨⟨fun _ => rfl, fun _ => h1⟩, ⟨fun h => ?_, fun h => by cases h⟩⟩
    rw [h1] at h; exact absurd h (by decide)
  | false =>
    have h1 : x &&& 1 = 0 := b_ext fun i hi => by
      rw [key i hi, b_0]
      by_cases h0 : i = 0
      · subst h0; rw [hb]; rfl
      · rw [decide_eq_false h0, Bool.and_false]
    refine ⟨⟨fun h => ?_, fun h => by cases h⟩, ⟨fun _ => rfl, fun _ => h1⟩⟩
    rw [h1] at h; exact absurd h (by decide)
theorem bitP_eq {S u : Int} (h0 : 0 ≤ u) (h1 : u < 32) : (iandI (ishrI S u) 1 = 1 ↔ bt (Int32.ofInt S) u.toNat = true) ∧ (iandI (ishrI S u) 1 = 0 ↔ bt (Int32.ofInt S) u.toNat = false) := by
  have hb : bt (Int32.ofInt S >>> (Int32.ofInt u &&& 31)) 0 = bt (Int32.ofInt S) u.toNat := by
    rw [oI_nat h0, b_sshr u.toNat (by omega) _ (by omega : 0 < 32), if_pos (by omega)]
    rfl
  have h2 := bt_and1 (Int32.ofInt S >>> (Int32.ofInt u &&& 31))
  rw [hb] at h2
  unfold iandI ishrI
  rw [Int32.ofInt_toInt]
  constructor
  · rw [← h2.1]
    constructor
    · intro h; exact Int32.toInt_inj.mp (h.trans (by decide : (1 : Int) = (1 : Int32).toInt))
    · intro h
      have h3 : (Int32.ofInt S >>> (Int32.ofInt u &&& 31) &&& Int32.ofInt 1) = 1 := h
      rw [h3]; decide
  · rw [← h2.2]
    constructor
    · intro h; exact Int32.toInt_inj.mp (h.trans (by decide : (0 : Int) = (0 : Int32).toInt))
    · intro h
      have h3 : (Int32.ofInt S >>> (Int32.ofInt u &&& 31) &&& Int32.ofInt 1) = 0 := h
      rw [h3]; decide
theorem bit_01 {S u : Int} (h0 : 0 ≤ u) (h1 : u < 32) : iandI (ishrI S u) 1 = 0 ↔ ¬ bitP S u := by
  have h := bitP_eq (S := S) h0 h1
  rw [h.2]
  constructor
  · intro q r; have := h.1.mp r; rw [q] at this; cases this
  · intro q
    cases hb : bt (Int32.ofInt S) u.toNat with
    | false => rfl
    | true => exact absurd (h.1.mpr hb) q
theorem bit_or {S x u : Int} (x0 : 0 ≤ x) (x1 : x < 32) (h0 : 0 ≤ u) (h1 : u < 32) : bitP (iorI S (ishlI 1 x)) u ↔ u = x ∨ bitP S u := by
  rw [show bitP (iorI S (ishlI 1 x)) u ↔ _ from (bitP_eq h0 h1).1, show bitP S u ↔ _ from (bitP_eq h0 h1).1]
  unfold iorI ishlI
  rw [Int32.ofInt_toInt, Int32.ofInt_toInt, b_or, oI_nat x0, b_shl x.toNat (by omega) _ (by omega)]
  have hb : bt (Int32.ofInt 1) (u.toNat - x.toNat) = decide (u.toNat - x.toNat = 0) := bt_1 _ (by omega)
  rw [hb, Bool.or_eq_true, Bool.and_eq_true, decide_eq_true_eq, decide_eq_true_eq]
  constructor
  · rintro (h | ⟨h, h2⟩)
    · exact Or.inr h
    · exact Or.inl (by omega)
  · rintro (h | h)
    · exact Or.inr ⟨by omega, by omega⟩
    · exact Or.inl h
theorem bit_0 {u : Int} (h0 : 0 ≤ u) (h1 : u < 32) : ¬ bitP 0 u := by
  rw [show bitP 0 u ↔ _ from (bitP_eq h0 h1).1]
  have : bt (Int32.ofInt 0) u.toNat = false := b_0 _
  rw [this]; decide
/-- which bits a set of hours has -/
theorem shT_bit (f : Int → Prop) {u : Int} (h0 : 0 ≤ u) (h1 : u < 32) : ∀ (n : Nat) (hr s : Int), 0 ≤ hr → hr + n ≤ 32 → (bitP (shT f n hr s) u ↔ bitP s u ∨ (hr ≤ u ∧ u < hr + n ∧ f u))
  | 0, hr, s, _, _ => by
    constructor
    · exact fun h => Or.inl h
    · rintro (h | h)
      · exact h
      · omega
  | n + 1, hr, s, g0, g1 => by
    by_cases hf : f hr
    · rw [shT_yes hf, shT_bit f h0 h1 n (hr + 1) _ (by omega) (by omega), bit_or g0 (by omega) h0 h1]
      constructor
      · rintro ((h | h) | ⟨h, h2, h3⟩)
        · subst h; exact Or.inr ⟨Int.le_refl _, by omega, hf⟩
        · exact Or.inl h
        · exact Or.inr ⟨by omega, by omega, h3⟩
      · rintro (h | ⟨h, h2, h3⟩)
        · exact Or.inl (Or.inr h)
        · by_cases he : u = hr
          · exact Or.inl (Or.inl he)
          · exact Or.inr ⟨by omega, by omega, h3⟩
    · rw [shT_no hf, shT_bit f h0 h1 n (hr + 1) _ (by omega) (by omega)]
      constructor
      · rintro (h | ⟨h, h2, h3⟩)
        · exact Or.inl h
        · exact Or.inr ⟨by omega, by omega, h3⟩
      · rintro (h | ⟨h, h2, h3⟩)
        · exact Or.inl h
        · refine Or.inr ⟨?_, by omega, h3⟩
          by_cases he : u = hr
          · subst he; exact absurd h3 hf
          · omega
