/-! the numbers of the system -/
theorem mul_bd {a b A B : Int} (ha : -A ≤ a ∧ a ≤ A) (hb : -B ≤ b ∧ b ≤ B) : -(A * B) ≤ a * b ∧ a * b ≤ A * B := by
  have hA : 0 ≤ A := by omega
  have hB : 0 ≤ B := by omega
  have h1 := Int.mul_nonneg (show 0 ≤ A - a by omega) (show 0 ≤ B + b by omega)
  have h2 := Int.mul_nonneg (show 0 ≤ A + a by omega) (show 0 ≤ B - b by omega)
  have h3 := Int.mul_nonneg (show 0 ≤ A - a by omega) (show 0 ≤ B - b by omega)
  have h4 := Int.mul_nonneg (show 0 ≤ A + a by omega) (show 0 ≤ B + b by omega)
  simp only [Int.sub_mul, Int.mul_add, Int.add_mul, Int.mul_sub] at h1 h2 h3 h4
  omega
def rq (v m : Int) : Int := if v < 0 then -((2 * -v + m) / (2 * m)) else (2 * v + m) / (2 * m)
theorem rq_bd {v m : Int} (hv : -1000 ≤ v ∧ v ≤ 1000) (hm : 1 ≤ m ∧ m ≤ 1000) : -3000 ≤ rq v m ∧ rq v m ≤ 3000 := by
  unfold rq
  split
  · have h1 := Int.ediv_nonneg (show 0 ≤ 2 * -v + m by omega) (show 0 ≤ 2 * m by omega)
    have h2 := Int.ediv_le_self (2 * m) (show 0 ≤ 2 * -v + m by omega)
    omega
  · have h1 := Int.ediv_nonneg (show 0 ≤ 2 * v + m by omega) (show 0 ≤ 2 * m by omega)
    have h2 := Int.ediv_le_self (2 * m) (show 0 ≤ 2 * v + m by omega)
    omega
def alo (c dx dy m k : Int) : Int := if 0 ≤ c % 12 + rq (k * dx) m ∧ c % 12 + rq (k * dx) m < 12 ∧ 0 ≤ c / 12 + rq (k * dy) m ∧ c / 12 + rq (k * dy) m < 12 then 12 * (c / 12 + rq (k * dy) m) + (c % 12 + rq (k * dx) m) else -1
/-- the first cell of the cells number k on that stands above the line; n cells at most -/
def fa (h : Int → Int) (c dx dy m eye rise : Int) : Nat → Int → Int
  | 0, _ => -1
  | n + 1, k => if alo c dx dy m k = -1 then -1 else if eye * m + rise * k < h (alo c dx dy m k) * m then alo c dx dy m k else fa h c dx dy m eye rise n (k + 1)
def fillM (M : Mem) (a : Nat) (n v : Int) : Mem := fun k i => if k = a ∧ 0 ≤ i ∧ i < n then v else M k i
def dist (c i : Int) : Int := (if i % 12 - c % 12 < 0 then -(i % 12 - c % 12) else i % 12 - c % 12) + (if i / 12 - c / 12 < 0 then -(i / 12 - c / 12) else i / 12 - c / 12)
def slp (c ht rad i : Int) : Int := ht - dist c i * (ht / (rad + 1))
/-- the hill's cells below n -/
def hlM (M : Mem) (a : Nat) (c ht rad n : Int) : Mem := fun k i => if k = a ∧ 0 ≤ i ∧ i < n ∧ dist c i ≤ rad ∧ M a i < slp c ht rad i then slp c ht rad i else M k i
def hlC (h : Int → Int) (c ht rad : Int) : Nat → Int → Int → Int
  | 0, _, s => s
  | n + 1, i, s => hlC h c ht rad n (i + 1) (if dist c i ≤ rad ∧ h i < slp c ht rad i then s + 1 else s)
def grT (h : Int → Int) : Nat → Int → Int → Int
  | 0, _, s => s
  | n + 1, i, s => grT h n (i + 1) (if s < h i then h i else s)
def smT (h : Int → Int) : Nat → Int → Int → Int
  | 0, _, s => s
  | n + 1, i, s => smT h n (i + 1) (s + h i)
/-! what the class's cells hold -/
def TInv (M : Mem) : Prop := ∀ i, 0 ≤ i → i < 144 → 0 ≤ M 2 i ∧ M 2 i ≤ 500
def SInv (M : Mem) : Prop := (0 ≤ M 7 3 ∧ M 7 3 ≤ 8) ∧ (∀ i, 0 ≤ i → i < M 7 3 → (0 ≤ M 8 i ∧ M 8 i < 144) ∧ (0 ≤ M 9 i ∧ M 9 i ≤ 50) ∧ (1 ≤ M 10 i ∧ M 10 i ≤ 2)) ∧ ∀ i j, 0 ≤ i → i < M 7 3 → 0 ≤ j → j < M 7 3 → M 8 i = M 8 j → i = j
def KInv (M : Mem) : Prop := (0 ≤ M 11 6 ∧ M 11 6 ≤ 6) ∧ ∀ i, 0 ≤ i → i < M 11 6 → (0 ≤ M 12 i ∧ M 12 i < 12) ∧ (0 ≤ M 13 i ∧ M 13 i < 12) ∧ (0 ≤ M 14 i ∧ M 14 i < 12) ∧ (0 ≤ M 15 i ∧ M 15 i < 12) ∧ (6 ≤ M 16 i ∧ M 16 i ≤ 17) ∧ (6 ≤ M 17 i ∧ M 17 i ≤ 17)
abbrev cov (M : Mem) (j x y hr : Int) : Prop := M 12 j ≤ x ∧ x ≤ M 13 j ∧ M 14 j ≤ y ∧ y ≤ M 15 j ∧ M 16 j ≤ hr ∧ hr ≤ M 17 j
def c2T (f : Int → Int) : Nat → Int → Int → Int
  | 0, _, s => s
  | n + 1, i, s => c2T f n (i + 1) (if f i = 2 then s + 1 else s)
def imin (a b : Int) : Int := if a ≤ b then a else b
def imax (a b : Int) : Int := if a ≤ b then b else a
theorem QcI {Q : Out → Mem → Prop} {x y : Int} {M M' : Mem} (h : x = y) (h2 : M = M') (hq : Q (.inl (some (vI y))) M') : Q (.inl (some (vI x))) M := by rw [h, h2]; exact hq
theorem QcV {Q : Out → Mem → Prop} {M M' : Mem} (h2 : M = M') (hq : Q (.inl none) M') : Q (.inl none) M := by rw [h2]; exact hq
/-! the timetable -/
def GInv (M : Mem) : Prop := (0 ≤ M 19 2 ∧ M 19 2 ≤ 20) ∧ (∀ m, 0 ≤ m → m < M 19 2 → (0 ≤ M 20 (27 * m) ∧ M 20 (27 * m) < 8) ∧ (0 ≤ M 20 (27 * m + 1) ∧ M 20 (27 * m + 1) < 8) ∧ (1 ≤ M 20 (27 * m + 2) ∧ M 20 (27 * m + 2) ≤ 6) ∧ (0 ≤ M 20 (27 * m + 3) ∧ M 20 (27 * m + 3) < 72) ∧ (0 ≤ M 20 (27 * m + 4) ∧ M 20 (27 * m + 4) ≤ 72) ∧ (0 ≤ M 20 (27 * m + 5) ∧ M 20 (27 * m + 5) ≤ 7)) ∧ (∀ i, 0 ≤ i → i < 576 → -1 ≤ M 21 i ∧ M 21 i < 20)
def bkM (M : Mem) (a : Nat) (st s e v : Int) : Mem := fun k i => if k = a ∧ 72 * st + s ≤ i ∧ i < 72 * st + e then v else M k i
def rmM (M : Mem) (msg n : Int) : Mem := fun k i => if k = 21 ∧ 0 ≤ i ∧ i < n then (if M 21 i = msg then -1 else if msg < M 21 i then M 21 i - 1 else M 21 i) else M k i
def bzT (f : Int → Int) : Nat → Int → Int → Int
  | 0, _, s => s
  | n + 1, i, s => bzT f n (i + 1) (if f i = -1 then s else s + 1)
def bzA (f : Int → Int) : Nat → Int → Int → Int
  | 0, _, s => s
  | n + 1, i, s => bzA f n (i + 1) (s + bzT (fun t => f (72 * i + t)) 72 0 0)
def laT (f : Int → Int) : Nat → Int → Int → Int
  | 0, _, s => s
  | n + 1, i, s => laT f n (i + 1) (if s < f i then f i else s)
theorem rm_at (X : Mem) (m i : Int) : rmM X m i 21 i = X 21 i := by unfold rmM; rw [if_neg (by omega)]
theorem rm_s1 {X : Mem} {m i : Int} (h0 : 0 ≤ i) (h : rmM X m i 21 i = m) : upM (rmM X m i) 21 i (-1) = rmM X m (i + 1) := by
  rw [rm_at] at h
  funext k j; simp only [upM, rmM]; grind
theorem rm_s2 {X : Mem} {m i : Int} (h0 : 0 ≤ i) (h : m < rmM X m i 21 i) : upM (rmM X m i) 21 i (rmM X m i 21 i - 1) = rmM X m (i + 1) := by
  rw [rm_at] at h ⊢
  funext k j; simp only [upM, rmM]; grind
theorem rm_s3 {X : Mem} {m i : Int} (h0 : 0 ≤ i) (h : rmM X m i 21 i < m) : rmM X m i = rmM X m (i + 1) := by
  rw [rm_at] at h
  funext k j; simp only [rmM]; grind
