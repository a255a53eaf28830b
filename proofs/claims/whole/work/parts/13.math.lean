/-! the numbers of the system -/
theorem mul_bd {a b A B : Int} (ha : -A ≤ a ∧ a ≤ A) (hb : -B ≤ b ∧ b ≤ B) : -(A * B) ≤ a * b ∧ a * b ≤ A * B := by
  have hA : 0 ≤ A := by omega
  have hB : 0 ≤ B := by omega
  have h1 := Int.mul_nonneg (show 0 ≤ A - a by omega) (show 0 ≤ B + b by omega)
  have h2 := Int.mul_nonneg (show 0 ≤ A + a by omega) (show 0 ≤ B - b by omega)
  have h3 := Int.mul_nonneg (show 0 ≤ A - a by omega) (show 0 ≤ B - b by omega)
  have h4 := Int.mul_nonneg (show 0 ≤ A + a by omega) (show 0 ≤ B + b by omega)
  simp only [Int.sub_mul, Int.mul_add, Int.add_mul, Int.mul_sub] at h1 h2 h3 h4
  omega
def rq (v m : Int) : Int := if v < 0 then -((2 * -v + m) / (2 * m)) else (2 * v + m) / (2 * m)
def alo (c dx dy m k : Int) : Int := if 0 ≤ c % 12 + rq (k * dx) m ∧ c % 12 + rq (k * dx) m < 12 ∧ 0 ≤ c / 12 + rq (k * dy) m ∧ c / 12 + rq (k * dy) m < 12 then 12 * (c / 12 + rq (k * dy) m) + (c % 12 + rq (k * dx) m) else -1
/-- the first cell of the cells number k on that stands above the line; n cells at most -/
def fa (h : Int → Int) (c dx dy m eye rise : Int) : Nat → Int → Int
  | 0, _ => -1
  | n + 1, k => if alo c dx dy m k = -1 then -1 else if eye * m + rise * k < h (alo c dx dy m k) * m then alo c dx dy m k else fa h c dx dy m eye rise n (k + 1)
def fillM (M : Mem) (a : Nat) (n v : Int) : Mem := fun k i => if k = a ∧ 0 ≤ i ∧ i < n then v else M k i
def dist (c i : Int) : Int := (if i % 12 - c % 12 < 0 then -(i % 12 - c % 12) else i % 12 - c % 12) + (if i / 12 - c / 12 < 0 then -(i / 12 - c / 12) else i / 12 - c / 12)
def slp (c ht rad i : Int) : Int := ht - dist c i * (ht / (rad + 1))
/-- the hill's cells below n -/
def hlM (M : Mem) (a : Nat) (c ht rad n : Int) : Mem := fun k i => if k = a ∧ 0 ≤ i ∧ i < n ∧ dist c i ≤ rad ∧ M a i < slp c ht rad i then slp c ht rad i else M k i
def hlC (h : Int → Int) (c ht rad : Int) : Nat → Int → Int → Int
  | 0, _, s => s
  | n + 1, i, s => hlC h c ht rad n (i + 1) (if dist c i ≤ rad ∧ h i < slp c ht rad i then s + 1 else s)
def grT (h : Int → Int) : Nat → Int → Int → Int
  | 0, _, s => s
  | n + 1, i, s => grT h n (i + 1) (if s < h i then h i else s)
def smT (h : Int → Int) : Nat → Int → Int → Int
  | 0, _, s => s
  | n + 1, i, s => smT h n (i + 1) (s + h i)
