/-! a message's transmissions -/
def entE (M : Mem) (m a b l t v : Int) : Mem := upM (upM (upM (upM (upM (upM (upM M 20 (27 * m + 0) a) 20 (27 * m + 1) b) 20 (27 * m + 2) l) 20 (27 * m + 3) t) 20 (27 * m + 4) v) 20 (27 * m + 5) 0) 19 2 (m + 1)
def hopE (M : Mem) (m h a b t l : Int) : Mem := bkM (bkM (upM (upM (upM (upM M 20 (27 * m + 6 + 3 * h) a) 20 (27 * m + 6 + 3 * h + 1) b) 20 (27 * m + 6 + 3 * h + 2) t) 20 (27 * m + 5) (h + 1)) 21 a t (t + l) m) 21 b t (t + l) m
def hpT (m l : Int) : Nat → Int → Int → Mem → Mem
  | 0, _, _, X => X
  | n + 1, q, h, X => hpT m l n (q + 1) (h + 1) (hopE X m h (X 25 (q - 1)) (X 25 q) (X 24 (X 25 q) - l) l)
theorem hop_f1 (X : Mem) (m h a b t l : Int) : hopE X m h a b t l 20 (27 * m + 5) = h + 1 := by
  simp only [hopE, bkM, upM]; grind
theorem hop_f2 (X : Mem) (m a b t l : Int) {h : Int} (hh : 0 ≤ h) : hopE X m h a b t l 20 (27 * m + 2) = X 20 (27 * m + 2) := by
  simp only [hopE, bkM, upM]; grind
theorem ent_f1 (X : Mem) (m a b l t v : Int) : entE X m a b l t v 20 (27 * m + 5) = 0 := by
  simp only [entE, upM]; grind
theorem ent_f2 (X : Mem) (m a b l t v : Int) : entE X m a b l t v 20 (27 * m + 2) = l := by
  simp only [entE, upM]; grind
