/-! Integer.bitCount -/
def bc1 (x : Int) : Int := x - iandI (iushrI x 1) 1431655765
def bc2 (x : Int) : Int := iandI x 858993459 + iandI (iushrI x 2) 858993459
def bc3 (x : Int) : Int := iandI (x + iushrI x 4) 252645135
def bc4 (x : Int) : Int := x + iushrI x 8
def bc5 (x : Int) : Int := x + iushrI x 16
def bcI (x : Int) : Int := iandI (bc5 (bc4 (bc3 (bc2 (bc1 x))))) 63
def pc12 (v : Int) : Int := v % 2 + v / 2 % 2 + v / 4 % 2 + v / 8 % 2 + v / 16 % 2 + v / 32 % 2 + v / 64 % 2 + v / 128 % 2 + v / 256 % 2 + v / 512 % 2 + v / 1024 % 2 + v / 2048 % 2
theorem bc_all : ((List.range 4096).all fun v => decide (bcI (64 * (v : Int)) = pc12 (v : Int))) = true := by decide +kernel
theorem bc_at {v : Int} (h0 : 0 ≤ v) (h1 : v < 4096) : bcI (64 * v) = pc12 v := by
  have h := of_decide_eq_true (List.all_eq_true.mp bc_all v.toNat (List.mem_range.mpr (by omega)))
  rw [show ((v.toNat : Nat) : Int) = v from by omega] at h
  exact h
