def fX0 : List (Nat × Nat × Nat) := [(9, 0, 0), (15, 0, 1), (18, 0, 2), (21, 0, 3), (24, 0, 4), (27, 0, 5), (30, 0, 6)]
def kX0 : List (Nat × Nat × Int) := []
theorem fo_X0 : ∀ e ∈ fX0, ∀ q, vwCl[e.2.1]? = some q → e.2.2 < q.2.2 ∧ Cond.fieldLink RX0 e.1 (q.2.1 e.2.2).1 (q.2.1 e.2.2).2.1 (q.2.1 e.2.2).2.2.1 ∈ lw_big := by
  intro e he q hq
  simp only [fX0, List.mem_cons, List.not_mem_nil, or_false] at he
  rcases he with rfl | rfl | rfl | rfl | rfl | rfl | rfl
  · cases hq; exact ⟨by decide, bm 156 _ (by decide +kernel) (by decide +kernel)⟩
  · cases hq; exact ⟨by decide, bm 157 _ (by decide +kernel) (by decide +kernel)⟩
  · cases hq; exact ⟨by decide, bm 158 _ (by decide +kernel) (by decide +kernel)⟩
  · cases hq; exact ⟨by decide, bm 159 _ (by decide +kernel) (by decide +kernel)⟩
  · cases hq; exact ⟨by decide, bm 160 _ (by decide +kernel) (by decide +kernel)⟩
  · cases hq; exact ⟨by decide, bm 161 _ (by decide +kernel) (by decide +kernel)⟩
  · cases hq; exact ⟨by decide, bm 162 _ (by decide +kernel) (by decide +kernel)⟩
theorem ko_X0 : ∀ e ∈ kX0, (e.2.1 = 0 → Cond.constant RX0 e.1 (Int32.ofInt e.2.2) ∈ lw_big) ∧ (e.2.1 = 1 → Cond.constantLong RX0 e.1 (Int64.ofInt e.2.2) ∈ lw_big) := by
  intro e he; cases he
def fX1 : List (Nat × Nat × Nat) := [(9, 1, 0), (15, 1, 1), (18, 1, 2), (21, 1, 3), (25, 1, 4), (28, 1, 5)]
def kX1 : List (Nat × Nat × Int) := []
theorem fo_X1 : ∀ e ∈ fX1, ∀ q, vwCl[e.2.1]? = some q → e.2.2 < q.2.2 ∧ Cond.fieldLink RX1 e.1 (q.2.1 e.2.2).1 (q.2.1 e.2.2).2.1 (q.2.1 e.2.2).2.2.1 ∈ lw_big := by
  intro e he q hq
  simp only [fX1, List.mem_cons, List.not_mem_nil, or_false] at he
  rcases he with rfl | rfl | rfl | rfl | rfl | rfl
  · cases hq; exact ⟨by decide, bm 112 _ (by decide +kernel) (by decide +kernel)⟩
  · cases hq; exact ⟨by decide, bm 113 _ (by decide +kernel) (by decide +kernel)⟩
  · cases hq; exact ⟨by decide, bm 114 _ (by decide +kernel) (by decide +kernel)⟩
  · cases hq; exact ⟨by decide, bm 115 _ (by decide +kernel) (by decide +kernel)⟩
  · cases hq; exact ⟨by decide, bm 116 _ (by decide +kernel) (by decide +kernel)⟩
  · cases hq; exact ⟨by decide, bm 117 _ (by decide +kernel) (by decide +kernel)⟩
theorem ko_X1 : ∀ e ∈ kX1, (e.2.1 = 0 → Cond.constant RX1 e.1 (Int32.ofInt e.2.2) ∈ lw_big) ∧ (e.2.1 = 1 → Cond.constantLong RX1 e.1 (Int64.ofInt e.2.2) ∈ lw_big) := by
  intro e he; cases he
def fX2 : List (Nat × Nat × Nat) := [(9, 2, 0), (15, 2, 1), (19, 2, 2)]
def kX2 : List (Nat × Nat × Int) := []
theorem fo_X2 : ∀ e ∈ fX2, ∀ q, vwCl[e.2.1]? = some q → e.2.2 < q.2.2 ∧ Cond.fieldLink RX2 e.1 (q.2.1 e.2.2).1 (q.2.1 e.2.2).2.1 (q.2.1 e.2.2).2.2.1 ∈ lw_big := by
  intro e he q hq
  simp only [fX2, List.mem_cons, List.not_mem_nil, or_false] at he
  rcases he with rfl | rfl | rfl
  · cases hq; exact ⟨by decide, bm 184 _ (by decide +kernel) (by decide +kernel)⟩
  · cases hq; exact ⟨by decide, bm 185 _ (by decide +kernel) (by decide +kernel)⟩
  · cases hq; exact ⟨by decide, bm 186 _ (by decide +kernel) (by decide +kernel)⟩
theorem ko_X2 : ∀ e ∈ kX2, (e.2.1 = 0 → Cond.constant RX2 e.1 (Int32.ofInt e.2.2) ∈ lw_big) ∧ (e.2.1 = 1 → Cond.constantLong RX2 e.1 (Int64.ofInt e.2.2) ∈ lw_big) := by
  intro e he; cases he
def fX3 : List (Nat × Nat × Nat) := [(24, 3, 0), (28, 3, 1), (32, 3, 2), (9, 3, 3), (15, 3, 4), (18, 3, 5), (21, 3, 6), (62, 3, 7)]
def kX3 : List (Nat × Nat × Int) := []
theorem fo_X3 : ∀ e ∈ fX3, ∀ q, vwCl[e.2.1]? = some q → e.2.2 < q.2.2 ∧ Cond.fieldLink RX3 e.1 (q.2.1 e.2.2).1 (q.2.1 e.2.2).2.1 (q.2.1 e.2.2).2.2.1 ∈ lw_big := by
  intro e he q hq
  simp only [fX3, List.mem_cons, List.not_mem_nil, or_false] at he
  rcases he with rfl | rfl | rfl | rfl | rfl | rfl | rfl | rfl
  · cases hq; exact ⟨by decide, bm 219 _ (by decide +kernel) (by decide +kernel)⟩
  · cases hq; exact ⟨by decide, bm 220 _ (by decide +kernel) (by decide +kernel)⟩
  · cases hq; exact ⟨by decide, bm 221 _ (by decide +kernel) (by decide +kernel)⟩
  · cases hq; exact ⟨by decide, bm 222 _ (by decide +kernel) (by decide +kernel)⟩
  · cases hq; exact ⟨by decide, bm 223 _ (by decide +kernel) (by decide +kernel)⟩
  · cases hq; exact ⟨by decide, bm 224 _ (by decide +kernel) (by decide +kernel)⟩
  · cases hq; exact ⟨by decide, bm 225 _ (by decide +kernel) (by decide +kernel)⟩
  · cases hq; exact ⟨by decide, bm 226 _ (by decide +kernel) (by decide +kernel)⟩
theorem ko_X3 : ∀ e ∈ kX3, (e.2.1 = 0 → Cond.constant RX3 e.1 (Int32.ofInt e.2.2) ∈ lw_big) ∧ (e.2.1 = 1 → Cond.constantLong RX3 e.1 (Int64.ofInt e.2.2) ∈ lw_big) := by
  intro e he; cases he
def fX4 : List (Nat × Nat × Nat) := [(9, 4, 0), (15, 4, 1), (18, 4, 2), (21, 4, 3)]
def kX4 : List (Nat × Nat × Int) := []
theorem fo_X4 : ∀ e ∈ fX4, ∀ q, vwCl[e.2.1]? = some q → e.2.2 < q.2.2 ∧ Cond.fieldLink RX4 e.1 (q.2.1 e.2.2).1 (q.2.1 e.2.2).2.1 (q.2.1 e.2.2).2.2.1 ∈ lw_big := by
  intro e he q hq
  simp only [fX4, List.mem_cons, List.not_mem_nil, or_false] at he
  rcases he with rfl | rfl | rfl | rfl
  · cases hq; exact ⟨by decide, bm 137 _ (by decide +kernel) (by decide +kernel)⟩
  · cases hq; exact ⟨by decide, bm 138 _ (by decide +kernel) (by decide +kernel)⟩
  · cases hq; exact ⟨by decide, bm 139 _ (by decide +kernel) (by decide +kernel)⟩
  · cases hq; exact ⟨by decide, bm 140 _ (by decide +kernel) (by decide +kernel)⟩
theorem ko_X4 : ∀ e ∈ kX4, (e.2.1 = 0 → Cond.constant RX4 e.1 (Int32.ofInt e.2.2) ∈ lw_big) ∧ (e.2.1 = 1 → Cond.constantLong RX4 e.1 (Int64.ofInt e.2.2) ∈ lw_big) := by
  intro e he; cases he
def fX5 : List (Nat × Nat × Nat) := [(9, 5, 0)]
def kX5 : List (Nat × Nat × Int) := []
theorem fo_X5 : ∀ e ∈ fX5, ∀ q, vwCl[e.2.1]? = some q → e.2.2 < q.2.2 ∧ Cond.fieldLink RX5 e.1 (q.2.1 e.2.2).1 (q.2.1 e.2.2).2.1 (q.2.1 e.2.2).2.2.1 ∈ lw_big := by
  intro e he q hq
  simp only [fX5, List.mem_cons, List.not_mem_nil, or_false] at he
  rcases he with rfl
  · cases hq; exact ⟨by decide, bm 101 _ (by decide +kernel) (by decide +kernel)⟩
theorem ko_X5 : ∀ e ∈ kX5, (e.2.1 = 0 → Cond.constant RX5 e.1 (Int32.ofInt e.2.2) ∈ lw_big) ∧ (e.2.1 = 1 → Cond.constantLong RX5 e.1 (Int64.ofInt e.2.2) ∈ lw_big) := by
  intro e he; cases he
def fX6 : List (Nat × Nat × Nat) := [(11, 6, 0), (15, 6, 1), (24, 6, 2)]
def kX6 : List (Nat × Nat × Int) := []
theorem fo_X6 : ∀ e ∈ fX6, ∀ q, vwCl[e.2.1]? = some q → e.2.2 < q.2.2 ∧ Cond.fieldLink RX6 e.1 (q.2.1 e.2.2).1 (q.2.1 e.2.2).2.1 (q.2.1 e.2.2).2.2.1 ∈ lw_big := by
  intro e he q hq
  simp only [fX6, List.mem_cons, List.not_mem_nil, or_false] at he
  rcases he with rfl | rfl | rfl
  · cases hq; exact ⟨by decide, bm 203 _ (by decide +kernel) (by decide +kernel)⟩
  · cases hq; exact ⟨by decide, bm 204 _ (by decide +kernel) (by decide +kernel)⟩
  · cases hq; exact ⟨by decide, bm 205 _ (by decide +kernel) (by decide +kernel)⟩
theorem ko_X6 : ∀ e ∈ kX6, (e.2.1 = 0 → Cond.constant RX6 e.1 (Int32.ofInt e.2.2) ∈ lw_big) ∧ (e.2.1 = 1 → Cond.constantLong RX6 e.1 (Int64.ofInt e.2.2) ∈ lw_big) := by
  intro e he; cases he
def fX7 : List (Nat × Nat × Nat) := [(12, 7, 0), (19, 7, 1), (26, 7, 2), (33, 7, 3), (42, 7, 4), (49, 7, 5), (58, 7, 6)]
def kX7 : List (Nat × Nat × Int) := [(231, 1, 1951), (250, 1, 31)]
theorem fo_X7 : ∀ e ∈ fX7, ∀ q, vwCl[e.2.1]? = some q → e.2.2 < q.2.2 ∧ Cond.fieldLink RX7 e.1 (q.2.1 e.2.2).1 (q.2.1 e.2.2).2.1 (q.2.1 e.2.2).2.2.1 ∈ lw_big := by
  intro e he q hq
  simp only [fX7, List.mem_cons, List.not_mem_nil, or_false] at he
  rcases he with rfl | rfl | rfl | rfl | rfl | rfl | rfl
  · cases hq; exact ⟨by decide, bm 244 _ (by decide +kernel) (by decide +kernel)⟩
  · cases hq; exact ⟨by decide, bm 245 _ (by decide +kernel) (by decide +kernel)⟩
  · cases hq; exact ⟨by decide, bm 246 _ (by decide +kernel) (by decide +kernel)⟩
  · cases hq; exact ⟨by decide, bm 247 _ (by decide +kernel) (by decide +kernel)⟩
  · cases hq; exact ⟨by decide, bm 248 _ (by decide +kernel) (by decide +kernel)⟩
  · cases hq; exact ⟨by decide, bm 249 _ (by decide +kernel) (by decide +kernel)⟩
  · cases hq; exact ⟨by decide, bm 250 _ (by decide +kernel) (by decide +kernel)⟩
theorem ko_X7 : ∀ e ∈ kX7, (e.2.1 = 0 → Cond.constant RX7 e.1 (Int32.ofInt e.2.2) ∈ lw_big) ∧ (e.2.1 = 1 → Cond.constantLong RX7 e.1 (Int64.ofInt e.2.2) ∈ lw_big) := by
  intro e he
  simp only [kX7, List.mem_cons, List.not_mem_nil, or_false] at he
  rcases he with rfl | rfl
  · exact ⟨fun h => (by cases h), fun _ => bm 553 _ (by decide +kernel) (by decide +kernel)⟩
  · exact ⟨fun h => (by cases h), fun _ => bm 583 _ (by decide +kernel) (by decide +kernel)⟩
def fX8 : List (Nat × Nat × Nat) := [(65, 8, 0), (7, 8, 1), (73, 8, 2), (13, 8, 3), (16, 8, 4), (19, 8, 5), (76, 8, 6), (22, 8, 7), (25, 8, 8), (28, 8, 9), (31, 8, 10), (79, 8, 11), (34, 8, 12), (37, 8, 13), (90, 8, 14), (40, 8, 15), (100, 8, 16), (43, 8, 17), (46, 8, 18), (96, 8, 19), (93, 8, 20), (49, 8, 21), (52, 8, 22), (56, 8, 23), (59, 8, 24), (62, 8, 25), (239, 8, 26)]
def kX8 : List (Nat × Nat × Int) := [(247, 1, 1951), (237, 1, 31)]
theorem fo_X8 : ∀ e ∈ fX8, ∀ q, vwCl[e.2.1]? = some q → e.2.2 < q.2.2 ∧ Cond.fieldLink RX8 e.1 (q.2.1 e.2.2).1 (q.2.1 e.2.2).2.1 (q.2.1 e.2.2).2.2.1 ∈ lw_big := by
  intro e he q hq
  simp only [fX8, List.mem_cons, List.not_mem_nil, or_false] at he
  rcases he with rfl | rfl | rfl | rfl | rfl | rfl | rfl | rfl | rfl | rfl | rfl | rfl | rfl | rfl | rfl | rfl | rfl | rfl | rfl | rfl | rfl | rfl | rfl | rfl | rfl | rfl | rfl
  · cases hq; exact ⟨by decide, bm 986 _ (by decide +kernel) (by decide +kernel)⟩
  · cases hq; exact ⟨by decide, bm 987 _ (by decide +kernel) (by decide +kernel)⟩
  · cases hq; exact ⟨by decide, bm 988 _ (by decide +kernel) (by decide +kernel)⟩
  · cases hq; exact ⟨by decide, bm 989 _ (by decide +kernel) (by decide +kernel)⟩
  · cases hq; exact ⟨by decide, bm 990 _ (by decide +kernel) (by decide +kernel)⟩
  · cases hq; exact ⟨by decide, bm 991 _ (by decide +kernel) (by decide +kernel)⟩
  · cases hq; exact ⟨by decide, bm 992 _ (by decide +kernel) (by decide +kernel)⟩
  · cases hq; exact ⟨by decide, bm 993 _ (by decide +kernel) (by decide +kernel)⟩
  · cases hq; exact ⟨by decide, bm 994 _ (by decide +kernel) (by decide +kernel)⟩
  · cases hq; exact ⟨by decide, bm 995 _ (by decide +kernel) (by decide +kernel)⟩
  · cases hq; exact ⟨by decide, bm 996 _ (by decide +kernel) (by decide +kernel)⟩
  · cases hq; exact ⟨by decide, bm 997 _ (by decide +kernel) (by decide +kernel)⟩
  · cases hq; exact ⟨by decide, bm 998 _ (by decide +kernel) (by decide +kernel)⟩
  · cases hq; exact ⟨by decide, bm 999 _ (by decide +kernel) (by decide +kernel)⟩
  · cases hq; exact ⟨by decide, bm 1000 _ (by decide +kernel) (by decide +kernel)⟩
  · cases hq; exact ⟨by decide, bm 1001 _ (by decide +kernel) (by decide +kernel)⟩
  · cases hq; exact ⟨by decide, bm 1002 _ (by decide +kernel) (by decide +kernel)⟩
  · cases hq; exact ⟨by decide, bm 1003 _ (by decide +kernel) (by decide +kernel)⟩
  · cases hq; exact ⟨by decide, bm 1004 _ (by decide +kernel) (by decide +kernel)⟩
  · cases hq; exact ⟨by decide, bm 1005 _ (by decide +kernel) (by decide +kernel)⟩
  · cases hq; exact ⟨by decide, bm 1006 _ (by decide +kernel) (by decide +kernel)⟩
  · cases hq; exact ⟨by decide, bm 1007 _ (by decide +kernel) (by decide +kernel)⟩
  · cases hq; exact ⟨by decide, bm 1008 _ (by decide +kernel) (by decide +kernel)⟩
  · cases hq; exact ⟨by decide, bm 1009 _ (by decide +kernel) (by decide +kernel)⟩
  · cases hq; exact ⟨by decide, bm 1010 _ (by decide +kernel) (by decide +kernel)⟩
  · cases hq; exact ⟨by decide, bm 1011 _ (by decide +kernel) (by decide +kernel)⟩
  · cases hq; exact ⟨by decide, bm 1012 _ (by decide +kernel) (by decide +kernel)⟩
theorem ko_X8 : ∀ e ∈ kX8, (e.2.1 = 0 → Cond.constant RX8 e.1 (Int32.ofInt e.2.2) ∈ lw_big) ∧ (e.2.1 = 1 → Cond.constantLong RX8 e.1 (Int64.ofInt e.2.2) ∈ lw_big) := by
  intro e he
  simp only [kX8, List.mem_cons, List.not_mem_nil, or_false] at he
  rcases he with rfl | rfl
  · exact ⟨fun h => (by cases h), fun _ => bm 1353 _ (by decide +kernel) (by decide +kernel)⟩
  · exact ⟨fun h => (by cases h), fun _ => bm 1358 _ (by decide +kernel) (by decide +kernel)⟩
def fJ6 : List (Nat × Nat × Nat) := []
def kJ6 : List (Nat × Nat × Int) := [(265, 0, 1431655765), (266, 0, 858993459), (267, 0, 252645135)]
theorem fo_J6 : ∀ e ∈ fJ6, ∀ q, vwCl[e.2.1]? = some q → e.2.2 < q.2.2 ∧ Cond.fieldLink RJ6 e.1 (q.2.1 e.2.2).1 (q.2.1 e.2.2).2.1 (q.2.1 e.2.2).2.2.1 ∈ lw_big := by
  intro e he; cases he
theorem ko_J6 : ∀ e ∈ kJ6, (e.2.1 = 0 → Cond.constant RJ6 e.1 (Int32.ofInt e.2.2) ∈ lw_big) ∧ (e.2.1 = 1 → Cond.constantLong RJ6 e.1 (Int64.ofInt e.2.2) ∈ lw_big) := by
  intro e he
  simp only [kJ6, List.mem_cons, List.not_mem_nil, or_false] at he
  rcases he with rfl | rfl | rfl
  · exact ⟨fun _ => bm 608 _ (by decide +kernel) (by decide +kernel), fun h => (by cases h)⟩
  · exact ⟨fun _ => bm 609 _ (by decide +kernel) (by decide +kernel), fun h => (by cases h)⟩
  · exact ⟨fun _ => bm 610 _ (by decide +kernel) (by decide +kernel), fun h => (by cases h)⟩
def fJ7 : List (Nat × Nat × Nat) := []
def kJ7 : List (Nat × Nat × Int) := []
theorem fo_J7 : ∀ e ∈ fJ7, ∀ q, vwCl[e.2.1]? = some q → e.2.2 < q.2.2 ∧ Cond.fieldLink RJ7 e.1 (q.2.1 e.2.2).1 (q.2.1 e.2.2).2.1 (q.2.1 e.2.2).2.2.1 ∈ lw_big := by
  intro e he; cases he
theorem ko_J7 : ∀ e ∈ kJ7, (e.2.1 = 0 → Cond.constant RJ7 e.1 (Int32.ofInt e.2.2) ∈ lw_big) ∧ (e.2.1 = 1 → Cond.constantLong RJ7 e.1 (Int64.ofInt e.2.2) ∈ lw_big) := by
  intro e he; cases he
