/-! the reference's reordering -/
def aqM (M : Mem) (A : Int → Int) : Mem := fun k j => if k = 45 then A j else M k j
theorem aq_put (M : Mem) (A : Int → Int) (i v : Int) : upM (aqM M A) 45 i v = aqM M (upF A i v) := by
  funext zk zj; simp only [upM, aqM, upF]; grind
theorem aq_self (M : Mem) : M = aqM M (M 45) := by
  funext zk zj; simp only [aqM]; grind
def cpA (A S : Int → Int) (c m e : Int) : Int → Int := fun j => if 4 * c ≤ j ∧ j < 4 * c + e then S (6 * m + (j - 4 * c)) else A j
theorem cpA_s {A S : Int → Int} {c m e : Int} (h : 0 ≤ e) : upF (cpA A S c m e) (4 * c + e) (S (6 * m + e)) = cpA A S c m (e + 1) := by
  funext j
  unfold upF cpA
  by_cases hj : j = 4 * c + e
  · rw [if_pos hj, if_pos (by omega), show j - 4 * c = e from by omega]
  · rw [if_neg hj]
    by_cases hc : 4 * c ≤ j ∧ j < 4 * c + e
    · rw [if_pos hc, if_pos (by omega)]
    · rw [if_neg hc, if_neg (by omega)]
theorem cpA_0 (A S : Int → Int) (c m : Int) : A = cpA A S c m 0 := by
  funext j; unfold cpA; rw [if_neg (by omega)]
def aOK (A : Int → Int) (L : List Rq) : Prop := ∀ (i : Nat) (q : Rq), L[i]? = some q → A (4 * i) = q.1 ∧ A (4 * i + 1) = q.2.1 ∧ A (4 * i + 2) = q.2.2.1 ∧ A (4 * i + 3) = q.2.2.2
theorem aOK.app {A S : Int → Int} {L : List Rq} {c m : Int} (h : aOK A L) (hc : c = L.length) : aOK (cpA A S c m 4) (L ++ [(S (6 * m), S (6 * m + 1), S (6 * m + 2), S (6 * m + 3))]) := by
  intro i q hq
  rw [List.getElem?_append] at hq
  by_cases hi : i < L.length
  · rw [if_pos hi] at hq
    have h1 := h i q hq
    unfold cpA
    rw [if_neg (by omega), if_neg (by omega), if_neg (by omega), if_neg (by omega)]
    exact h1
  · rw [if_neg hi] at hq
    have hi2 : i = L.length := by
      rcases Nat.lt_or_ge (i - L.length) 1 with h2 | h2
      · omega
      · rw [List.getElem?_eq_none (by simpa using h2)] at hq; cases hq
    rw [hi2, Nat.sub_self] at hq
    cases hq
    unfold cpA
    rw [if_pos (by omega), if_pos (by omega), if_pos (by omega), if_pos (by omega)]
    rw [show 4 * (i : Int) - 4 * c = 0 from by omega, show 4 * (i : Int) + 1 - 4 * c = 1 from by omega, show 4 * (i : Int) + 2 - 4 * c = 2 from by omega, show 4 * (i : Int) + 3 - 4 * c = 3 from by omega, Int.add_zero]
    exact ⟨rfl, rfl, rfl, rfl⟩
def rqR (S : Int → Int) : Int → Int := fun j => S (6 * (j / 4) + j % 4)
theorem rqR_at (S : Int → Int) (i e : Int) (h0 : 0 ≤ e) (h1 : e < 4) : rqR S (4 * i + e) = S (6 * i + e) := by
  unfold rqR
  rw [show (4 * i + e) / 4 = i from by omega, show (4 * i + e) % 4 = e from by omega]
theorem rqR_0 (S : Int → Int) (i : Int) : rqR S (4 * i) = S (6 * i) := by
  have := rqR_at S i 0 (by omega) (by omega)
  rw [Int.add_zero, Int.add_zero] at this
  exact this
theorem rqL_y {R : Int → Int} {l : Int} {n : Nat} {i : Int} (h : R (4 * i + 2) = l) : rqL R l (n + 1) i = (R (4 * i), R (4 * i + 1), R (4 * i + 2), R (4 * i + 3)) :: rqL R l n (i + 1) := by
  conv => lhs; unfold rqL
  rw [if_pos h, h]
theorem rqL_n {R : Int → Int} {l : Int} {n : Nat} {i : Int} (h : ¬ R (4 * i + 2) = l) : rqL R l (n + 1) i = rqL R l n (i + 1) := by
  conv => lhs; unfold rqL
  rw [if_neg h]
theorem rqL_mem {R : Int → Int} {l : Int} : ∀ (n : Nat) (i : Int) (q : Rq), 0 ≤ i → q ∈ rqL R l n i → ∃ j, (0 ≤ j ∧ j < i + n) ∧ q = (R (4 * j), R (4 * j + 1), R (4 * j + 2), R (4 * j + 3))
  | 0, _, _, _, h => by cases h
  | n + 1, i, q, h0, h => by
    by_cases hc : R (4 * i + 2) = l
    · rw [rqL_y hc] at h
      rcases List.mem_cons.mp h with h | h
      · exact ⟨i, by omega, h⟩
      · obtain ⟨j, h1, h2⟩ := rqL_mem n (i + 1) q (by omega) h
        exact ⟨j, by omega, h2⟩
    · rw [rqL_n hc] at h
      obtain ⟨j, h1, h2⟩ := rqL_mem n (i + 1) q (by omega) h
      exact ⟨j, by omega, h2⟩
theorem rqA_mem {R : Int → Int} {k : Nat} : ∀ (n : Nat) (l : Int) (q : Rq), q ∈ rqA R k n l → ∃ j, (0 ≤ j ∧ j < (k : Int)) ∧ q = (R (4 * j), R (4 * j + 1), R (4 * j + 2), R (4 * j + 3))
  | 0, _, _, h => by cases h
  | n + 1, l, q, h => by
    unfold rqA at h
    rcases List.mem_append.mp h with h | h
    · obtain ⟨j, h1, h2⟩ := rqL_mem k 0 q (by omega) h
      exact ⟨j, by omega, h2⟩
    · exact rqA_mem n (l + 1) q h
theorem rq_len6e (R : Int → Int) : ∀ (k : Nat) (i : Int), (∀ j, i ≤ j → j < i + k → 1 ≤ R (4 * j + 2) ∧ R (4 * j + 2) ≤ 6) → (rqL R 1 k i).length + (rqL R 2 k i).length + (rqL R 3 k i).length + (rqL R 4 k i).length + (rqL R 5 k i).length + (rqL R 6 k i).length = k
  | 0, _, _ => by simp [rqL]
  | k + 1, i, hR => by
    have h := rq_len6e R k (i + 1) (fun j a b => hR j (by omega) (by omega))
    have hi := hR i (Int.le_refl _) (by omega)
    have key : ∀ l : Int, (rqL R l (k + 1) i).length = (if R (4 * i + 2) = l then 1 else 0) + (rqL R l k (i + 1)).length := by
      intro l
      by_cases hc : R (4 * i + 2) = l
      · rw [rqL_y hc, if_pos hc, List.length_cons]; omega
      · rw [rqL_n hc, if_neg hc]; omega
    rw [key 1, key 2, key 3, key 4, key 5, key 6]
    have hc : R (4 * i + 2) = 1 ∨ R (4 * i + 2) = 2 ∨ R (4 * i + 2) = 3 ∨ R (4 * i + 2) = 4 ∨ R (4 * i + 2) = 5 ∨ R (4 * i + 2) = 6 := by omega
    rcases hc with hc | hc | hc | hc | hc | hc <;> rw [hc] <;> simp <;> omega
theorem rqA_lene (R : Int → Int) (k : Nat) (hR : ∀ j, 0 ≤ j → j < (k : Int) → 1 ≤ R (4 * j + 2) ∧ R (4 * j + 2) ≤ 6) : (rqA R k 6 1).length = k := by
  have h := rq_len6e R k 0 (fun j a b => hR j a (by omega))
  simp only [rqA, List.length_append, List.length_nil]
  show (rqL R 1 k 0).length + ((rqL R 2 k 0).length + ((rqL R 3 k 0).length + ((rqL R 4 k 0).length + ((rqL R 5 k 0).length + ((rqL R 6 k 0).length + 0))))) = k
  omega
def rqO (ns : Int) (q : Rq) : Prop := (0 ≤ q.1 ∧ q.1 < ns) ∧ (0 ≤ q.2.1 ∧ q.2.1 < ns) ∧ q.1 ≠ q.2.1 ∧ (1 ≤ q.2.2.1 ∧ q.2.2.1 ≤ 6) ∧ (0 ≤ q.2.2.2 ∧ q.2.2.2 ≤ 71)
def SV (M : Mem) : Prop := ∀ m, 0 ≤ m → m < M 27 11 → M 36 (6 * m) < M 27 2 ∧ M 36 (6 * m + 1) < M 27 2 ∧ M 36 (6 * m) ≠ M 36 (6 * m + 1)
theorem rqO_all {M : Mem} (hG : GJ M) (hV : SV M) (q : Rq) (h : q ∈ rqA (rqR (M 36)) (M 27 11).toNat 6 1) : rqO (M 27 2) q := by
  obtain ⟨j, h1, rfl⟩ := rqA_mem 6 1 q h
  have g := hG.2.1 j h1.1 (by omega)
  have v := hV j h1.1 (by omega)
  unfold rqO
  dsimp only
  rw [rqR_0, rqR_at _ _ 1 (by omega) (by omega), rqR_at _ _ 2 (by omega) (by omega), rqR_at _ _ 3 (by omega) (by omega)]
  omega
/-- what is left of the requests, from number k on -/
def aRest (A : Int → Int) (k : Int) (L : List Rq) : Prop := ∀ (i : Nat) (q : Rq), L[i]? = some q → A (4 * (k + i)) = q.1 ∧ A (4 * (k + i) + 1) = q.2.1 ∧ A (4 * (k + i) + 2) = q.2.2.1 ∧ A (4 * (k + i) + 3) = q.2.2.2
theorem aRest.tl {A : Int → Int} {k : Int} {q : Rq} {L : List Rq} (h : aRest A k (q :: L)) : aRest A (k + 1) L := by
  intro i r hr
  have := h (i + 1) r (by rw [List.getElem?_cons_succ]; exact hr)
  rw [show k + 1 + (i : Int) = k + ((i + 1 : Nat) : Int) from by omega]
  exact this
theorem aRest.hd {A : Int → Int} {k : Int} {q : Rq} {L : List Rq} (h : aRest A k (q :: L)) : A (4 * k) = q.1 ∧ A (4 * k + 1) = q.2.1 ∧ A (4 * k + 2) = q.2.2.1 ∧ A (4 * k + 3) = q.2.2.2 := by
  have := h 0 q rfl
  rw [show k + ((0 : Nat) : Int) = k from by omega] at this
  exact this
theorem aOK.rest {A : Int → Int} {L : List Rq} (h : aOK A L) : aRest A 0 L := by
  intro i q hq
  rw [show (0 : Int) + (i : Int) = i from by omega]
  exact h i q hq
def reM (M : Mem) (A : Int → Int) : Mem := upM (aqM (upM M 27 0 0) A) 27 11 0
theorem re_np {M : Mem} (h : NPJ M) (A : Int → Int) : NPJ (reM M A) := by
  obtain ⟨h1, h2, h3, h4⟩ := h
  refine ⟨h1, h2, h3, ⟨⟨by show (0 : Int) ≤ 0; omega, by show (0 : Int) ≤ 20; omega⟩, fun m m0 m1 => ?_, fun m k m0 m1 => ?_⟩⟩
  · exact absurd (show m < 0 from m1) (by omega)
  · exact absurd (show m < 0 from m1) (by omega)
