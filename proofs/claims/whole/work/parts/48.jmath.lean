/-! what the reference's cells hold -/
def TJ (M : Mem) : Prop := ∀ i, 0 ≤ i → i < 144 → 0 ≤ M 28 i ∧ M 28 i ≤ 500
def SJ (M : Mem) : Prop := (0 ≤ M 27 2 ∧ M 27 2 ≤ 8) ∧ (∀ i, 0 ≤ i → i < M 27 2 → (0 ≤ M 29 i ∧ M 29 i < 144) ∧ (0 ≤ M 30 i ∧ M 30 i ≤ 50) ∧ (1 ≤ M 31 i ∧ M 31 i ≤ 2)) ∧ ∀ i j, 0 ≤ i → i < M 27 2 → 0 ≤ j → j < M 27 2 → M 29 i = M 29 j → i = j
def KJ (M : Mem) : Prop := (0 ≤ M 27 6 ∧ M 27 6 ≤ 6) ∧ ∀ i, 0 ≤ i → i < M 27 6 → (0 ≤ M 32 i ∧ M 32 i < 144) ∧ (0 ≤ M 33 i ∧ M 33 i < 144) ∧ (6 ≤ M 34 i ∧ M 34 i ≤ 17) ∧ (6 ≤ M 35 i ∧ M 35 i ≤ 17)
def GJ (M : Mem) : Prop := (0 ≤ M 27 11 ∧ M 27 11 ≤ 20) ∧ (∀ m, 0 ≤ m → m < M 27 11 → (0 ≤ M 36 (6 * m) ∧ M 36 (6 * m) < 8) ∧ (0 ≤ M 36 (6 * m + 1) ∧ M 36 (6 * m + 1) < 8) ∧ (1 ≤ M 36 (6 * m + 2) ∧ M 36 (6 * m + 2) ≤ 6) ∧ (0 ≤ M 36 (6 * m + 3) ∧ M 36 (6 * m + 3) < 72) ∧ (0 ≤ M 36 (6 * m + 4) ∧ M 36 (6 * m + 4) ≤ 72) ∧ (0 ≤ M 36 (6 * m + 5) ∧ M 36 (6 * m + 5) ≤ 7)) ∧ ∀ m k, 0 ≤ m → m < M 27 11 → 0 ≤ k → k < M 36 (6 * m + 5) → (0 ≤ M 37 (21 * m + 3 * k) ∧ M 37 (21 * m + 3 * k) < 8) ∧ (0 ≤ M 37 (21 * m + 3 * k + 1) ∧ M 37 (21 * m + 3 * k + 1) < 8) ∧ (0 ≤ M 37 (21 * m + 3 * k + 2) ∧ M 37 (21 * m + 3 * k + 2) + M 36 (6 * m + 2) ≤ 72)
theorem c2T_add {f : Int → Int} : ∀ (n : Nat) (i s : Int), (∀ j, i ≤ j → j < i + n → 1 ≤ f j ∧ f j ≤ 2) → c2T f n i s = itT (fun j s => s + (f j - 1)) n i s
  | 0, _, _, _ => rfl
  | n + 1, i, s, h => by
    have h1 := h i (Int.le_refl _) (by omega)
    have h2 := c2T_add n (i + 1) (if f i = 2 then s + 1 else s) (fun j a b => h j (by omega) (by omega))
    show c2T f n (i + 1) (if f i = 2 then s + 1 else s) = itT _ n (i + 1) (s + (f i - 1))
    rw [h2]
    congr 1
    split <;> omega
theorem grT_it (h : Int → Int) : ∀ (n : Nat) (i s : Int), grT h n i s = itT (fun j s => if s < h j then h j else s) n i s
  | 0, _, _ => rfl
  | n + 1, i, s => grT_it h n (i + 1) _
theorem smT_it (h : Int → Int) : ∀ (n : Nat) (i s : Int), smT h n i s = itT (fun j s => s + h j) n i s
  | 0, _, _ => rfl
  | n + 1, i, s => smT_it h n (i + 1) _
theorem laT_it (h : Int → Int) : ∀ (n : Nat) (i s : Int), laT h n i s = itT (fun j s => if s < h j then h j else s) n i s
  | 0, _, _ => rfl
  | n + 1, i, s => laT_it h n (i + 1) _
theorem bzT_it (h : Int → Int) : ∀ (n : Nat) (i s : Int), bzT h n i s = itT (fun j s => if h j = -1 then s else s + 1) n i s
  | 0, _, _ => rfl
  | n + 1, i, s => bzT_it h n (i + 1) _
theorem bzA_it (h : Int → Int) : ∀ (n : Nat) (i s : Int), bzA h n i s = itT (fun i s => s + bzT (fun t => h (72 * i + t)) 72 0 0) n i s
  | 0, _, _ => rfl
  | n + 1, i, s => bzA_it h n (i + 1) _
theorem siT_it (f : Int → Int → Int) (a : Int) : ∀ (n : Nat) (i s : Int), siT f a n i s = itT (fun b s => if b ≠ a ∧ f a b = -1 then s + 1 else s) n i s
  | 0, _, _ => rfl
  | n + 1, i, s => siT_it f a n (i + 1) _
theorem siA_it (f : Int → Int → Int) (k : Nat) : ∀ (n : Nat) (i s : Int), siA f k n i s = itT (fun a s => itT (fun b s => if b ≠ a ∧ f a b = -1 then s + 1 else s) k 0 s) n i s
  | 0, _, _ => rfl
  | n + 1, i, s => by
    show siA f k n (i + 1) (siT f i k 0 s) = itT _ n (i + 1) (itT _ k 0 s)
    rw [siA_it f k n (i + 1), siT_it]
theorem SJ.mir {M : Mem} {a v : Int} (h : SJ M) (hv : 1 ≤ v ∧ v ≤ 2) : SJ (upM M 31 a v) := by
  refine ⟨h.1, fun i i0 i1 => ?_, h.2.2⟩
  have h2 := h.2.1 i i0 i1
  refine ⟨h2.1, h2.2.1, ?_⟩
  show 1 ≤ upM M 31 a v 31 i ∧ upM M 31 a v 31 i ≤ 2
  simp only [upM]
  split
  · exact hv
  · exact h2.2.2
theorem hl8_y {X : Mem} {c v w i : Int} (h0 : 0 ≤ i) (hd : dist c i ≤ w) (h : hlM X 28 c v w i 28 i < slp c v w i) : upM (hlM X 28 c v w i) 28 i (slp c v w i) = hlM X 28 c v w (i + 1) := by
  have h2 : hlM X 28 c v w i 28 i = X 28 i := by unfold hlM; rw [if_neg (by omega)]
  rw [h2] at h
  funext k j; simp only [upM, hlM]; grind
theorem hl8_n {X : Mem} {c v w i : Int} (h : ¬ (dist c i ≤ w ∧ hlM X 28 c v w i 28 i < slp c v w i)) : upM (hlM X 28 c v w i) 28 i (hlM X 28 c v w i 28 i) = hlM X 28 c v w (i + 1) := by
  have h2 : hlM X 28 c v w i 28 i = X 28 i := by unfold hlM; rw [if_neg (by omega)]
  rw [h2] at h ⊢
  funext k j; simp only [upM, hlM]; grind
