/-! what post does, and a chain of posts -/
noncomputable abbrev EFm (M : Mem) (l : Int) : Int → Int → Int → Int := fun u v s => EE (M 23) (M 21) l u v s
def PostR (M : Mem) (a b l t r : Int) (M' : Mem) : Prop :=
  (∃ f : Int → Int, (ArrOK (EFm M l) (M 7 3) a t f ∧ f b = -1) ∧ r = -1 ∧ M' = arM (upM M 22 7 l) f) ∨
  (∃ (f g : Int → Int) (p : Int), (ArrOK (EFm M l) (M 7 3) a t f ∧ f b ≠ -1 ∧ RT (M 7 3) a b (EFm M l) f g p) ∧ r = f b ∧ M' = hpT (M 19 2) l (7 - p).toNat (p + 1) 0 (entE (rtM (arM (upM M 22 7 l) f) g) (M 19 2) a b l t (f b)))
def BKI (M : Mem) : Prop := ∀ i, 0 ≤ i → i < 576 → -1 ≤ M 21 i ∧ M 21 i < 20
theorem hop_k (X : Mem) (m h a b t l : Int) {k : Nat} (h1 : k ≠ 20) (h2 : k ≠ 21) : hopE X m h a b t l k = X k := by
  funext j; simp only [hopE, bkM, upM]; grind
theorem hop_b {X : Mem} {m h a b t l : Int} (hm : 0 ≤ m ∧ m < 20) (hB : BKI X) : BKI (hopE X m h a b t l) := by
  intro i i0 i1
  have := hB i i0 i1
  simp only [hopE, bkM, upM]
  grind
theorem hp_k (m l : Int) {k : Nat} (h1 : k ≠ 20) (h2 : k ≠ 21) : ∀ (n : Nat) (q h : Int) (X : Mem), hpT m l n q h X k = X k
  | 0, _, _, _ => rfl
  | n + 1, q, h, X => by
    show hpT m l n (q + 1) (h + 1) _ k = _
    rw [hp_k m l h1 h2 n, hop_k _ _ _ _ _ _ _ h1 h2]
theorem hp_b {m l : Int} (hm : 0 ≤ m ∧ m < 20) : ∀ (n : Nat) (q h : Int) (X : Mem), BKI X → BKI (hpT m l n q h X)
  | 0, _, _, _, hB => hB
  | n + 1, q, h, X, hB => hp_b hm n (q + 1) (h + 1) _ (hop_b hm hB)
theorem ent_k (X : Mem) (m a b l t v : Int) {k : Nat} (h1 : k ≠ 20) (h2 : k ≠ 19) : entE X m a b l t v k = X k := by
  funext j; simp only [entE, upM]; grind
theorem PostR.keep {M M' : Mem} {a b l t r : Int} (h : PostR M a b l t r M') (hm : 0 ≤ M 19 2 ∧ M 19 2 < 20) (hB : BKI M) :
    (∀ k : Nat, k ≠ 19 → k ≠ 20 → k ≠ 21 → k ≠ 22 → k ≠ 24 → k ≠ 25 → M' k = M k) ∧ BKI M' ∧ ((r = -1 ∧ M' 19 2 = M 19 2) ∨ (r ≠ -1 ∧ M' 19 2 = M 19 2 + 1)) := by
  rcases h with ⟨f, hf, hr, rfl⟩ | ⟨f, g, p, hf, hr, rfl⟩
  · refine ⟨fun k h1 h2 h3 h4 h5 h6 => ?_, hB, Or.inl ⟨hr, rfl⟩⟩
    funext j; simp only [arM, upM]; grind
  · refine ⟨fun k h1 h2 h3 h4 h5 h6 => ?_, hp_b hm _ _ _ _ hB, Or.inr ⟨by rw [hr]; exact hf.2.1, ?_⟩⟩
    · rw [hp_k _ _ h2 h3, ent_k _ _ _ _ _ _ _ h2 h1]
      funext j; simp only [rtM, arM, upM]; grind
    · rw [hp_k _ _ (by decide) (by decide)]
      rfl
abbrev Rq : Type := Int × Int × Int × Int
def PCh : List Rq → Mem → Mem → Prop
  | [], M, M' => M' = M
  | q :: qs, M, M' => ∃ (r : Int) (M1 : Mem), PostR M q.1 q.2.1 q.2.2.1 q.2.2.2 r M1 ∧ PCh qs M1 M'
theorem PCh.app : ∀ {xs ys : List Rq} {M M1 M2 : Mem}, PCh xs M M1 → PCh ys M1 M2 → PCh (xs ++ ys) M M2
  | [], _, _, _, _, h1, h2 => by cases h1; exact h2
  | _ :: _, _, _, _, _, ⟨r, Y, h1, h2⟩, h3 => ⟨r, Y, h1, PCh.app h2 h3⟩
def rqL (R : Int → Int) (l : Int) : Nat → Int → List Rq
  | 0, _ => []
  | n + 1, i => if R (4 * i + 2) = l then (R (4 * i), R (4 * i + 1), l, R (4 * i + 3)) :: rqL R l n (i + 1) else rqL R l n (i + 1)
def rqA (R : Int → Int) (k : Nat) : Nat → Int → List Rq
  | 0, _ => []
  | n + 1, l => rqL R l k 0 ++ rqA R k n (l + 1)
theorem SInv.of {X Y : Mem} (h : SInv X) (h7 : Y 7 = X 7) (h8 : Y 8 = X 8) (h9 : Y 9 = X 9) (h10 : Y 10 = X 10) : SInv Y := by
  unfold SInv at h ⊢
  rw [h7, h8, h9, h10]; exact h
def RI (H R : Int → Int) (ns : Int) (X : Mem) : Prop := SInv X ∧ BKI X ∧ X 26 = R ∧ X 23 = H ∧ X 7 3 = ns
theorem RI.post {H R : Int → Int} {ns : Int} {X Y : Mem} {a b l t r : Int} (h : RI H R ns X) (hp : PostR X a b l t r Y) (hm : 0 ≤ X 19 2 ∧ X 19 2 < 20) : RI H R ns Y ∧ 0 ≤ Y 19 2 ∧ Y 19 2 ≤ X 19 2 + 1 := by
  obtain ⟨h1, h2, h3, h4, h5⟩ := h
  obtain ⟨k1, k2, k3⟩ := hp.keep hm h2
  refine ⟨⟨h1.of (k1 7 (by decide) (by decide) (by decide) (by decide) (by decide) (by decide)) (k1 8 (by decide) (by decide) (by decide) (by decide) (by decide) (by decide)) (k1 9 (by decide) (by decide) (by decide) (by decide) (by decide) (by decide)) (k1 10 (by decide) (by decide) (by decide) (by decide) (by decide) (by decide)), k2, ?_, ?_, ?_⟩, by omega, by omega⟩
  · rw [k1 26 (by decide) (by decide) (by decide) (by decide) (by decide) (by decide)]; exact h3
  · rw [k1 23 (by decide) (by decide) (by decide) (by decide) (by decide) (by decide)]; exact h4
  · rw [k1 7 (by decide) (by decide) (by decide) (by decide) (by decide) (by decide)]; exact h5
def rqV (R : Int → Int) (ns k : Int) : Prop := ∀ i, 0 ≤ i → i < k → (0 ≤ R (4 * i) ∧ R (4 * i) < ns) ∧ (0 ≤ R (4 * i + 1) ∧ R (4 * i + 1) < ns) ∧ R (4 * i) ≠ R (4 * i + 1) ∧ (1 ≤ R (4 * i + 2) ∧ R (4 * i + 2) ≤ 6) ∧ (0 ≤ R (4 * i + 3) ∧ R (4 * i + 3) ≤ 71)
theorem rq_len6 (R : Int → Int) : ∀ (k : Nat) (i : Int), (rqL R 1 k i).length + (rqL R 2 k i).length + (rqL R 3 k i).length + (rqL R 4 k i).length + (rqL R 5 k i).length + (rqL R 6 k i).length ≤ k
  | 0, _ => by simp [rqL]
  | k + 1, i => by
    have h := rq_len6 R k (i + 1)
    have key : ∀ l : Int, (rqL R l (k + 1) i).length = (if R (4 * i + 2) = l then 1 else 0) + (rqL R l k (i + 1)).length := by
      intro l
      show (if R (4 * i + 2) = l then (_ :: rqL R l k (i + 1)) else rqL R l k (i + 1)).length = _
      by_cases hc : R (4 * i + 2) = l
      · rw [if_pos hc, if_pos hc, List.length_cons]; omega
      · rw [if_neg hc, if_neg hc]; omega
    rw [key 1, key 2, key 3, key 4, key 5, key 6]
    repeat' split
    all_goals omega
theorem rqA_len (R : Int → Int) (k : Nat) : (rqA R k 6 1).length ≤ k := by
  have h := rq_len6 R k 0
  simp only [rqA, List.length_append, List.length_nil]
  show (rqL R 1 k 0).length + ((rqL R 2 k 0).length + ((rqL R 3 k 0).length + ((rqL R 4 k 0).length + ((rqL R 5 k 0).length + ((rqL R 6 k 0).length + 0))))) ≤ k
  omega
