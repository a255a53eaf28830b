/-! what post does, and a chain of posts -/
noncomputable abbrev EFm (M : Mem) (l : Int) : Int → Int → Int → Int := fun u v s => EE (M 23) (M 21) l u v s
def PostR (M : Mem) (a b l t r : Int) (M' : Mem) : Prop :=
  (∃ f : Int → Int, (ArrOK (EFm M l) (M 7 3) a t f ∧ f b = -1) ∧ r = -1 ∧ M' = arM (upM M 22 7 l) f) ∨
  (∃ (f g : Int → Int) (p : Int), (ArrOK (EFm M l) (M 7 3) a t f ∧ f b ≠ -1 ∧ RT (M 7 3) a b (EFm M l) f g p) ∧ r = f b ∧ M' = hpT (M 19 2) l (7 - p).toNat (p + 1) 0 (entE (rtM (arM (upM M 22 7 l) f) g) (M 19 2) a b l t (f b)))
def BKI (M : Mem) : Prop := ∀ i, 0 ≤ i → i < 576 → -1 ≤ M 21 i ∧ M 21 i < 20
theorem hop_k (X : Mem) (m h a b t l : Int) {k : Nat} (h1 : k ≠ 20) (h2 : k ≠ 21) : hopE X m h a b t l k = X k := by
  funext j; simp only [hopE, bkM, upM]; grind
theorem hop_b {X : Mem} {m h a b t l : Int} (hm : 0 ≤ m ∧ m < 20) (hB : BKI X) : BKI (hopE X m h a b t l) := by
  intro i i0 i1
  have := hB i i0 i1
  simp only [hopE, bkM, upM]
  grind
theorem hp_k (m l : Int) {k : Nat} (h1 : k ≠ 20) (h2 : k ≠ 21) : ∀ (n : Nat) (q h : Int) (X : Mem), hpT m l n q h X k = X k
  | 0, _, _, _ => rfl
  | n + 1, q, h, X => by
    show hpT m l n (q + 1) (h + 1) _ k = _
    rw [hp_k m l h1 h2 n, hop_k _ _ _ _ _ _ _ h1 h2]
theorem hp_b {m l : Int} (hm : 0 ≤ m ∧ m < 20) : ∀ (n : Nat) (q h : Int) (X : Mem), BKI X → BKI (hpT m l n q h X)
  | 0, _, _, _, hB => hB
  | n + 1, q, h, X, hB => hp_b hm n (q + 1) (h + 1) _ (hop_b hm hB)
theorem ent_k (X : Mem) (m a b l t v : Int) {k : Nat} (h1 : k ≠ 20) (h2 : k ≠ 19) : entE X m a b l t v k = X k := by
  funext j; simp only [entE, upM]; grind
theorem PostR.keep {M M' : Mem} {a b l t r : Int} (h : PostR M a b l t r M') (hm : 0 ≤ M 19 2 ∧ M 19 2 < 20) (hB : BKI M) :
    (∀ k : Nat, k ≠ 19 → k ≠ 20 → k ≠ 21 → k ≠ 22 → k ≠ 24 → k ≠ 25 → M' k = M k) ∧ BKI M' ∧ ((r = -1 ∧ M' 19 2 = M 19 2) ∨ (r ≠ -1 ∧ M' 19 2 = M 19 2 + 1)) := by
  rcases h with ⟨f, hf, hr, rfl⟩ | ⟨f, g, p, hf, hr, rfl⟩
  · refine ⟨fun k h1 h2 h3 h4 h5 h6 => ?_, hB, Or.inl ⟨hr, rfl⟩⟩
    funext j; simp only [arM, upM]; grind
  · refine ⟨fun k h1 h2 h3 h4 h5 h6 => ?_, hp_b hm _ _ _ _ hB, Or.inr ⟨by rw [hr]; exact hf.2.1, ?_⟩⟩
    · rw [hp_k _ _ h2 h3, ent_k _ _ _ _ _ _ _ h2 h1]
      funext j; simp only [rtM, arM, upM]; grind
    · rw [hp_k _ _ (by decide) (by decide)]
      rfl
abbrev Rq : Type := Int × Int × Int × Int
def PCh : List Rq → Mem → Mem → Prop
  | [], M, M' => M' = M
  | q :: qs, M, M' => ∃ (r : Int) (M1 : Mem), PostR M q.1 q.2.1 q.2.2.1 q.2.2.2 r M1 ∧ PCh qs M1 M'
theorem PCh.app : ∀ {xs ys : List Rq} {M M1 M2 : Mem}, PCh xs M M1 → PCh ys M1 M2 → PCh (xs ++ ys) M M2
  | [], _, _, _, _, h1, h2 => by cases h1; exact h2
  | _ :: _, _, _, _, _, ⟨r, Y, h1, h2⟩, h3 => ⟨r, Y, h1, PCh.app h2 h3⟩
def rqL (R : Int → Int) (l : Int) : Nat → Int → List Rq
  | 0, _ => []
  | n + 1, i => if R (4 * i + 2) = l then (R (4 * i), R (4 * i + 1), l, R (4 * i + 3)) :: rqL R l n (i + 1) else rqL R l n (i + 1)
def rqA (R : Int → Int) (k : Nat) : Nat → Int → List Rq
  | 0, _ => []
  | n + 1, l => rqL R l k 0 ++ rqA R k n (l + 1)
