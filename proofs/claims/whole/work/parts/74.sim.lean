/-! a message on both sides -/
def mix (C Y : Mem) : Mem := fun k j => if k < 27 then C k j else Y k j
theorem mix_c (C Y : Mem) {k : Nat} (h : k < 27) : mix C Y k = C k := by funext j; unfold mix; rw [if_pos h]
theorem mix_y (C Y : Mem) {k : Nat} (h : ¬ k < 27) : mix C Y k = Y k := by funext j; unfold mix; rw [if_neg h]
theorem cvR_of {X M : Mem} (f6 : X 27 6 = M 27 6) (e32 : X 32 = M 32) (e33 : X 33 = M 33) (e34 : X 34 = M 34) (e35 : X 35 = M 35) : cvR X = cvR M := by
  funext c hr
  unfold cvR covR
  rw [f6, e32, e33, e34, e35]
theorem gvR_of {X M : Mem} (f2 : X 27 2 = M 27 2) (f6 : X 27 6 = M 27 6) (e28 : X 28 = M 28) (e29 : X 29 = M 29) (e30 : X 30 = M 30) (e31 : X 31 = M 31) (e32 : X 32 = M 32) (e33 : X 33 = M 33) (e34 : X 34 = M 34) (e35 : X 35 = M 35) : gvR X = gvR M := by
  funext j
  unfold gvR
  rw [f2, e28, e29, e30, e31, cvR_of f6 e32 e33 e34 e35]
theorem lt0_of {X M : Mem} (f11 : X 27 11 = M 27 11) (e36 : X 36 = M 36) (e37 : X 37 = M 37) : lt0 X = lt0 M := by
  unfold lt0; rw [f11, e36, e37]
theorem lay41 (M : Mem) {i : Int} (i0 : 0 ≤ i) (i1 : i < 576) : layM M 41 i = lt0 M i := by rw [← ltA_0 i0 i1]; rfl
theorem ER_of {X M : Mem} (hg : gvR X = gvR M) (hl0 : lt0 X = lt0 M) {l u v s : Int} (hl : 1 ≤ l) (hu : 0 ≤ u ∧ u < 8) (hv : 0 ≤ v ∧ v < 8) (hs : 0 ≤ s) : ERm X l u v s = ERm M l u v s := by
  refine eeT_congr hl _ _ _ (fun t t0 t1 => ?_)
  show (layM X 42 (12 * (8 * u + v) + t / 6) = 1 ∧ layM X 41 (72 * u + t) = -1 ∧ layM X 41 (72 * v + t) = -1) ↔ (layM M 42 (12 * (8 * u + v) + t / 6) = 1 ∧ layM M 41 (72 * u + t) = -1 ∧ layM M 41 (72 * v + t) = -1)
  rw [lay42 X (by omega) (by omega), lay42 M (by omega) (by omega), lay41 X (by omega) (by omega), lay41 X (by omega) (by omega), lay41 M (by omega) (by omega), lay41 M (by omega) (by omega), hg, hl0]
theorem LB.uniq {ns : Int} {P : Int → Prop} {r r' : Int} (h : LB ns P r) (h' : LB ns P r') : r = r' := by
  rcases Int.lt_trichotomy r r' with q | q | q
  · exact absurd h.2.1 (h'.2.2 r h.1.1 q)
  · exact q
  · exact absurd h'.2.1 (h.2.2 r' h'.1.1 q)
theorem LB.congr {ns : Int} {P P' : Int → Prop} {r : Int} (h : LB ns P r) (hP : ∀ u, 0 ≤ u → u < ns → (P u ↔ P' u)) : LB ns P' r :=
  ⟨h.1, (hP r h.1.1 h.1.2).mp h.2.1, fun u u0 u1 q => h.2.2 u u0 u1 ((hP u u0 (by have := h.1.2; omega)).mpr q)⟩
theorem RW.uniq {ns a b : Int} {E : Int → Int → Int → Int} {f g g' : Int → Int} {p p' : Int} (h : RW ns a b E f g p) (h' : RW ns a b E f g' p') : p = p' ∧ ∀ j, 0 ≤ j → j ≤ p → g j = g' j := by
  have key : ∀ j : Nat, (j : Int) ≤ p → (j : Int) ≤ p' → g j = g' j := by
    intro j
    induction j with
    | zero => intro _ _; exact h.2.1.trans h'.2.1.symm
    | succ j ih =>
      intro h1 h2
      have e := ih (by omega) (by omega)
      have l1 := (h.2.2.2 j (by omega) (by omega)).2
      have l2 := (h'.2.2.2 j (by omega) (by omega)).2
      rw [e] at l1
      have := l1.uniq l2
      rw [show ((j + 1 : Nat) : Int) = (j : Int) + 1 from by omega]
      exact this
  have hp := h.1
  have hp' := h'.1
  have e : p = p' := by
    rcases Int.lt_trichotomy p p' with q | q | q
    · have k := key p.toNat (by omega) (by omega)
      rw [show ((p.toNat : Nat) : Int) = p from by omega] at k
      have := (h'.2.2.2 p (by omega) q).1.2.1
      rw [← k] at this
      exact absurd h.2.2.1 this
    · exact q
    · have k := key p'.toNat (by omega) (by omega)
      rw [show ((p'.toNat : Nat) : Int) = p' from by omega] at k
      have := (h.2.2.2 p' (by omega) q).1.2.1
      rw [k] at this
      exact absurd h'.2.2.1 this
  refine ⟨e, fun j j0 j1 => ?_⟩
  have k := key j.toNat (by omega) (by omega)
  rw [show ((j.toNat : Nat) : Int) = j from by omega] at k
  exact k
theorem RW.congr {ns a b t : Int} {E E' : Int → Int → Int → Int} {f f' g : Int → Int} {p : Int} (h : RW ns a b E f g p) (hA : ArrOK E ns a t f) (ht : 0 ≤ t) (hE : ∀ u v s, 0 ≤ u → u < ns → 0 ≤ v → v < ns → 0 ≤ s → s ≤ 72 → E u v s = E' u v s) (hf : ∀ v, 0 ≤ v → v < ns → f v = f' v) : RW ns a b E' f' g p := by
  refine ⟨h.1, h.2.1, h.2.2.1, fun j j0 j1 => ?_⟩
  obtain ⟨⟨q1, q2, q3⟩, q4⟩ := h.2.2.2 j j0 j1
  refine ⟨⟨q1, q2, by rw [← hf _ q1.1 q1.2]; exact q3⟩, q4.congr (fun u u0 u1 => ?_)⟩
  show (f u ≠ -1 ∧ E u (g j) (f u) = f (g j)) ↔ (f' u ≠ -1 ∧ E' u (g j) (f' u) = f' (g j))
  rw [← hf u u0 u1, ← hf _ q1.1 q1.2]
  have hu := hA.2.1 u u0 u1
  constructor
  · rintro ⟨z1, z2⟩; exact ⟨z1, by rw [← hE u (g j) (f u) u0 u1 q1.1 q1.2 (by omega) (by omega)]; exact z2⟩
  · rintro ⟨z1, z2⟩; exact ⟨z1, by rw [hE u (g j) (f u) u0 u1 q1.1 q1.2 (by omega) (by omega)]; exact z2⟩
/-- the class's route, read from its end -/
theorem RT.rw {ns a b : Int} {E : Int → Int → Int → Int} {f g : Int → Int} {p : Int} (h : RT ns a b E f g p) : RW ns a b E f (fun j => g (7 - j)) (7 - p) := by
  obtain ⟨h1, h2, h3, h4⟩ := h
  refine ⟨by omega, by show g (7 - 0) = b; rw [show (7 : Int) - 0 = 7 from by omega]; exact h2, by show g (7 - (7 - p)) = a; rw [show 7 - (7 - p) = p from by omega]; exact h3, fun j j0 j1 => ?_⟩
  have := h4 (7 - j) (by omega) (by omega)
  show ((0 ≤ g (7 - j) ∧ g (7 - j) < ns) ∧ g (7 - j) ≠ a ∧ f (g (7 - j)) ≠ -1) ∧ LB ns (SBP E f (g (7 - j))) (g (7 - (j + 1)))
  rw [show 7 - (j + 1) = 7 - j - 1 from by omega]
  exact this
/-! what the class's transmissions leave -/
theorem hopE_20 (X : Mem) (m h a b t l j : Int) : hopE X m h a b t l 20 j = if j = 27 * m + 5 then h + 1 else if j = 27 * m + 6 + 3 * h + 2 then t else if j = 27 * m + 6 + 3 * h + 1 then b else if j = 27 * m + 6 + 3 * h then a else X 20 j := by
  simp only [hopE, bkM, upM]; grind
theorem hopE_21 (X : Mem) (m h a b t l i : Int) : hopE X m h a b t l 21 i = if (72 * a + t ≤ i ∧ i < 72 * a + (t + l)) ∨ (72 * b + t ≤ i ∧ i < 72 * b + (t + l)) then m else X 21 i := by
  simp only [hopE, bkM, upM]; grind
theorem hpT_20 (m l : Int) : ∀ (n : Nat) (q h : Int) (X : Mem), 0 ≤ h →
    (∀ j, ¬ (27 * m + 6 + 3 * h ≤ j ∧ j < 27 * m + 6 + 3 * (h + n)) → j ≠ 27 * m + 5 → hpT m l n q h X 20 j = X 20 j) ∧
    (hpT m l n q h X 20 (27 * m + 5) = if n = 0 then X 20 (27 * m + 5) else h + n) ∧
    ∀ k : Int, 0 ≤ k → k < (n : Int) → hpT m l n q h X 20 (27 * m + 6 + 3 * (h + k)) = X 25 (q + k - 1) ∧ hpT m l n q h X 20 (27 * m + 6 + 3 * (h + k) + 1) = X 25 (q + k) ∧ hpT m l n q h X 20 (27 * m + 6 + 3 * (h + k) + 2) = X 24 (X 25 (q + k)) - l
  | 0, q, h, X, h0 => ⟨fun j _ _ => rfl, rfl, fun k k0 k1 => by omega⟩
  | n + 1, q, h, X, h0 => by
    obtain ⟨i1, i2, i3⟩ := hpT_20 m l n (q + 1) (h + 1) (hopE X m h (X 25 (q - 1)) (X 25 q) (X 24 (X 25 q) - l) l) (by omega)
    have e : hpT m l (n + 1) q h X = hpT m l n (q + 1) (h + 1) (hopE X m h (X 25 (q - 1)) (X 25 q) (X 24 (X 25 q) - l) l) := rfl
    have e25 := hop_k X m h (X 25 (q - 1)) (X 25 q) (X 24 (X 25 q) - l) l (k := 25) (by decide) (by decide)
    have e24 := hop_k X m h (X 25 (q - 1)) (X 25 q) (X 24 (X 25 q) - l) l (k := 24) (by decide) (by decide)
    rw [e25, e24] at i3
    rw [e]
    refine ⟨fun j j0 j1 => ?_, ?_, fun k k0 k1 => ?_⟩
    · rw [i1 j (by omega) j1, hopE_20, if_neg j1, if_neg (by omega), if_neg (by omega), if_neg (by omega)]
    · rw [i2]
      by_cases hn : n = 0
      · rw [if_pos hn, if_neg (by omega), hopE_20, if_pos rfl]; omega
      · rw [if_neg hn, if_neg (by omega)]; omega
    · by_cases hk : k = 0
      · subst hk
        rw [Int.add_zero, Int.add_zero]
        rw [i1 _ (by omega) (by omega), i1 _ (by omega) (by omega), i1 _ (by omega) (by omega), hopE_20, hopE_20, hopE_20]
        rw [if_neg (by omega), if_neg (by omega), if_neg (by omega), if_pos rfl, if_neg (by omega), if_neg (by omega), if_pos rfl, if_neg (by omega), if_pos rfl]
        exact ⟨rfl, rfl, rfl⟩
      · have := i3 (k - 1) (by omega) (by omega)
        rw [show h + 1 + (k - 1) = h + k from by omega, show q + 1 + (k - 1) - 1 = q + k - 1 from by omega, show q + 1 + (k - 1) = q + k from by omega] at this
        exact this
theorem hpT_21 (m l : Int) : ∀ (n : Nat) (q h : Int) (X : Mem) (i : Int),
    ((∃ k, (0 ≤ k ∧ k < (n : Int)) ∧ ((72 * X 25 (q + k - 1) + (X 24 (X 25 (q + k)) - l) ≤ i ∧ i < 72 * X 25 (q + k - 1) + (X 24 (X 25 (q + k)) - l + l)) ∨ (72 * X 25 (q + k) + (X 24 (X 25 (q + k)) - l) ≤ i ∧ i < 72 * X 25 (q + k) + (X 24 (X 25 (q + k)) - l + l)))) → hpT m l n q h X 21 i = m) ∧
    (¬ (∃ k, (0 ≤ k ∧ k < (n : Int)) ∧ ((72 * X 25 (q + k - 1) + (X 24 (X 25 (q + k)) - l) ≤ i ∧ i < 72 * X 25 (q + k - 1) + (X 24 (X 25 (q + k)) - l + l)) ∨ (72 * X 25 (q + k) + (X 24 (X 25 (q + k)) - l) ≤ i ∧ i < 72 * X 25 (q + k) + (X 24 (X 25 (q + k)) - l + l)))) → hpT m l n q h X 21 i = X 21 i)
  | 0, q, h, X, i => ⟨fun ⟨k, hk, _⟩ => by omega, fun _ => rfl⟩
  | n + 1, q, h, X, i => by
    obtain ⟨i1, i2⟩ := hpT_21 m l n (q + 1) (h + 1) (hopE X m h (X 25 (q - 1)) (X 25 q) (X 24 (X 25 q) - l) l) i
    have e : hpT m l (n + 1) q h X = hpT m l n (q + 1) (h + 1) (hopE X m h (X 25 (q - 1)) (X 25 q) (X 24 (X 25 q) - l) l) := rfl
    have e25 := hop_k X m h (X 25 (q - 1)) (X 25 q) (X 24 (X 25 q) - l) l (k := 25) (by decide) (by decide)
    have e24 := hop_k X m h (X 25 (q - 1)) (X 25 q) (X 24 (X 25 q) - l) l (k := 24) (by decide) (by decide)
    rw [e25, e24] at i1 i2
    rw [e]
    by_cases ht : ∃ k, (0 ≤ k ∧ k < (n : Int)) ∧ ((72 * X 25 (q + 1 + k - 1) + (X 24 (X 25 (q + 1 + k)) - l) ≤ i ∧ i < 72 * X 25 (q + 1 + k - 1) + (X 24 (X 25 (q + 1 + k)) - l + l)) ∨ (72 * X 25 (q + 1 + k) + (X 24 (X 25 (q + 1 + k)) - l) ≤ i ∧ i < 72 * X 25 (q + 1 + k) + (X 24 (X 25 (q + 1 + k)) - l + l)))
    · refine ⟨fun _ => i1 ht, fun hq => absurd ?_ hq⟩
      obtain ⟨k, hk, hh⟩ := ht
      refine ⟨k + 1, by omega, ?_⟩
      rw [show q + (k + 1) - 1 = q + 1 + k - 1 from by omega, show q + (k + 1) = q + 1 + k from by omega]
      exact hh
    · rw [i2 ht, hopE_21]
      constructor
      · rintro ⟨k, hk, hh⟩
        by_cases k0 : k = 0
        · subst k0
          rw [Int.add_zero] at hh
          rw [if_pos hh]
        · refine absurd ⟨k - 1, by omega, ?_⟩ ht
          rw [show q + 1 + (k - 1) - 1 = q + k - 1 from by omega, show q + 1 + (k - 1) = q + k from by omega]
          exact hh
      · intro hq
        rw [if_neg]
        intro hh
        refine hq ⟨0, by omega, ?_⟩
        rw [Int.add_zero]
        exact hh
/-! booked turns -/
theorem lt_val {S H : Int → Int} {i : Int} : ∀ n : Nat, (∀ m m', 0 ≤ m → m < (n : Int) → 0 ≤ m' → m' < (n : Int) → bkA S H m i → bkA S H m' i → m = m') → (∀ m, 0 ≤ m → m < (n : Int) → bkA S H m i → ltF (fun _ => -1) S H n i = m) ∧ ((∀ m, 0 ≤ m → m < (n : Int) → ¬ bkA S H m i) → ltF (fun _ => -1) S H n i = -1)
  | 0, _ => ⟨fun m m0 m1 => by omega, fun _ => rfl⟩
  | n + 1, hd => by
    obtain ⟨i1, i2⟩ := lt_val (S := S) (H := H) (i := i) n (fun m m' a b c d => hd m m' a (by omega) c (by omega))
    by_cases hb : bkP S H n (S (6 * n + 5)) 0 i
    · have e : ltF (fun _ => -1) S H (n + 1) i = (n : Int) := by unfold ltF; rw [if_pos hb]
      rw [e]
      exact ⟨fun m m0 m1 hm => (hd m n m0 m1 (by omega) (by omega) hm hb).symm, fun hq => absurd hb (hq n (by omega) (by omega))⟩
    · have e : ltF (fun _ => -1) S H (n + 1) i = ltF (fun _ => -1) S H n i := by
        conv => lhs; unfold ltF
        rw [if_neg hb]
      rw [e]
      refine ⟨fun m m0 m1 hm => i1 m m0 ?_ hm, fun hq => i2 (fun m m0 m1 => hq m m0 (by omega))⟩
      by_cases q : m = n
      · subst q; exact absurd hm hb
      · omega
theorem lt_free {S H : Int → Int} {i : Int} : ∀ n : Nat, ltF (fun _ => -1) S H n i = -1 → ∀ m, 0 ≤ m → m < (n : Int) → ¬ bkA S H m i
  | 0, _, m, m0, m1 => by omega
  | n + 1, h, m, m0, m1 => by
    unfold ltF at h
    by_cases hb : bkP S H n (S (6 * n + 5)) 0 i
    · rw [if_pos hb] at h; omega
    · rw [if_neg hb] at h
      by_cases q : m = n
      · subst q; exact hb
      · exact lt_free n h m m0 (by omega)
theorem bkP_of {S H S' H' : Int → Int} {m m' : Int} (h2 : S' (6 * m' + 2) = S (6 * m + 2)) (h5 : S' (6 * m' + 5) = S (6 * m + 5)) (hH : ∀ j, 0 ≤ j → j < 3 * S (6 * m + 5) → H' (21 * m' + j) = H (21 * m + j)) (i : Int) : bkA S' H' m' i ↔ bkA S H m i := by
  have key : ∀ k, 0 ≤ k → k < S (6 * m + 5) → H' (21 * m' + 3 * k) = H (21 * m + 3 * k) ∧ H' (21 * m' + 3 * k + 1) = H (21 * m + 3 * k + 1) ∧ H' (21 * m' + 3 * k + 2) = H (21 * m + 3 * k + 2) := fun k k0 k1 => by
    have a := hH (3 * k) (by omega) (by omega)
    have b := hH (3 * k + 1) (by omega) (by omega)
    have c := hH (3 * k + 2) (by omega) (by omega)
    rw [show 21 * m' + (3 * k + 1) = 21 * m' + 3 * k + 1 from by omega, show 21 * m + (3 * k + 1) = 21 * m + 3 * k + 1 from by omega] at b
    rw [show 21 * m' + (3 * k + 2) = 21 * m' + 3 * k + 2 from by omega, show 21 * m + (3 * k + 2) = 21 * m + 3 * k + 2 from by omega] at c
    exact ⟨a, b, c⟩
  unfold bkA bkP bkE
  rw [h2, h5]
  constructor
  · rintro ⟨k, e, a1, a2, a3, a4, a5⟩
    obtain ⟨c1, c2, c3⟩ := key k a1 (by omega)
    rw [c1, c2, c3] at a5
    exact ⟨k, e, a1, a2, a3, a4, a5⟩
  · rintro ⟨k, e, a1, a2, a3, a4, a5⟩
    obtain ⟨c1, c2, c3⟩ := key k a1 (by omega)
    rw [← c1, ← c2, ← c3] at a5
    exact ⟨k, e, a1, a2, a3, a4, a5⟩
theorem ltF_of {S H S' H' : Int → Int} {i : Int} : ∀ n : Nat, (∀ m, 0 ≤ m → m < (n : Int) → (bkA S' H' m i ↔ bkA S H m i)) → ltF (fun _ => -1) S' H' n i = ltF (fun _ => -1) S H n i
  | 0, _ => rfl
  | n + 1, h => by
    have ih := ltF_of (S := S) (H := H) (S' := S') (H' := H') (i := i) n (fun m a b => h m a (by omega))
    have h1 := h n (by omega) (by omega)
    by_cases hb : bkA S H n i
    · have e1 : ltF (fun _ => -1) S H (n + 1) i = (n : Int) := by unfold ltF; rw [if_pos hb]
      have e2 : ltF (fun _ => -1) S' H' (n + 1) i = (n : Int) := by unfold ltF; rw [if_pos (h1.mpr hb)]
      rw [e1, e2]
    · have e1 : ltF (fun _ => -1) S H (n + 1) i = ltF (fun _ => -1) S H n i := by
        conv => lhs; unfold ltF
        rw [if_neg hb]
      have e2 : ltF (fun _ => -1) S' H' (n + 1) i = ltF (fun _ => -1) S' H' n i := by
        conv => lhs; unfold ltF
        rw [if_neg (fun q => hb (h1.mp q))]
      rw [e1, e2, ih]
/-- all turns of a run are free -/
theorem eeT_free (ok : Int → Prop) {l : Int} (hl : 1 ≤ l) : ∀ (n : Nat) (t run : Int), 0 ≤ t → 0 ≤ run → run < l → eeT ok l n t run ≠ -1 → ∀ s, t ≤ s → eeT ok l n t run - l ≤ s → s < eeT ok l n t run → ok s
  | 0, _, _, _, _, _, h, _, _, _, _ => absurd rfl h
  | n + 1, t, run, t0, r0, r1, h, s, s0, s1, s2 => by
    by_cases hk : ok t
    · rw [eeT_yes hk] at h s1 s2
      by_cases e : run + 1 = l
      · rw [if_pos e] at s1 s2
        rw [show s = t from by omega]; exact hk
      · rw [if_neg e] at h s1 s2
        by_cases q : s = t
        · rw [q]; exact hk
        · exact eeT_free ok hl n (t + 1) (run + 1) (by omega) (by omega) (by omega) h s (by omega) s1 s2
    · rw [eeT_no hk hl] at h s1 s2
      have hb := eeT_bd ok hl n (t + 1) 0 (by omega) (by omega)
      exact eeT_free ok hl n (t + 1) 0 (by omega) (by omega) (by omega) h s (by omega) s1 s2
