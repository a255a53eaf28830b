/-! the same numbers on both sides -/
section
variable {M : Mem}
theorem RR.e2 (h : RR M) : M 28 = M 2 := h.1.2
theorem RR.ens (h : RR M) : M 27 2 = M 7 3 := h.2.1.2.1
theorem RR.e8 (h : RR M) : M 29 = M 8 := h.2.1.2.2.1
theorem RR.e9 (h : RR M) : M 30 = M 9 := h.2.1.2.2.2.1
theorem RR.e10 (h : RR M) : M 31 = M 10 := h.2.1.2.2.2.2
end
theorem lt_hi {ns n : Int} {S H B : Int → Int} (h : RG ns n S H B) {i : Int} (hi : 72 * ns ≤ i) : ∀ k : Nat, (k : Int) ≤ n → ltF (fun _ => -1) S H k i = -1
  | 0, _ => rfl
  | k + 1, hk => by
    unfold ltF
    rw [if_neg, lt_hi h hi k (by omega)]
    rintro ⟨k', e', a1, a2, a3, a4, a5⟩
    have g := h.2.2.1 k k' (by omega) (by omega) a1 (by omega)
    rcases a5 with a5 | a5 <;> omega
theorem bz_none {f : Int → Int} : ∀ (n : Nat) (i s : Int), (∀ j, i ≤ j → j < i + n → f j = -1) → bzT f n i s = s
  | 0, _, _, _ => rfl
  | n + 1, i, s, h => by
    unfold bzT
    rw [if_pos (h i (Int.le_refl _) (by omega))]
    exact bz_none n (i + 1) s (fun j a b => h j (by omega) (by omega))
theorem bzA_tail {f : Int → Int} : ∀ (n : Nat) (i s : Int), (∀ j, 72 * i ≤ j → j < 72 * (i + n) → f j = -1) → bzA f n i s = s
  | 0, _, _, _ => rfl
  | n + 1, i, s, h => by
    unfold bzA
    rw [bz_none 72 0 0 (fun j a b => h (72 * i + j) (by omega) (by omega)), Int.add_zero]
    exact bzA_tail n (i + 1) s (fun j a b => h j (by omega) (by omega))
theorem RR.bz {M : Mem} (h : RR M) : bzA (M 21) 8 0 0 = bzA (lt0 M) (M 27 2).toNat 0 0 := by
  have hn := h.ns
  rw [bzA_congr (f := M 21) (g := lt0 M) 8 0 0 (by omega) (fun j a b => h.lt (by omega) (by omega)), h.ens]
  have e : (8 : Nat) = (M 7 3).toNat + (8 - M 7 3).toNat := by omega
  rw [e, bzA_it, itT_app, ← bzA_it, ← bzA_it]
  refine bzA_tail _ _ _ (fun j a b => ?_)
  obtain ⟨h1, hG, -⟩ := h.2.2.2.2
  unfold lt0
  rw [h1]
  exact lt_hi hG (by omega) _ (by have := hG.1; omega)
theorem laT_congr {f g : Int → Int} : ∀ (n : Nat) (i s : Int), (∀ j, i ≤ j → j < i + n → f j = g j) → laT f n i s = laT g n i s
  | 0, _, _, _ => rfl
  | n + 1, i, s, h => by
    unfold laT
    rw [h i (Int.le_refl _) (by omega)]
    exact laT_congr n (i + 1) _ (fun j a b => h j (by omega) (by omega))
theorem RR.nm {M : Mem} (h : RR M) (w : Int) : nmC M w = nmR M w := by
  unfold nmC nmF nmR
  rw [h.e2, h.e8, h.e9, h.e10, ← h.bz, h.ens, h.2.2.1.2.1, h.2.2.2.2.1]
  rw [laT_congr (f := fun m => M 20 (27 * m + 4)) (g := fun m => M 36 (6 * m + 4)) (M 19 2).toNat 0 (-1) (fun j a b => (h.2.2.2.2.2.2 j a (by have := h.2.2.2.2.2.1.1; omega)).1 4 (by omega) (by omega))]
theorem RR.sp {M : Mem} (h : RR M) {s : Int} (hs : 0 ≤ s ∧ s < M 7 3) (w : Int) : spC M s w = spR M s w := by
  have hn := h.ns
  unfold spC spR spF
  rw [h.e2, h.e8, h.e9, h.e10, h.cvE]
  rw [bzT_congr (f := fun t => M 21 (72 * s + t)) (g := fun t => lt0 M (72 * s + t)) 72 0 0 (fun j a b => h.lt (by omega) (by omega))]
/-! who can signal when -/
theorem lnk_0 {h ce ma mi : Int → Int} {cv : Int → Int → Prop} {a b hr : Int} : lnkF h ce ma mi cv a b hr = 0 ↔ snF h (ce a) (eyeF h ce ma a) hr (cv (ce a) hr) = 0 ∧ betF h ce ma a b = -1 ∧ thrP h ce ma mi a b hr := by
  unfold lnkF
  by_cases h1 : snF h (ce a) (eyeF h ce ma a) hr (cv (ce a) hr) = 0
  · rw [if_neg (fun q => q h1)]
    by_cases h2 : betF h ce ma a b = -1
    · rw [if_neg (fun q => q h2)]
      by_cases h3 : thrP h ce ma mi a b hr
      · rw [if_pos h3]; exact ⟨fun _ => ⟨h1, h2, h3⟩, fun _ => rfl⟩
      · rw [if_neg h3]; exact ⟨fun q => by omega, fun q => absurd q.2.2 h3⟩
    · rw [if_pos h2]; exact ⟨fun q => by omega, fun q => absurd q.2.1 h2⟩
  · rw [if_pos h1]; exact ⟨fun q => absurd q h1, fun q => absurd q.1 h1⟩
theorem hp_bit {M : Mem} (h : RR M) {a b hr : Int} (h0 : 6 ≤ hr) (h1 : hr ≤ 17) : bitP (hpC M a b) hr ↔ b ≠ a ∧ lnkF (M 28) (M 29) (M 30) (M 31) (cvR M) a b hr = 0 := by
  rw [h.e2, h.e8, h.e9, h.e10, ← h.cvE, lnk_0]
  unfold hpC
  by_cases e : b = a
  · rw [if_pos e]; exact ⟨fun q => absurd q (bit_0 (by omega) (by omega)), fun q => absurd e q.1⟩
  · rw [if_neg e]
    by_cases e2 : betF (M 2) (M 8) (M 9) a b = -1
    · rw [if_neg (fun q => q e2), shT_bit _ (by omega) (by omega) 12 6 0 (by omega) (by omega), shT_bit _ (by omega) (by omega) 12 6 0 (by omega) (by omega)]
      constructor
      · rintro (q | ⟨-, -, (q | ⟨-, -, q⟩), q2⟩)
        · exact absurd q (bit_0 (by omega) (by omega))
        · exact absurd q (bit_0 (by omega) (by omega))
        · exact ⟨e, q, e2, q2⟩
      · rintro ⟨-, q1, -, q3⟩
        exact Or.inr ⟨h0, by omega, Or.inr ⟨h0, by omega, q1⟩, q3⟩
    · rw [if_pos e2]; exact ⟨fun q => absurd q (bit_0 (by omega) (by omega)), fun q => absurd q.2.2.1 e2⟩
theorem eeT_congr {ok ok' : Int → Prop} {l : Int} (hl : 1 ≤ l) : ∀ (n : Nat) (t run : Int), (∀ s, t ≤ s → s < t + n → (ok s ↔ ok' s)) → eeT ok l n t run = eeT ok' l n t run
  | 0, _, _, _ => rfl
  | n + 1, t, run, h => by
    have h0 := h t (Int.le_refl _) (by omega)
    have ih := fun r => eeT_congr (ok := ok) (ok' := ok') hl n (t + 1) r (fun s a b => h s (by omega) (by omega))
    by_cases hk : ok t
    · rw [eeT_yes hk, eeT_yes (h0.mp hk), ih]
    · rw [eeT_no hk hl, eeT_no (fun q => hk (h0.mpr q)) hl, ih]
/-- both sides know the same ends -/
theorem RR.ee {M : Mem} (h : RR M) {l u v s : Int} (hl : 1 ≤ l) (hu : 0 ≤ u ∧ u < M 7 3) (hv : 0 ≤ v ∧ v < M 7 3) (hs : 0 ≤ s ∧ s ≤ 72) : EFm (lkA M) l u v s = ERm M l u v s := by
  have hn := h.ns
  refine eeT_congr hl _ _ _ (fun t t0 t1 => ?_)
  have e23 : lkA M 23 (8 * u + v) = hpC M u v := by
    show lkM M (hpC M) (M 7 3) (M 7 3) 0 23 (8 * u + v) = _
    unfold lkM
    rw [if_pos (by omega), show (8 * u + v) / 8 = u from by omega, show (8 * u + v) % 8 = v from by omega]
  have e42 : layM M 42 (12 * (8 * u + v) + t / 6) = gvR M (12 * (8 * u + v) + (6 + t / 6) - 6) := by
    rw [lay42 M (by omega) (by omega)]; congr 1; omega
  have e41 : ∀ i, 0 ≤ i → i < 576 → layM M 41 i = M 21 i := fun i i0 i1 => by
    rw [h.lt i0 i1, ← ltA_0 i0 i1]; rfl
  have hg : gvR M (12 * (8 * u + v) + (6 + t / 6) - 6) = 1 ↔ (v ≠ u ∧ lnkF (M 28) (M 29) (M 30) (M 31) (cvR M) u v (6 + t / 6) = 0) := by
    have d1 : (8 * u + v) / 8 = u := by omega
    have d2 : (8 * u + v) % 8 = v := by omega
    by_cases hq : v ≠ u ∧ lnkF (M 28) (M 29) (M 30) (M 31) (cvR M) u v (6 + t / 6) = 0
    · rw [gv_y (by omega) (by omega) (by omega) (by rw [d1, d2, h.ens]; exact ⟨hu.2, hv.2, fun q => hq.1 q.symm, hq.2⟩)]
      exact ⟨fun _ => hq, fun _ => rfl⟩
    · rw [gv_n (by omega) (by omega) (by omega) (by rw [d1, d2, h.ens]; exact fun q => hq ⟨fun z => q.2.2.1 z.symm, q.2.2.2⟩)]
      exact ⟨fun q => by omega, fun q => absurd q hq⟩
  show (bitP (lkA M 23 (8 * u + v)) (6 + t / 6) ∧ M 21 (72 * u + t) = -1 ∧ M 21 (72 * v + t) = -1) ↔ (layM M 42 (12 * (8 * u + v) + t / 6) = 1 ∧ layM M 41 (72 * u + t) = -1 ∧ layM M 41 (72 * v + t) = -1)
  rw [e23, hp_bit h (by omega) (by omega), e42, hg, e41 _ (by omega) (by omega), e41 _ (by omega) (by omega)]
theorem ArrOK.congr {E E' : Int → Int → Int → Int} {ns a t : Int} {f : Int → Int} (hA : ArrOK E ns a t f) (ht : 0 ≤ t) (hE : ∀ u v s, 0 ≤ u → u < ns → 0 ≤ v → v < ns → 0 ≤ s → s ≤ 72 → E u v s = E' u v s) : ArrOK E' ns a t f := by
  obtain ⟨h1, h2, h3, h4⟩ := hA
  refine ⟨h1, h2, fun u v u0 u1 v0 v1 hu he => ?_, fun v v0 v1 hv hf => ?_⟩
  · have := h2 u u0 u1
    rw [← hE u v (f u) u0 u1 v0 v1 (by omega) (by omega)] at he ⊢
    exact h3 u v u0 u1 v0 v1 hu he
  · obtain ⟨u, u0, u1, u2, u3⟩ := h4 v v0 v1 hv hf
    have := h2 u u0 u1
    exact ⟨u, u0, u1, u2, by rw [← hE u v (f u) u0 u1 v0 v1 (by omega) (by omega)]; exact u3⟩
/-! how many hours -/
def hrOk (j v : Nat) : Bool := decide (iorI (64 * (v : Int)) (ishlI 1 ((j : Int) + 6)) = 64 * ((v : Int) + ((2 ^ j : Nat) : Int))) && decide (pc12 ((v : Int) + ((2 ^ j : Nat) : Int)) = pc12 (v : Int) + 1)
theorem hr_all : ((List.range 12).all fun j => (List.range (2 ^ j)).all fun v => hrOk j v) = true := by decide +kernel
theorem hr_at {j v : Nat} (hj : j < 12) (hv : v < 2 ^ j) : iorI (64 * (v : Int)) (ishlI 1 ((j : Int) + 6)) = 64 * ((v : Int) + ((2 ^ j : Nat) : Int)) ∧ pc12 ((v : Int) + ((2 ^ j : Nat) : Int)) = pc12 (v : Int) + 1 := by
  have h := List.all_eq_true.mp (List.all_eq_true.mp hr_all j (List.mem_range.mpr hj)) v (List.mem_range.mpr hv)
  unfold hrOk at h
  rw [Bool.and_eq_true, decide_eq_true_eq, decide_eq_true_eq] at h
  exact h
theorem sh_cnt (f : Int → Prop) [d : ∀ i, Decidable (f i)] : ∀ (n j v : Nat) (c : Int), j + n ≤ 12 → v < 2 ^ j → ∃ w : Nat, w < 2 ^ (j + n) ∧ shT f n ((j : Int) + 6) (64 * (v : Int)) = 64 * (w : Int) ∧ pc12 (w : Int) + c = pc12 (v : Int) + itT (fun hr s => if f hr then s + 1 else s) n ((j : Int) + 6) c
  | 0, j, v, c, _, hv => ⟨v, hv, rfl, rfl⟩
  | n + 1, j, v, c, hj, hv => by
    obtain ⟨e1, e2⟩ := hr_at (j := j) (v := v) (by omega) hv
    have hp : 2 ^ (j + 1) = 2 ^ j + 2 ^ j := by rw [Nat.pow_succ]; omega
    have ej : ((j : Int) + 6) + 1 = ((j + 1 : Nat) : Int) + 6 := by omega
    by_cases hf : f ((j : Int) + 6)
    · obtain ⟨w, w1, w2, w3⟩ := sh_cnt f n (j + 1) (v + 2 ^ j) (c + 1) (by omega) (by omega)
      refine ⟨w, by rw [show j + (n + 1) = j + 1 + n from by omega]; exact w1, ?_, ?_⟩
      · rw [shT_yes hf, e1, ej, ← w2]; congr 2
      · rw [itT_s, if_pos hf, ej]
        have e3 : pc12 ((v + 2 ^ j : Nat) : Int) = pc12 (v : Int) + 1 := by rw [← e2]; congr 1
        rw [e3] at w3
        omega
    · obtain ⟨w, w1, w2, w3⟩ := sh_cnt f n (j + 1) v c (by omega) (by omega)
      refine ⟨w, by rw [show j + (n + 1) = j + 1 + n from by omega]; exact w1, ?_, ?_⟩
      · rw [shT_no hf, ej]; exact w2
      · rw [itT_s, if_neg hf, ej]; exact w3
theorem bc_cnt (f : Int → Prop) [d : ∀ i, Decidable (f i)] : bcI (shT f 12 6 0) = itT (fun hr s => if f hr then s + 1 else s) 12 6 (0 : Int) := by
  obtain ⟨w, w1, w2, w3⟩ := sh_cnt f 12 0 0 0 (by omega) (by omega)
  have e : (((0 : Nat) : Int) + 6) = 6 := rfl
  rw [e] at w2 w3
  have e0 : 64 * ((0 : Nat) : Int) = 0 := rfl
  rw [e0] at w2
  rw [w2, bc_at (by omega) (by omega)]
  have e1 : pc12 ((0 : Nat) : Int) = 0 := by decide
  rw [e1] at w3
  omega
theorem it_const {P : Int → Prop} [d : ∀ i, Decidable (P i)] : ∀ (n : Nat) (i s : Int), (∀ j, i ≤ j → j < i + n → ¬ P j) → itT (fun j s => if P j then s + 1 else s) n i s = s
  | 0, _, _, _ => rfl
  | n + 1, i, s, h => by
    rw [itT_s, if_neg (h i (Int.le_refl _) (by omega))]
    exact it_const n (i + 1) s (fun j a b => h j (by omega) (by omega))
theorem RR.hr {M : Mem} (h : RR M) (a b : Int) : bcI (hrC M a b) = hrR M a b := by
  have hl : ∀ hr, lnkF (M 28) (M 29) (M 30) (M 31) (cvR M) a b hr = 0 ↔ snF (M 2) (M 8 a) (eyeF (M 2) (M 8) (M 9) a) hr (cvC M (M 8 a) hr) = 0 ∧ betF (M 2) (M 8) (M 9) a b = -1 ∧ thrP (M 2) (M 8) (M 9) (M 10) a b hr := fun hr => by
    rw [h.e2, h.e8, h.e9, h.e10, ← h.cvE, lnk_0]
  unfold hrC hrR
  by_cases e2 : betF (M 2) (M 8) (M 9) a b = -1
  · rw [if_neg (fun q => q e2)]
    letI d : ∀ hr, Decidable (bitP (sunT (M 2) (M 8) (M 9) (cvC M) a) hr ∧ thrP (M 2) (M 8) (M 9) (M 10) a b hr) := fun hr => Classical.propDecidable _
    rw [bc_cnt]
    refine itT_congr 12 6 0 (fun j j0 j1 s => ?_)
    have hb : (bitP (sunT (M 2) (M 8) (M 9) (cvC M) a) j ∧ thrP (M 2) (M 8) (M 9) (M 10) a b j) ↔ lnkF (M 28) (M 29) (M 30) (M 31) (cvR M) a b j = 0 := by
      rw [hl]
      unfold sunT
      rw [shT_bit _ (by omega) (by omega) 12 6 0 (by omega) (by omega)]
      constructor
      · rintro ⟨(q | ⟨-, -, q⟩), q2⟩
        · exact absurd q (bit_0 (by omega) (by omega))
        · exact ⟨q, e2, q2⟩
      · rintro ⟨q1, -, q3⟩
        exact ⟨Or.inr ⟨j0, by omega, q1⟩, q3⟩
    by_cases hq : lnkF (M 28) (M 29) (M 30) (M 31) (cvR M) a b j = 0
    · rw [if_pos (hb.mpr hq), if_pos hq]
    · rw [if_neg (fun q => hq (hb.mp q)), if_neg hq]
  · rw [if_pos e2, it_const 12 6 0 (fun j j0 j1 q => e2 ((hl j).mp q).2.1)]
    decide
/-! the hash -/
theorem RR.dg {M : Mem} (h : RR M) : dgC M = dgR M := by
  have hn := h.ns
  have hm := h.2.2.2.2.2.1.1
  have hw := h.2.2.2.2.2.2
  unfold dgC dgR
  have c1 : itT (fun w h => hsh h (nmC M w)) 9 0 1951 = itT (fun w h => hsh h (nmR M w)) 9 0 1951 := itT_congr 9 0 _ (fun j j0 j1 s => by rw [h.nm])
  have c2 : ∀ x, itT (fun s h => itT (fun w h => hsh h (spC M s w)) 6 0 h) (M 7 3).toNat 0 x = itT (fun k h => hsh h (spR M (k / 6) (k % 6))) (6 * M 27 2).toNat 0 x := fun x => by
    have e := itT_rows (fun s w h => hsh h (spR M s w)) 6 (by omega) (M 7 3).toNat 0 x
    rw [show (6 * M 27 2).toNat = 6 * (M 7 3).toNat from by rw [h.ens]; omega]
    have e0 : ((6 : Nat) : Int) * 0 = 0 := by omega
    rw [e0] at e
    refine Eq.trans ?_ e.symm
    refine itT_congr _ _ _ (fun j j0 j1 s => itT_congr _ _ _ (fun w w0 w1 s2 => ?_))
    rw [h.sp ⟨j0, by omega⟩]
  have c3 : ∀ x, itT (fun a h => itT (fun b h => prS (betF (M 2) (M 8) (M 9)) (fun a b => bcI (hrC M a b)) a b h) (M 7 3).toNat 0 h) (M 7 3).toNat 0 x = itT (prR M) (M 27 2 * M 27 2).toNat 0 x := fun x => by
    have e := rows_ns (fun a b h => prS (betF (M 28) (M 29) (M 30)) (hrR M) a b h) (ns := M 27 2) (by rw [h.ens]; exact hn.1) x
    refine Eq.trans ?_ e.symm
    rw [h.ens, h.e2, h.e8, h.e9]
    refine itT_congr _ _ _ (fun j j0 j1 s => itT_congr _ _ _ (fun w w0 w1 s2 => ?_))
    unfold prS
    dsimp only
    rw [h.hr]
  have c4 : ∀ x, itT (fun m h => itT (fun j h => itT (fun w h => hsh h (M 20 (27 * m + 6 + 3 * j + w))) 3 0 h) (M 20 (27 * m + 5)).toNat 0 (itT (fun w h => hsh h (M 20 (27 * m + w))) 6 0 h)) (M 19 2).toNat 0 x = itT (fun m h => itT (fun j h => hsh h (M 37 (21 * m + j))) (3 * M 36 (6 * m + 5)).toNat 0 (itT (fun w h => hsh h (M 36 (6 * m + w))) 6 0 h)) (M 27 11).toNat 0 x := fun x => by
    rw [h.2.2.2.2.1]
    refine itT_congr _ _ _ (fun m m0 m1 s => ?_)
    obtain ⟨w1, w2⟩ := hw m m0 (by omega)
    have e5 := w1 5 (by omega) (by omega)
    have g5 := (h.2.2.2.2.2.1.2.1 m m0 (by omega)).2.2.2.2.2.2
    have i1 : itT (fun w h => hsh h (M 20 (27 * m + w))) 6 0 s = itT (fun w h => hsh h (M 36 (6 * m + w))) 6 0 s := itT_congr _ _ _ (fun w a b s2 => by rw [w1 w a (by omega)])
    rw [i1, e5]
    have e := itT_rows (fun j w (h : Int) => hsh h (M 37 (21 * m + (3 * j + w)))) 3 (by omega) (M 36 (6 * m + 5)).toNat 0 (itT (fun w h => hsh h (M 36 (6 * m + w))) 6 0 s)
    have e0 : ((3 : Nat) : Int) * 0 = 0 := by omega
    rw [e0] at e
    have e3 : itT (fun j (h : Int) => hsh h (M 37 (21 * m + j))) (3 * M 36 (6 * m + 5)).toNat 0 (itT (fun w h => hsh h (M 36 (6 * m + w))) 6 0 s) = itT (fun k (h : Int) => hsh h (M 37 (21 * m + (3 * (k / ((3 : Nat) : Int)) + k % ((3 : Nat) : Int))))) (3 * (M 36 (6 * m + 5)).toNat) 0 (itT (fun w h => hsh h (M 36 (6 * m + w))) 6 0 s) := by
      rw [show (3 * M 36 (6 * m + 5)).toNat = 3 * (M 36 (6 * m + 5)).toNat from by omega]
      refine itT_congr _ _ _ (fun k a b s2 => ?_)
      rw [show 3 * (k / ((3 : Nat) : Int)) + k % ((3 : Nat) : Int) = k from by omega]
    rw [e3]
    refine Eq.trans ?_ e.symm
    refine itT_congr _ _ _ (fun j a b s2 => itT_congr _ _ _ (fun w c d s3 => ?_))
    rw [← w2 (3 * j + w) (by omega) (by omega), show 27 * m + 6 + (3 * j + w) = 27 * m + 6 + 3 * j + w from by omega]
  rw [c1, c2, c3, c4, h.e2, h.2.2.2.1.2.2.1, h.2.2.2.1.2.2.2]
theorem hpC_of {X M : Mem} (e2 : X 2 = M 2) (e8 : X 8 = M 8) (e9 : X 9 = M 9) (e10 : X 10 = M 10) (e11 : X 11 6 = M 11 6) (e12 : X 12 = M 12) (e13 : X 13 = M 13) (e14 : X 14 = M 14) (e15 : X 15 = M 15) (e16 : X 16 = M 16) (e17 : X 17 = M 17) : hpC X = hpC M := by
  have hc : cvC X = cvC M := by
    funext c hr
    unfold cvC cov
    rw [e11, e12, e13, e14, e15, e16, e17]
  funext a b
  unfold hpC
  rw [e2, e8, e9, e10, hc]
theorem RR.ee2 {M X : Mem} (h : RR X) (hp : hpC X = hpC M) (e7 : X 7 3 = M 7 3) (e21 : X 21 = M 21) {l u v s : Int} (hl : 1 ≤ l) (hu : 0 ≤ u ∧ u < M 7 3) (hv : 0 ≤ v ∧ v < M 7 3) (hs : 0 ≤ s ∧ s ≤ 72) : EFm (lkA M) l u v s = ERm X l u v s := by
  rw [← h.ee hl (by rw [e7]; exact hu) (by rw [e7]; exact hv) hs]
  have hn := h.ns
  refine eeT_congr hl _ _ _ (fun t t0 t1 => ?_)
  have q : ∀ Y : Mem, Y 7 3 = M 7 3 → lkM Y (hpC Y) (Y 7 3) (Y 7 3) 0 23 (8 * u + v) = hpC Y u v := fun Y hY => by
    unfold lkM
    rw [if_pos (by omega), show (8 * u + v) / 8 = u from by omega, show (8 * u + v) % 8 = v from by omega]
  show (bitP (lkM M (hpC M) (M 7 3) (M 7 3) 0 23 (8 * u + v)) (6 + t / 6) ∧ M 21 (72 * u + t) = -1 ∧ M 21 (72 * v + t) = -1) ↔ (bitP (lkM X (hpC X) (X 7 3) (X 7 3) 0 23 (8 * u + v)) (6 + t / 6) ∧ X 21 (72 * u + t) = -1 ∧ X 21 (72 * v + t) = -1)
  rw [q M rfl, q X e7, hp, e21]
