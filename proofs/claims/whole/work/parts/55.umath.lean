/-! for the reference's questions -/
theorem up_up (M : Mem) (k : Nat) (j x y : Int) : upM (upM M k j x) k j y = upM M k j y := by
  funext zk zj; simp only [upM]; grind
theorem sq_f {k ns : Int} (h0 : 0 ≤ k) (h1 : k < ns * ns) (hn : 0 ≤ ns) : 0 < ns ∧ (0 ≤ k / ns ∧ k / ns < ns) ∧ (0 ≤ k % ns ∧ k % ns < ns) := by
  have hp : 0 < ns := by
    rcases Int.lt_or_eq_of_le hn with h | h
    · exact h
    · rw [← h] at h1; omega
  exact ⟨hp, ⟨Int.ediv_nonneg h0 hn, Int.ediv_lt_of_lt_mul hp h1⟩, Int.emod_nonneg _ (by omega), Int.emod_lt_of_pos _ hp⟩
theorem rows_ns {α : Type} (P : Int → Int → α → α) {ns : Int} (h : 0 ≤ ns) (s : α) : itT (fun k s => P (k / ns) (k % ns) s) (ns * ns).toNat 0 s = itT (fun a s => itT (P a) ns.toNat 0 s) ns.toNat 0 s := by
  obtain ⟨w, hw⟩ := Int.eq_ofNat_of_zero_le h
  subst hw
  have e1 : ((w : Int) * (w : Int)).toNat = w * w := by rw [← Int.natCast_mul]; rfl
  have e2 : ((w : Int)).toNat = w := rfl
  rw [e1, e2]
  rcases Nat.eq_zero_or_pos w with h0 | h0
  · subst h0; rfl
  · have h2 := itT_rows P w h0 w 0 s
    rw [Int.mul_zero] at h2
    exact h2
theorem si_rows (f : Int → Int → Int) {ns : Int} (h : 0 ≤ ns) : itT (fun k s => if k % ns ≠ k / ns ∧ f (k / ns) (k % ns) = -1 then s + 1 else s) (ns * ns).toNat 0 (0 : Int) = siA f ns.toNat ns.toNat 0 0 := by
  rw [siA_it]
  exact rows_ns (fun a b s => if b ≠ a ∧ f a b = -1 then s + 1 else s) h 0
theorem bcT_v (tk : Int → Prop) (h z : Int → Int) : ∀ (n : Nat) (c v v' : Int), bcT tk h z n c (-1) v = bcT tk h z n c (-1) v'
  | 0, _, _, _ => rfl
  | n + 1, c, v, v' => by
    unfold bcT
    rw [if_pos (Or.inl rfl), if_pos (Or.inl rfl), bcT_v tk h z n (c + 1) v v']
theorem bcT_t {tk : Int → Prop} {h z : Int → Int} {n : Nat} {c b v : Int} (ht : tk c) : bcT tk h z (n + 1) c b v = bcT tk h z n (c + 1) b v := by
  conv => lhs; unfold bcT
  rw [if_pos ht]
theorem bcT_y {tk : Int → Prop} {h z : Int → Int} {n : Nat} {c b v : Int} (ht : ¬ tk c) (hc : b = -1 ∨ v < z c ∨ (z c = v ∧ h b < h c)) : bcT tk h z (n + 1) c b v = bcT tk h z n (c + 1) c (z c) := by
  conv => lhs; unfold bcT
  rw [if_neg ht, if_pos hc]
theorem bcT_n {tk : Int → Prop} {h z : Int → Int} {n : Nat} {c b v : Int} (ht : ¬ tk c) (hc : ¬ (b = -1 ∨ v < z c ∨ (z c = v ∧ h b < h c))) : bcT tk h z (n + 1) c b v = bcT tk h z n (c + 1) b v := by
  conv => lhs; unfold bcT
  rw [if_neg ht, if_neg hc]
theorem ior_0 {s : Int} (h : Inr s) : iorI s 0 = s := by
  unfold iorI
  have e : (Int32.ofInt s ||| Int32.ofInt 0) = Int32.ofInt s := by
    apply b_ext
    intro i hi
    rw [b_or, show bt (Int32.ofInt 0) i = false from b_0 i, Bool.or_false]
  rw [e]
  exact Int32.toInt_ofInt_of_le h.1 h.2
def tkM (M : Mem) (f : Int → Int) : Mem := fun k j => if k = 41 then f j else M k j
theorem tk_self (M : Mem) : M = tkM M (M 41) := by
  funext zk zj; simp only [tkM]; grind
theorem tk_tk (M : Mem) (f g : Int → Int) : tkM (tkM M f) g = tkM M g := by
  funext zk zj; simp only [tkM]; grind
theorem tk_up (M : Mem) (f : Int → Int) (k : Nat) (j x : Int) (h : k ≠ 41) : upM (tkM M f) k j x = tkM (upM M k j x) f := by
  funext zk zj; simp only [tkM, upM]; grind
/-! which turns the messages take -/
abbrev bkE (S H : Int → Int) (m k e i : Int) : Prop := i = 72 * H (21 * m + 3 * k) + (H (21 * m + 3 * k + 2) + e) ∨ i = 72 * H (21 * m + 3 * k + 1) + (H (21 * m + 3 * k + 2) + e)
def bkP (S H : Int → Int) (m k e i : Int) : Prop := ∃ k' e', 0 ≤ k' ∧ 0 ≤ e' ∧ e' < S (6 * m + 2) ∧ (k' < k ∨ (k' = k ∧ e' < e)) ∧ bkE S H m k' e' i
noncomputable def ltF (b S H : Int → Int) : Nat → Int → Int
  | 0, i => b i
  | n + 1, i => @ite Int (bkP S H n (S (6 * n + 5)) 0 i) (Classical.propDecidable _) (n : Int) (ltF b S H n i)
noncomputable def ltP (b S H : Int → Int) (m k e : Int) : Int → Int := fun i => @ite Int (bkP S H m k e i) (Classical.propDecidable _) m (ltF b S H m.toNat i)
theorem ltP_step {b S H : Int → Int} {m k e : Int} (hk : 0 ≤ k) (he : 0 ≤ e) (hl : e < S (6 * m + 2)) : upF (upF (ltP b S H m k e) (72 * H (21 * m + 3 * k) + (H (21 * m + 3 * k + 2) + e)) m) (72 * H (21 * m + 3 * k + 1) + (H (21 * m + 3 * k + 2) + e)) m = ltP b S H m k (e + 1) := by
  funext i
  unfold ltP
  by_cases h1 : bkE S H m k e i
  · rw [if_pos (show bkP S H m k (e + 1) i from ⟨k, e, hk, he, hl, Or.inr ⟨rfl, by omega⟩, h1⟩)]
    unfold upF
    rcases h1 with h1 | h1
    · split
      · rfl
      · first | rfl | rw [if_pos h1]
    · rw [if_pos h1]
  · have e1 : upF (upF (fun i => @ite Int (bkP S H m k e i) (Classical.propDecidable _) m (ltF b S H m.toNat i)) (72 * H (21 * m + 3 * k) + (H (21 * m + 3 * k + 2) + e)) m) (72 * H (21 * m + 3 * k + 1) + (H (21 * m + 3 * k + 2) + e)) m i = @ite Int (bkP S H m k e i) (Classical.propDecidable _) m (ltF b S H m.toNat i) := by
      rw [upF_n _ (fun q => h1 (Or.inr q)), upF_n _ (fun q => h1 (Or.inl q))]
    rw [e1]
    have hiff : bkP S H m k e i ↔ bkP S H m k (e + 1) i := by
      constructor
      · rintro ⟨k', e', a1, a2, a3, a4, a5⟩
        exact ⟨k', e', a1, a2, a3, by omega, a5⟩
      · rintro ⟨k', e', a1, a2, a3, a4, a5⟩
        refine ⟨k', e', a1, a2, a3, ?_, a5⟩
        rcases a4 with a4 | ⟨a4, a6⟩
        · exact Or.inl a4
        · refine Or.inr ⟨a4, ?_⟩
          rcases Int.lt_or_eq_of_le (show e' ≤ e by omega) with a7 | a7
          · exact a7
          · subst a4; subst a7; exact absurd a5 h1
    by_cases h2 : bkP S H m k e i
    · rw [if_pos h2, if_pos (hiff.mp h2)]
    · rw [if_neg h2, if_neg (fun q => h2 (hiff.mpr q))]
theorem ltP_hop {b S H : Int → Int} {m k e : Int} (he : e = S (6 * m + 2)) : ltP b S H m k e = ltP b S H m (k + 1) 0 := by
  funext i
  unfold ltP
  have hiff : bkP S H m k e i ↔ bkP S H m (k + 1) 0 i := by
    constructor
    · rintro ⟨k', e', a1, a2, a3, a4, a5⟩
      exact ⟨k', e', a1, a2, a3, by omega, a5⟩
    · rintro ⟨k', e', a1, a2, a3, a4, a5⟩
      exact ⟨k', e', a1, a2, a3, by omega, a5⟩
  by_cases h2 : bkP S H m k e i
  · rw [if_pos h2, if_pos (hiff.mp h2)]
  · rw [if_neg h2, if_neg (fun q => h2 (hiff.mpr q))]
theorem ltP_0 {b S H : Int → Int} {m : Int} : ltP b S H m 0 0 = ltF b S H m.toNat := by
  funext i
  unfold ltP
  rw [if_neg]
  rintro ⟨k', e', a1, a2, a3, a4, a5⟩
  omega
theorem ltP_msg {b S H : Int → Int} {m k : Int} (hm : 0 ≤ m) (hk : k = S (6 * m + 5)) : ltP b S H m k 0 = ltP b S H (m + 1) 0 0 := by
  rw [ltP_0]
  subst hk
  obtain ⟨n, hn⟩ := Int.eq_ofNat_of_zero_le hm
  subst hn
  rfl
def ltB (f : Int → Int) : Int → Int := fun j => if 0 ≤ j ∧ j < 576 then -1 else f j
noncomputable def ltA (M : Mem) : Int → Int := ltF (ltB (M 41)) (M 36) (M 37) (M 27 11).toNat
theorem lt_fill (M : Mem) : fillM M 41 576 (-1) = tkM M (ltP (ltB (M 41)) (M 36) (M 37) 0 0 0) := by
  rw [ltP_0]
  funext zk zj
  simp only [fillM, tkM, ltF, ltB]
  show _ = if zk = 41 then ltF (fun j => if 0 ≤ j ∧ j < 576 then -1 else M 41 j) (M 36) (M 37) 0 zj else M zk zj
  unfold ltF
  grind
theorem tk_put (M : Mem) (f : Int → Int) (i v : Int) : upM (tkM M f) 41 i v = tkM M (upF f i v) := by
  funext zk zj; simp only [upM, tkM, upF]; grind
theorem ltF_bd {b S H : Int → Int} {i : Int} (hb : b i = -1) : ∀ n : Nat, -1 ≤ ltF b S H n i ∧ ltF b S H n i < n
  | 0 => by unfold ltF; rw [hb]; omega
  | n + 1 => by
    have := ltF_bd (b := b) (S := S) (H := H) hb n
    unfold ltF
    split <;> omega
theorem ltA_bd {M : Mem} (hm : 0 ≤ M 27 11 ∧ M 27 11 ≤ 20) {i : Int} (h0 : 0 ≤ i) (h1 : i < 576) : -1 ≤ ltA M i ∧ ltA M i < 20 := by
  have h := ltF_bd (b := ltB (M 41)) (S := M 36) (H := M 37) (i := i) (by unfold ltB; rw [if_pos ⟨h0, h1⟩]) (M 27 11).toNat
  unfold ltA
  omega
/-- a row's end moved down -/
def shM (X : Mem) (a : Nat) (lo hi d : Int) : Mem := fun k j => if k = a ∧ lo ≤ j ∧ j < hi then X a (j + d) else X k j
theorem sh_s {X : Mem} {a : Nat} {lo k d : Int} (h : lo ≤ k) (hd : 0 < d) : upM (shM X a lo k d) a k (shM X a lo k d a (k + d)) = shM X a lo (k + 1) d := by
  have e : shM X a lo k d a (k + d) = X a (k + d) := by unfold shM; rw [if_neg (by omega)]
  rw [e]
  funext zk zj; simp only [upM, shM]; grind
theorem sh_0 (X : Mem) (a : Nat) (lo d : Int) : X = shM X a lo lo d := by
  funext zk zj; unfold shM; rw [if_neg (by omega)]
