theorem AW.st {ev : Ev} {k : Bool} {d : Nat} {t : MT} {Q : Out → Mem → Prop} {pc : Nat} {L : Lo} {s s' : List AV} {M : Mem} (h : s = s') (hk : AW ev k d t Q pc L s' M) : AW ev k d t Q pc L s M := h ▸ hk
theorem qe_1 {M : Mem} {s : QS} (h : s.2.1 = 1) : upM (upM (qsM M s) 39 s.1 (s.2.2.2.1 s.1)) 40 s.1 s.2.2.1 = qsM M (qend s) := by
  funext zk zj
  unfold qend
  rw [if_pos h, if_pos h]
  simp only [upM, qsM, upF]
  grind
theorem qe_0 {M : Mem} {s : QS} (h : s.2.1 ≠ 1) : upM (upM (qsM M s) 39 s.1 s.2.2.1) 40 s.1 1 = qsM M (qend s) := by
  funext zk zj
  unfold qend
  rw [if_neg h, if_neg h]
  simp only [upM, qsM, upF]
  grind
theorem qp_c {M : Mem} {c : Int} {s : QS} (h : c = 44) : upM (upM (upM (qsM M (qend s)) 27 16 ((qend s).1 + 1)) 27 19 0) 27 20 (-1) = qsM M (qsep c s) := by
  funext zk zj
  unfold qsep
  rw [if_pos h, if_neg (by omega)]
  simp only [upM, qsM, qend]
  grind
theorem qp_s {M : Mem} {c : Int} {s : QS} (h : c = 42) : upM (upM (upM (qsM M (qend s)) 27 16 ((qend s).1 + 0)) 27 19 1) 27 20 (-1) = qsM M (qsep c s) := by
  funext zk zj
  unfold qsep
  rw [if_neg (by omega), if_pos h]
  simp only [upM, qsM, qend]
  grind
def QSJ (s : QS) : Prop := (∀ j, 0 ≤ j → j < s.1 → (0 ≤ s.2.2.2.1 j ∧ s.2.2.2.1 j ≤ 500) ∧ (1 ≤ s.2.2.2.2 j ∧ s.2.2.2.2 j ≤ 144)) ∧ (s.2.1 = 1 → (0 ≤ s.2.2.2.1 s.1 ∧ s.2.2.2.1 s.1 ≤ 500) ∧ (s.2.2.1 = -1 ∨ (1 ≤ s.2.2.1 ∧ s.2.2.1 ≤ 144))) ∧ (s.2.1 ≠ 1 → -1 ≤ s.2.2.1 ∧ s.2.2.1 ≤ 500)
theorem QSJ.en {s : QS} (h : QSJ s) (hn : s.2.2.1 ≠ -1) (j : Int) (j0 : 0 ≤ j) (j1 : j < s.1 + 1) : (0 ≤ (qend s).2.2.2.1 j ∧ (qend s).2.2.2.1 j ≤ 500) ∧ (1 ≤ (qend s).2.2.2.2 j ∧ (qend s).2.2.2.2 j ≤ 144) := by
  obtain ⟨it, ic, nu, IH, IC⟩ := s
  obtain ⟨h1, h2, h3⟩ := h
  unfold qend
  dsimp only at h1 h2 h3 hn j1 ⊢
  by_cases hj : j = it
  · subst hj
    rw [upF_s, upF_s]
    by_cases hc : ic = 1
    · rw [if_pos hc, if_pos hc]
      have := h2 hc
      omega
    · rw [if_neg hc, if_neg hc]
      have := h3 hc
      omega
  · rw [upF_n IH hj, upF_n IC hj]
    exact h1 j j0 (by omega)
theorem QSJ.step {c : Int} {s : QS} (h : QSJ s) (hc : qok c s) : QSJ (qst c s) := by
  have he := fun (hn : s.2.2.1 ≠ -1) => h.en hn
  obtain ⟨it, ic, nu, IH, IC⟩ := s
  obtain ⟨h1, h2, h3⟩ := h
  dsimp only at h1 h2 h3 he
  unfold qst
  rcases hc with ⟨c1, c2⟩ | ⟨c1, c2⟩
  · rw [if_pos c1]
    have hx : ∀ x, x = qnx (c - 48) (it, ic, nu, IH, IC) → (ic = 1 ∧ 1 ≤ x ∧ x ≤ 144) ∨ (ic ≠ 1 ∧ nu ≠ 0 ∧ x ≤ 500) := fun x e => by rw [e]; exact c2
    have hy : ∀ x, x = qnx (c - 48) (it, ic, nu, IH, IC) → ic ≠ 1 → -1 ≤ x := fun x e q => by
      have := h3 q
      unfold qnx at e
      dsimp only at e
      split at e <;> omega
    unfold QSJ qput
    generalize qnx (c - 48) (it, ic, nu, IH, IC) = x at hx hy
    dsimp only
    have hx := hx x rfl
    have hy := hy x rfl
    exact ⟨h1, fun q => ⟨(h2 q).1, by omega⟩, fun q => by have := hy q; omega⟩
  · rw [if_neg c1]
    have hn : nu ≠ -1 := c2.1
    have he := he hn
    have hc2 : c = 44 ∨ (c = 42 ∧ ic ≠ 1) := c2.2
    unfold QSJ qsep
    dsimp only
    rcases hc2 with e | e
    · rw [if_pos e, if_neg (by omega)]
      exact ⟨fun j j0 j1 => he j j0 j1, fun q => by omega, fun _ => by omega⟩
    · rw [if_neg (by omega), if_pos e.1]
      refine ⟨fun j j0 j1 => he j j0 (by omega), fun _ => ?_, fun q => absurd rfl q⟩
      rw [Int.add_zero]
      refine ⟨?_, Or.inl rfl⟩
      have h4 : 0 ≤ it ∨ it < 0 := by omega
      unfold qend
      dsimp only
      rw [upF_s, if_neg e.2]
      have := h3 e.2
      omega
theorem qrun_J (f : Int → Int) : ∀ (n : Nat) (i : Int) (s : QS), QSJ s → QSJ (qrun f n i s).2
  | 0, _, _, h => h
  | n + 1, i, s, h => by
    unfold qrun
    by_cases hq : qok (f i) s
    · rw [if_pos hq]; exact qrun_J f n (i + 1) _ (h.step hq)
    · rw [if_neg hq]; exact h
theorem QSJ_0 (a b : Int → Int) : QSJ (0, 0, -1, a, b) := ⟨fun j q0 q1 => by dsimp only at q1; omega, fun q => by dsimp only at q; omega, fun _ => by dsimp only; omega⟩
theorem QSI_0 (a b : Int → Int) : QSI 0 (0, 0, -1, a, b) := ⟨by dsimp only; omega, by dsimp only; omega, by dsimp only; omega, by dsimp only; omega, fun q => by dsimp only at q; omega⟩
theorem icS_bd {f : Int → Int} : ∀ (n : Nat) (i : Int), (∀ j, i ≤ j → j < i + n → 1 ≤ f j ∧ f j ≤ 144) → 0 ≤ icS f n i ∧ icS f n i ≤ 144 * n
  | 0, _, _ => by unfold icS itT; omega
  | n + 1, i, h => by
    have h1 := h i (Int.le_refl _) (by omega)
    have h2 := icS_bd n (i + 1) (fun j a b => h j (by omega) (by omega))
    rw [icS_s]
    omega
noncomputable def rdQ (M : Mem) : Int × QS := qrun (M 38) (M 27 14).toNat 0 (0, 0, -1, M 39, M 40)
def stR (M : Mem) (h : Int → Int) : Mem := fun k j => if k = 28 then h j else M k j
theorem segR_step (h : Int → Int) (a b v : Int) (M : Mem) (hab : a ≤ b) : upM (stR M (segF h a b v)) 28 b v = stR M (segF h a (b + 1) v) := by
  funext zk zj
  simp only [upM, stR, segF]
  grind
theorem segR_0 (h : Int → Int) (a v : Int) (M : Mem) : stR M h = stR M (segF h a a v) := by
  funext zk zj
  simp only [stR, segF]
  grind
theorem stR_0 (M : Mem) : M = stR M (M 28) := by
  funext zk zj
  simp only [stR]
  grind
