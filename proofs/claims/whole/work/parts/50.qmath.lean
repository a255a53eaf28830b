/-! the reference's reading of a text: items, whether a count, number, heights, counts -/
abbrev QS : Type := Int × Int × Int × (Int → Int) × (Int → Int)
def qsM (M : Mem) (s : QS) : Mem := fun k j => if k = 27 ∧ j = 16 then s.1 else if k = 27 ∧ j = 19 then s.2.1 else if k = 27 ∧ j = 20 then s.2.2.1 else if k = 39 then s.2.2.2.1 j else if k = 40 then s.2.2.2.2 j else M k j
def qnx (d : Int) (s : QS) : Int := if s.2.2.1 = -1 then d else 10 * s.2.2.1 + d
abbrev qokD (d : Int) (s : QS) : Prop := (s.2.1 = 1 ∧ 1 ≤ qnx d s ∧ qnx d s ≤ 144) ∨ (s.2.1 ≠ 1 ∧ s.2.2.1 ≠ 0 ∧ qnx d s ≤ 500)
def qput (s : QS) (x : Int) : QS := (s.1, s.2.1, x, s.2.2.2.1, s.2.2.2.2)
def qend (s : QS) : QS := (s.1, s.2.1, s.2.2.1, upF s.2.2.2.1 s.1 (if s.2.1 = 1 then s.2.2.2.1 s.1 else s.2.2.1), upF s.2.2.2.2 s.1 (if s.2.1 = 1 then s.2.2.1 else 1))
abbrev qokS (c : Int) (s : QS) : Prop := s.2.2.1 ≠ -1 ∧ (c = 44 ∨ (c = 42 ∧ s.2.1 ≠ 1))
def qsep (c : Int) (s : QS) : QS := (s.1 + (if c = 44 then 1 else 0), (if c = 42 then 1 else 0), -1, (qend s).2.2.2.1, (qend s).2.2.2.2)
abbrev qok (c : Int) (s : QS) : Prop := ((48 ≤ c ∧ c ≤ 57) ∧ qokD (c - 48) s) ∨ (¬ (48 ≤ c ∧ c ≤ 57) ∧ qokS c s)
def qst (c : Int) (s : QS) : QS := if 48 ≤ c ∧ c ≤ 57 then qput s (qnx (c - 48) s) else qsep c s
def qrun (f : Int → Int) : Nat → Int → QS → Int × QS
  | 0, i, s => (i, s)
  | n + 1, i, s => if qok (f i) s then qrun f n (i + 1) (qst (f i) s) else (i, s)
def QSI (k : Int) (s : QS) : Prop := 0 ≤ s.1 ∧ 2 * s.1 ≤ k ∧ (s.2.1 = 0 ∨ s.2.1 = 1) ∧ (-1 ≤ s.2.2.1 ∧ s.2.2.1 ≤ 500) ∧ ((s.2.1 = 1 ∨ s.2.2.1 ≠ -1) → 2 * s.1 + 1 ≤ k)
theorem QSI.step {k c : Int} {s : QS} (h : QSI k s) (hc : qok c s) : QSI (k + 1) (qst c s) := by
  obtain ⟨it, ic, nu, IH, IC⟩ := s
  obtain ⟨h1, h2, h3, h4, h5⟩ := h
  dsimp only at h1 h2 h3 h4 h5
  unfold qst
  rcases hc with ⟨c1, c2⟩ | ⟨c1, c2⟩
  · rw [if_pos c1]
    unfold qokD qnx at c2
    dsimp only at c2
    unfold QSI qput qnx
    dsimp only
    split at c2 <;> rename_i hn
    · rw [if_pos hn]; refine ⟨h1, by omega, h3, by omega, fun _ => by omega⟩
    · rw [if_neg hn]; refine ⟨h1, by omega, h3, by omega, fun _ => by omega⟩
  · rw [if_neg c1]
    unfold qokS at c2
    dsimp only at c2
    have := h5 (Or.inr c2.1)
    unfold QSI qsep
    dsimp only
    rcases c2.2 with e | e
    · rw [if_pos e, if_neg (by omega)]; exact ⟨by omega, by omega, by omega, by omega, fun q => by omega⟩
    · rw [if_neg (by omega), if_pos e.1]; exact ⟨by omega, by omega, by omega, by omega, fun q => by omega⟩
theorem qrun_I (f : Int → Int) : ∀ (n : Nat) (i : Int) (s : QS), QSI i s → 0 ≤ i → QSI ((qrun f n i s).1) (qrun f n i s).2 ∧ i ≤ (qrun f n i s).1 ∧ (qrun f n i s).1 ≤ i + n
  | 0, i, s, h, h0 => ⟨h, by unfold qrun; dsimp only; omega, by unfold qrun; dsimp only; omega⟩
  | n + 1, i, s, h, h0 => by
    unfold qrun
    by_cases hq : qok (f i) s
    · rw [if_pos hq]
      obtain ⟨a, b, c⟩ := qrun_I f n (i + 1) _ (h.step hq) (by omega)
      exact ⟨a, by omega, by omega⟩
    · rw [if_neg hq]
      exact ⟨h, by dsimp only; omega, by dsimp only; omega⟩
theorem qs_0 (M : Mem) : upM (upM (upM M 27 16 0) 27 19 0) 27 20 (-1) = qsM M (0, 0, -1, M 39, M 40) := by
  funext k j
  simp only [upM, qsM]
  grind
/-- how the two readings go together -/
def QR (p : PS) (q : QS) : Prop :=
  ((p.1 = 0 ∧ p.2.1 = q.1 ∧ q.2.1 = 0 ∧ q.2.2.1 = -1) ∨
   (p.1 = 1 ∧ p.2.1 = q.1 + 1 ∧ q.2.1 = 0 ∧ q.2.2.1 = p.2.2.1 q.1 ∧ 0 ≤ q.2.2.1 ∧ p.2.2.2 q.1 = 0) ∨
   (p.1 = 2 ∧ p.2.1 = q.1 + 1 ∧ q.2.1 = 1 ∧ q.2.2.1 = -1 ∧ q.2.2.2.1 q.1 = p.2.2.1 q.1 ∧ p.2.2.2 q.1 = 0) ∨
   (p.1 = 3 ∧ p.2.1 = q.1 + 1 ∧ q.2.1 = 1 ∧ q.2.2.1 = p.2.2.2 q.1 ∧ 1 ≤ q.2.2.1 ∧ q.2.2.2.1 q.1 = p.2.2.1 q.1)) ∧
  0 ≤ q.1 ∧ ∀ j, 0 ≤ j → j < q.1 → p.2.2.1 j = q.2.2.2.1 j ∧ imax 1 (p.2.2.2 j) = q.2.2.2.2 j
theorem QR.step {p : PS} {q : QS} (h : QR p q) {c : Int} (hc : 0 ≤ c) : ((pstep c p).1 = 4 ↔ ¬ qok c q) ∧ (qok c q → QR (pstep c p) (qst c q)) := by
  obtain ⟨st, it, H, R⟩ := p
  obtain ⟨k, ic, nu, IH, IC⟩ := q
  obtain ⟨h1, h2, h3⟩ := h
  dsimp only at h1 h2 h3
  unfold pstep qst
  dsimp only
  by_cases hd : 48 ≤ c ∧ c ≤ 57
  · rw [if_pos hd, if_pos hd]
    have hq : qok c (k, ic, nu, IH, IC) ↔ qokD (c - 48) (k, ic, nu, IH, IC) := by
      constructor
      · rintro (⟨-, q⟩ | ⟨q, -⟩)
        · exact q
        · exact absurd hd q
      · exact fun q => Or.inl ⟨hd, q⟩
    rw [hq]
    unfold qokD qput QR
    rcases h1 with ⟨rfl, e0, rfl, rfl⟩ | ⟨rfl, rfl, rfl, rfl, e2, e3⟩ | ⟨rfl, rfl, rfl, rfl, e1, e2⟩ | ⟨rfl, rfl, rfl, rfl, e2, e3⟩
    · subst it
      have a1 : pdig (c - 48) (0, k, H, R) = (1, k + 1, upF H k (c - 48), upF R k 0) := by unfold pdig; rw [if_pos rfl]
      have a2 : qnx (c - 48) (k, 0, -1, IH, IC) = c - 48 := by unfold qnx; rw [if_pos rfl]
      rw [a1, a2]
      dsimp only
      refine ⟨by omega, fun _ => ⟨Or.inr (Or.inl ⟨rfl, rfl, rfl, by rw [upF_s], by omega, by rw [upF_s]⟩), h2, fun j j0 j1 => ?_⟩⟩
      rw [upF_n H (by omega), upF_n R (by omega)]; exact h3 j j0 j1
    · have a2 : qnx (c - 48) (k, 0, H k, IH, IC) = 10 * H k + (c - 48) := by unfold qnx; rw [if_neg (by show H k ≠ -1; omega)]
      by_cases hw : H k = 0 ∨ 500 < 10 * H k + (c - 48)
      · have a1 : pdig (c - 48) (1, k + 1, H, R) = (4, k + 1, H, R) := by unfold pdig; dsimp only; rw [if_neg (by omega), if_pos rfl, show k + 1 - 1 = k from by omega, if_pos hw]
        rw [a1, a2]
        dsimp only
        refine ⟨by omega, fun q => absurd hw (by omega)⟩
      · have a1 : pdig (c - 48) (1, k + 1, H, R) = (1, k + 1, upF H k (10 * H k + (c - 48)), R) := by unfold pdig; dsimp only; rw [if_neg (by omega), if_pos rfl, show k + 1 - 1 = k from by omega, if_neg hw]
        rw [a1, a2]
        dsimp only
        refine ⟨by omega, fun _ => ⟨Or.inr (Or.inl ⟨rfl, rfl, rfl, by rw [upF_s], by omega, e3⟩), h2, fun j j0 j1 => ?_⟩⟩
        rw [upF_n H (by omega)]; exact h3 j j0 j1
    · have a2 : qnx (c - 48) (k, 1, -1, IH, IC) = c - 48 := by unfold qnx; rw [if_pos rfl]
      by_cases hw : 10 * R k + (c - 48) = 0 ∨ 144 < 10 * R k + (c - 48)
      · have a1 : pdig (c - 48) (2, k + 1, H, R) = (4, k + 1, H, R) := by unfold pdig; dsimp only; rw [if_neg (by omega), if_neg (by omega), show k + 1 - 1 = k from by omega, if_pos hw]
        rw [a1, a2]
        dsimp only
        refine ⟨by omega, fun q => absurd hw (by omega)⟩
      · have a1 : pdig (c - 48) (2, k + 1, H, R) = (3, k + 1, H, upF R k (10 * R k + (c - 48))) := by unfold pdig; dsimp only; rw [if_neg (by omega), if_neg (by omega), show k + 1 - 1 = k from by omega, if_neg hw]
        rw [a1, a2]
        dsimp only
        refine ⟨by omega, fun _ => ⟨Or.inr (Or.inr (Or.inr ⟨rfl, rfl, rfl, by rw [upF_s]; omega, by omega, e1⟩)), h2, fun j j0 j1 => ?_⟩⟩
        rw [upF_n R (by omega)]; exact h3 j j0 j1
    · have a2 : qnx (c - 48) (k, 1, R k, IH, IC) = 10 * R k + (c - 48) := by unfold qnx; rw [if_neg (by show R k ≠ -1; omega)]
      by_cases hw : 10 * R k + (c - 48) = 0 ∨ 144 < 10 * R k + (c - 48)
      · have a1 : pdig (c - 48) (3, k + 1, H, R) = (4, k + 1, H, R) := by unfold pdig; dsimp only; rw [if_neg (by omega), if_neg (by omega), show k + 1 - 1 = k from by omega, if_pos hw]
        rw [a1, a2]
        dsimp only
        refine ⟨by omega, fun q => absurd hw (by omega)⟩
      · have a1 : pdig (c - 48) (3, k + 1, H, R) = (3, k + 1, H, upF R k (10 * R k + (c - 48))) := by unfold pdig; dsimp only; rw [if_neg (by omega), if_neg (by omega), show k + 1 - 1 = k from by omega, if_neg hw]
        rw [a1, a2]
        dsimp only
        refine ⟨by omega, fun _ => ⟨Or.inr (Or.inr (Or.inr ⟨rfl, rfl, rfl, by rw [upF_s], by omega, e3⟩)), h2, fun j j0 j1 => ?_⟩⟩
        rw [upF_n R (by omega)]; exact h3 j j0 j1
  · rw [if_neg hd, if_neg hd]
    have hq : qok c (k, ic, nu, IH, IC) ↔ qokS c (k, ic, nu, IH, IC) := by
      constructor
      · rintro (⟨q, -⟩ | ⟨-, q⟩)
        · exact absurd q hd
        · exact q
      · exact fun q => Or.inr ⟨hd, q⟩
    rw [hq]
    unfold qokS
    dsimp only
    have he : ∀ (x : Int) (j : Int), 0 ≤ j → j < k → upF IH k x j = IH j := fun x j j0 j1 => upF_n IH (by omega)
    have he2 : ∀ (x : Int) (j : Int), 0 ≤ j → j < k → upF IC k x j = IC j := fun x j j0 j1 => upF_n IC (by omega)
    rcases h1 with ⟨rfl, e0, rfl, rfl⟩ | ⟨rfl, rfl, rfl, rfl, e2, e3⟩ | ⟨rfl, rfl, rfl, rfl, e1, e2⟩ | ⟨rfl, rfl, rfl, rfl, e2, e3⟩
    · subst it
      rw [if_neg (by omega), if_neg (by omega)]
      dsimp only
      exact ⟨by omega, fun q => absurd rfl q.1⟩
    · by_cases a : c = 42
      · rw [if_pos (by omega)]
        dsimp only
        refine ⟨by omega, fun _ => ?_⟩
        unfold qsep qend QR
        dsimp only
        rw [if_neg (by omega), if_pos a]
        refine ⟨Or.inr (Or.inr (Or.inl ⟨rfl, by omega, rfl, rfl, ?_, ?_⟩)), by omega, fun j j0 j1 => ?_⟩
        · rw [Int.add_zero, upF_s, if_neg (by omega)]
        · rw [Int.add_zero]; exact e3
        · rw [he _ j j0 (by omega), he2 _ j j0 (by omega)]; exact h3 j j0 (by omega)
      · rw [if_neg (by omega)]
        by_cases b : c = 44
        · rw [if_pos (by omega)]
          dsimp only
          refine ⟨by omega, fun _ => ?_⟩
          unfold qsep qend QR
          dsimp only
          rw [if_pos b, if_neg a]
          refine ⟨Or.inl ⟨rfl, rfl, rfl, rfl⟩, by omega, fun j j0 j1 => ?_⟩
          by_cases hj : j = k
          · subst hj; rw [upF_s, upF_s, if_neg (by omega), if_neg (by omega), e3]; exact ⟨rfl, rfl⟩
          · rw [he _ j j0 (by omega), he2 _ j j0 (by omega)]; exact h3 j j0 (by omega)
        · rw [if_neg (by omega)]
          dsimp only
          exact ⟨by omega, fun q => by omega⟩
    · rw [if_neg (by omega), if_neg (by omega)]
      dsimp only
      exact ⟨by omega, fun q => absurd rfl q.1⟩
    · rw [if_neg (by omega)]
      by_cases b : c = 44
      · rw [if_pos (by omega)]
        dsimp only
        refine ⟨by omega, fun _ => ?_⟩
        unfold qsep qend QR
        dsimp only
        rw [if_pos b, if_neg (by omega)]
        refine ⟨Or.inl ⟨rfl, rfl, rfl, rfl⟩, by omega, fun j j0 j1 => ?_⟩
        by_cases hj : j = k
        · subst hj; rw [upF_s, upF_s, if_pos rfl, if_pos rfl, e3]
          refine ⟨rfl, ?_⟩
          unfold imax; rw [if_pos e2]
        · rw [he _ j j0 (by omega), he2 _ j j0 (by omega)]; exact h3 j j0 (by omega)
      · rw [if_neg (by omega)]
        dsimp only
        exact ⟨by omega, fun q => by omega⟩
theorem QR.run (f : Int → Int) : ∀ (n : Nat) (i : Int) (p : PS) (q : QS), QR p q → (∀ j, i ≤ j → j < i + n → 0 ≤ f j) → (prun f n i p).1 = (qrun f n i q).1 ∧ (((prun f n i p).2.1 = 4 ∧ (qrun f n i q).1 < i + n) ∨ (QR (prun f n i p).2 (qrun f n i q).2 ∧ (qrun f n i q).1 = i + n))
  | 0, i, p, q, h, _ => ⟨rfl, Or.inr ⟨h, by unfold qrun; dsimp only; omega⟩⟩
  | n + 1, i, p, q, h, hf => by
    obtain ⟨h1, h2⟩ := h.step (hf i (Int.le_refl _) (by omega))
    unfold prun qrun
    by_cases hq : qok (f i) q
    · rw [if_neg (fun e => h1.mp e hq), if_pos hq]
      have h3 := QR.run f n (i + 1) _ _ (h2 hq) (fun j a b => hf j (by omega) (by omega))
      rw [show i + ((n + 1 : Nat) : Int) = i + 1 + (n : Int) from by omega]
      exact h3
    · rw [if_pos (h1.mpr hq), if_neg hq]
      exact ⟨rfl, Or.inl ⟨h1.mpr hq, by dsimp only; omega⟩⟩
/-- what the counts of k items come to, and the heights that they give -/
def icS (f : Int → Int) (n : Nat) (i : Int) : Int := itT (fun j s => s + f j) n i 0
def segT (H C : Int → Int) : Nat → Int → Int → (Int → Int) → (Int → Int)
  | 0, _, _, h => h
  | n + 1, i, c, h => segT H C n (i + 1) (c + C i) (segF h c (c + C i) (H i))
theorem itT_addc (f : Int → Int) : ∀ (n : Nat) (i s d : Int), itT (fun j s => s + f j) n i (s + d) = itT (fun j s => s + f j) n i s + d
  | 0, _, _, _ => rfl
  | n + 1, i, s, d => by
    rw [itT_s, itT_s, show s + d + f i = s + f i + d from by omega]
    exact itT_addc f n (i + 1) _ d
theorem icS_s (f : Int → Int) (n : Nat) (i : Int) : icS f (n + 1) i = f i + icS f n (i + 1) := by
  unfold icS
  rw [itT_s, show (0 : Int) + f i = 0 + f i from rfl, itT_addc]; omega
theorem ic_cl {R C : Int → Int} : ∀ (n : Nat) (i : Int), (∀ j, i ≤ j → j < i + n → imax 1 (R j) = C j) → icS C n i = clS R n i
  | 0, _, _ => rfl
  | n + 1, i, h => by
    rw [icS_s]
    unfold clS
    rw [h i (Int.le_refl _) (by omega), ic_cl n (i + 1) (fun j a b => h j (by omega) (by omega))]
theorem seg_cp {H R I C : Int → Int} : ∀ (n : Nat) (i c : Int) (h : Int → Int), (∀ j, i ≤ j → j < i + n → H j = I j ∧ imax 1 (R j) = C j) → segT I C n i c h = cpT H R n i c h
  | 0, _, _, _, _ => rfl
  | n + 1, i, c, h, hh => by
    unfold segT cpT
    obtain ⟨h1, h2⟩ := hh i (Int.le_refl _) (by omega)
    rw [h1, h2]
    exact seg_cp n (i + 1) _ _ (fun j a b => hh j (by omega) (by omega))
theorem QR.fin {p : PS} {q : QS} (h : QR p q) : ((p.1 = 1 ∨ p.1 = 3) ↔ q.2.2.1 ≠ -1) ∧ (q.2.2.1 ≠ -1 → p.2.1 = q.1 + 1 ∧ ∀ j, 0 ≤ j → j < q.1 + 1 → p.2.2.1 j = (qend q).2.2.2.1 j ∧ imax 1 (p.2.2.2 j) = (qend q).2.2.2.2 j) := by
  obtain ⟨st, it, H, R⟩ := p
  obtain ⟨k, ic, nu, IH, IC⟩ := q
  obtain ⟨h1, h2, h3⟩ := h
  dsimp only at h1 h2 h3 ⊢
  refine ⟨by omega, fun hn => ⟨by omega, fun j j0 j1 => ?_⟩⟩
  unfold qend
  dsimp only
  by_cases hj : j = k
  · subst hj
    rw [upF_s, upF_s]
    rcases h1 with ⟨e0, e1, e2, e3⟩ | ⟨e0, e1, e2, e3, e4, e5⟩ | ⟨e0, e1, e2, e3, e4, e5⟩ | ⟨e0, e1, e2, e3, e4, e5⟩
    · omega
    · rw [if_neg (by omega), if_neg (by omega), e5]; exact ⟨e3.symm, rfl⟩
    · omega
    · rw [if_pos e2, if_pos e2]; refine ⟨e5.symm, ?_⟩
      rw [← e3]; unfold imax; rw [if_pos e4]
  · rw [upF_n IH hj, upF_n IC hj]
    exact h3 j j0 (by omega)
