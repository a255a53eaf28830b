/-! turns, numbers, hashes of the reference -/
theorem lt_base {b b' S H : Int → Int} {i : Int} (h : b i = b' i) : ∀ n : Nat, ltF b S H n i = ltF b' S H n i
  | 0 => h
  | n + 1 => by unfold ltF; rw [lt_base h n]
noncomputable def lt0 (M : Mem) : Int → Int := ltF (fun _ => -1) (M 36) (M 37) (M 27 11).toNat
theorem ltA_0 {M : Mem} {i : Int} (h0 : 0 ≤ i) (h1 : i < 576) : ltA M i = lt0 M i := by
  unfold ltA lt0
  exact lt_base (by unfold ltB; rw [if_pos ⟨h0, h1⟩]) _
theorem bzT_congr {f g : Int → Int} : ∀ (n : Nat) (i s : Int), (∀ j, i ≤ j → j < i + n → f j = g j) → bzT f n i s = bzT g n i s
  | 0, _, _, _ => rfl
  | n + 1, i, s, h => by
    unfold bzT
    rw [h i (Int.le_refl _) (by omega)]
    exact bzT_congr n (i + 1) _ (fun j a b => h j (by omega) (by omega))
theorem bzA_congr {f g : Int → Int} : ∀ (n : Nat) (i s : Int), 0 ≤ i → (∀ j, 72 * i ≤ j → j < 72 * (i + n) → f j = g j) → bzA f n i s = bzA g n i s
  | 0, _, _, _, _ => rfl
  | n + 1, i, s, h0, h => by
    unfold bzA
    rw [bzT_congr 72 0 0 (fun j a b => h (72 * i + j) (by omega) (by omega))]
    exact bzA_congr n (i + 1) _ (by omega) (fun j a b => h j (by omega) (by omega))
noncomputable def nmR (M : Mem) (w : Int) : Int :=
  if w = 0 then M 27 2 else if w = 1 then M 27 6 else if w = 2 then M 27 11 else if w = 3 then grT (M 28) 144 0 0 else if w = 4 then smT (M 28) 144 0 0 else if w = 5 then c2T (M 31) (M 27 2).toNat 0 0 else if w = 6 then siA (betF (M 28) (M 29) (M 30)) (M 27 2).toNat (M 27 2).toNat 0 0 else if w = 7 then bzA (lt0 M) (M 27 2).toNat 0 0 else laT (fun m => M 36 (6 * m + 4)) (M 27 11).toNat 0 (-1)
theorem nmR_bd {M : Mem} (hT : TJ M) (hS : SJ M) (hK : KJ M) (hG : GJ M) (w : Int) : -2147483648 ≤ nmR M w ∧ nmR M w < 2147483648 := by
  have hs := hS.1
  have hk := hK.1
  have hg := hG.1
  have g1 := grT_bd (h := M 28) 144 0 0 (fun j a b => hT j a (by omega)) (by omega)
  have g2 := smT_bd (h := M 28) 144 0 0 (fun j a b => hT j a (by omega))
  have g3 := c2T_bd (M 31) (M 27 2).toNat 0 0
  have g4 := siA_bd (betF (M 28) (M 29) (M 30)) (k := (M 27 2).toNat) (by omega) (M 27 2).toNat 0 0
  have g5 := bzA_bd (lt0 M) (M 27 2).toNat 0 0
  have g6 := laT_bd (f := fun m => M 36 (6 * m + 4)) (M 27 11).toNat 0 (-1) (fun j a b => by have := (hG.2.1 j a (by omega)).2.2.2.2.1; constructor <;> omega) (by omega)
  unfold nmR
  repeat' split
  all_goals omega
noncomputable def spR (M : Mem) (s w : Int) : Int := spF (M 28) (M 29) (M 30) (M 31) (cvR M) (lt0 M) s w
theorem spR_bd {M : Mem} (hT : TJ M) (hS : SJ M) {s : Int} (h : 0 ≤ s ∧ s < M 27 2) (w : Int) : -2147483648 ≤ spR M s w ∧ spR M s w < 2147483648 := by
  have h1 := hS.2.1 s h.1 h.2
  have h2 := hT (M 29 s) h1.1.1 h1.1.2
  have h3 := bzT_bd (fun t => lt0 M (72 * s + t)) 72 0 0
  have h4 : Inr (sunT (M 28) (M 29) (M 30) (cvR M) s) := shT_inr _ _ _ _ ⟨by omega, by omega⟩
  have h5 := h4.1
  have h6 := h4.2
  unfold spR spF eyeF
  repeat' split
  all_goals omega
noncomputable def hrR (M : Mem) (a b : Int) : Int := itT (fun hr s => if lnkF (M 28) (M 29) (M 30) (M 31) (cvR M) a b hr = 0 then s + 1 else s) 12 6 (0 : Int)
theorem cnt_bd (P : Int → Prop) [d : ∀ i, Decidable (P i)] : ∀ (n : Nat) (i s : Int), s ≤ itT (fun j s => if P j then s + 1 else s) n i s ∧ itT (fun j s => if P j then s + 1 else s) n i s ≤ s + n
  | 0, _, s => by unfold itT; omega
  | n + 1, i, s => by
    have h := cnt_bd P n (i + 1) (if P i then s + 1 else s)
    rw [itT_s]
    split at h <;> rename_i hb
    · rw [if_pos hb]; omega
    · rw [if_neg hb]; omega
theorem hrR_bd (M : Mem) (a b : Int) : 0 ≤ hrR M a b ∧ hrR M a b ≤ 12 := by
  have := cnt_bd (fun hr => lnkF (M 28) (M 29) (M 30) (M 31) (cvR M) a b hr = 0) 12 6 0
  unfold hrR
  omega
noncomputable def prR (M : Mem) (k h : Int) : Int := prS (betF (M 28) (M 29) (M 30)) (hrR M) (k / M 27 2) (k % M 27 2) h
noncomputable def dgR (M : Mem) : Int :=
  itT (fun i h => hsh h (M 38 i)) (M 27 14).toNat 0 (hsh
  (itT (fun m h => itT (fun j h => hsh h (M 37 (21 * m + j))) (3 * M 36 (6 * m + 5)).toNat 0 (itT (fun w h => hsh h (M 36 (6 * m + w))) 6 0 h)) (M 27 11).toNat 0
  (itT (prR M) (M 27 2 * M 27 2).toNat 0
  (itT (fun k h => hsh h (spR M (k / 6) (k % 6))) (6 * M 27 2).toNat 0
  (itT (fun c h => hsh h (M 28 c)) 144 0 (itT (fun w h => hsh h (nmR M w)) 9 0 1951))))) (M 27 14))
theorem dg_tk (M : Mem) (x y : Int → Int) (h : Int) : tkM (upM (tkM M x) 27 26 h) y = upM (tkM M y) 27 26 h := by
  funext zk zj; simp only [tkM, upM]; grind
theorem msg8_bd {M : Mem} {m w r : Int} (hG : GJ M) (hm : 0 ≤ m ∧ m < M 27 11) (hw : 0 ≤ w ∧ w < 6) (hr : r = M 36 (6 * m + w)) : -2147483648 ≤ r ∧ r < 2147483648 := by
  have h := hG.2.1 m hm.1 hm.2
  have hc : w = 0 ∨ w = 1 ∨ w = 2 ∨ w = 3 ∨ w = 4 ∨ w = 5 := by omega
  rcases hc with rfl | rfl | rfl | rfl | rfl | rfl
  · rw [Int.add_zero] at hr; omega
  all_goals omega
theorem hop8_bd {M : Mem} {m j r : Int} (hG : GJ M) (hm : 0 ≤ m ∧ m < M 27 11) (hj : 0 ≤ j ∧ j < 3 * M 36 (6 * m + 5)) (hr : r = M 37 (21 * m + j)) : -2147483648 ≤ r ∧ r < 2147483648 := by
  have h := hG.2.2 m (j / 3) hm.1 hm.2 (by omega) (by omega)
  have h2 := hG.2.1 m hm.1 hm.2
  have hc : j = 3 * (j / 3) ∨ j = 3 * (j / 3) + 1 ∨ j = 3 * (j / 3) + 2 := by omega
  generalize j / 3 = q at h hc
  rcases hc with hc | hc | hc
  · rw [hc] at hr; omega
  · rw [hc, show 21 * m + (3 * q + 1) = 21 * m + 3 * q + 1 from by omega] at hr; omega
  · rw [hc, show 21 * m + (3 * q + 2) = 21 * m + 3 * q + 2 from by omega] at hr; omega
