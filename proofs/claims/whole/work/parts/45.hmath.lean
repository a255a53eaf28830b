/-! counting and hashing over ranges -/
def itT {α : Type} (F : Int → α → α) : Nat → Int → α → α
  | 0, _, s => s
  | n + 1, i, s => itT F n (i + 1) (F i s)
theorem itT_s {α : Type} (F : Int → α → α) (n : Nat) (i : Int) (s : α) : itT F (n + 1) i s = itT F n (i + 1) (F i s) := rfl
theorem itT_step {α : Type} {F : Int → α → α} {n : Nat} {i : Int} {s s' r : α} (h : F i s = s') (hr : r = itT F n (i + 1) s') : r = itT F (n + 1) i s := by rw [hr, itT_s, h]
theorem itT_congr {α : Type} {F G : Int → α → α} : ∀ (n : Nat) (i : Int) (s : α), (∀ j, i ≤ j → j < i + n → ∀ s, F j s = G j s) → itT F n i s = itT G n i s
  | 0, _, _, _ => rfl
  | n + 1, i, s, h => by
    rw [itT_s, itT_s, h i (Int.le_refl _) (by omega)]
    exact itT_congr n (i + 1) _ (fun j h1 h2 => h j (by omega) (by omega))
theorem itT_app {α : Type} (F : Int → α → α) (k : Nat) : ∀ (n : Nat) (i : Int) (s : α), itT F (n + k) i s = itT F k (i + n) (itT F n i s)
  | 0, i, s => by rw [show 0 + k = k from by omega, show i + ((0 : Nat) : Int) = i from by omega]; rfl
  | n + 1, i, s => by
    rw [show n + 1 + k = (n + k) + 1 from by omega, itT_s, itT_app F k n (i + 1), itT_s, show i + ((n + 1 : Nat) : Int) = i + 1 + (n : Int) from by omega]
theorem itT_shift {α : Type} {F G : Int → α → α} (d : Int) : ∀ (n : Nat) (i : Int) (s : α), (∀ j, i ≤ j → j < i + n → ∀ s, F (j + d) s = G j s) → itT F n (i + d) s = itT G n i s
  | 0, _, _, _ => rfl
  | n + 1, i, s, h => by
    rw [itT_s, itT_s, h i (Int.le_refl _) (by omega), show i + d + 1 = i + 1 + d from by omega]
    exact itT_shift d n (i + 1) _ (fun j h1 h2 => h j (by omega) (by omega))
/-- a range of w * n numbers, cut into n rows of w -/
theorem itT_rows {α : Type} (P : Int → Int → α → α) (w : Nat) (hw : 0 < w) : ∀ (n : Nat) (a : Int) (s : α), itT (fun k s => P (k / w) (k % w) s) (w * n) (w * a) s = itT (fun a s => itT (P a) w 0 s) n a s
  | 0, _, _ => rfl
  | n + 1, a, s => by
    have e : w * (n + 1) = w + w * n := by rw [Nat.mul_succ]; omega
    rw [e, itT_app, itT_s]
    have h1 : itT (fun k s => P (k / w) (k % w) s) w (w * a) s = itT (P a) w 0 s := by
      have h2 := itT_shift (F := fun k s => P (k / w) (k % w) s) (G := P a) ((w : Int) * a) w 0 s (fun j j0 j1 s => by
        have hd : (j + (w : Int) * a) / w = a := by
          rw [Int.add_mul_ediv_left _ _ (by omega), Int.ediv_eq_zero_of_lt j0 (by omega)]; omega
        have hm : (j + (w : Int) * a) % w = j := by
          rw [Int.add_mul_emod_self_left, Int.emod_eq_of_lt j0 (by omega)]
        show P ((j + (w : Int) * a) / w) ((j + (w : Int) * a) % w) s = P a j s
        rw [hd, hm])
      rw [show (0 : Int) + (w : Int) * a = (w : Int) * a from by omega] at h2
      exact h2
    rw [h1, show (w : Int) * a + ((w : Nat) : Int) = (w : Int) * (a + 1) from by rw [Int.mul_add]; omega]
    exact itT_rows P w hw n (a + 1) _
theorem grT_bd {h : Int → Int} : ∀ (n : Nat) (i s : Int), (∀ j, i ≤ j → j < i + n → 0 ≤ h j ∧ h j ≤ 500) → 0 ≤ s ∧ s ≤ 500 → 0 ≤ grT h n i s ∧ grT h n i s ≤ 500
  | 0, _, _, _, hs => hs
  | n + 1, i, s, hh, hs => by
    have := hh i (Int.le_refl _) (by omega)
    exact grT_bd n (i + 1) _ (fun j h1 h2 => hh j (by omega) (by omega)) (by split <;> omega)
theorem smT_bd {h : Int → Int} : ∀ (n : Nat) (i s : Int), (∀ j, i ≤ j → j < i + n → 0 ≤ h j ∧ h j ≤ 500) → s ≤ smT h n i s ∧ smT h n i s ≤ s + 500 * n
  | 0, _, s, _ => by unfold smT; omega
  | n + 1, i, s, hh => by
    have h1 := hh i (Int.le_refl _) (by omega)
    have h2 := smT_bd n (i + 1) (s + h i) (fun j h1 h2 => hh j (by omega) (by omega))
    unfold smT
    omega
theorem c2T_bd (f : Int → Int) : ∀ (n : Nat) (i s : Int), s ≤ c2T f n i s ∧ c2T f n i s ≤ s + n
  | 0, _, s => by unfold c2T; omega
  | n + 1, i, s => by
    have h := c2T_bd f n (i + 1) (if f i = 2 then s + 1 else s)
    unfold c2T
    split at h <;> rename_i hb
    · rw [if_pos hb]; omega
    · rw [if_neg hb]; omega
theorem siA_bd (f : Int → Int → Int) {k : Nat} (hk : k ≤ 8) : ∀ (n : Nat) (a s : Int), s ≤ siA f k n a s ∧ siA f k n a s ≤ s + 8 * n
  | 0, _, s => by unfold siA; omega
  | n + 1, a, s => by
    have h1 := siT_bd f a k 0 s
    have h2 := siA_bd f hk n (a + 1) (siT f a k 0 s)
    unfold siA
    omega
theorem bzT_bd (f : Int → Int) : ∀ (n : Nat) (i s : Int), s ≤ bzT f n i s ∧ bzT f n i s ≤ s + n
  | 0, _, s => by unfold bzT; omega
  | n + 1, i, s => by
    have h := bzT_bd f n (i + 1) (if f i = -1 then s else s + 1)
    unfold bzT
    split at h <;> rename_i hb
    · rw [if_pos hb]; omega
    · rw [if_neg hb]; omega
theorem bzA_bd (f : Int → Int) : ∀ (n : Nat) (i s : Int), s ≤ bzA f n i s ∧ bzA f n i s ≤ s + 72 * n
  | 0, _, s => by unfold bzA; omega
  | n + 1, i, s => by
    have h1 := bzT_bd (fun t => f (72 * i + t)) 72 0 0
    have h := bzA_bd f n (i + 1) (s + bzT (fun t => f (72 * i + t)) 72 0 0)
    unfold bzA
    omega
theorem laT_bd {f : Int → Int} : ∀ (n : Nat) (i s : Int), (∀ j, i ≤ j → j < i + n → -1 ≤ f j ∧ f j ≤ 72) → -1 ≤ s ∧ s ≤ 72 → -1 ≤ laT f n i s ∧ laT f n i s ≤ 72
  | 0, _, _, _, hs => hs
  | n + 1, i, s, hh, hs => by
    have := hh i (Int.le_refl _) (by omega)
    exact laT_bd n (i + 1) _ (fun j h1 h2 => hh j (by omega) (by omega)) (by split <;> omega)
def nmF (ns nc nm : Int) (h mi : Int → Int) (si : Int → Int → Int) (B : Int → Int) (ar : Int → Int) (w : Int) : Int :=
  if w = 0 then ns else if w = 1 then nc else if w = 2 then nm else if w = 3 then grT h 144 0 0 else if w = 4 then smT h 144 0 0 else if w = 5 then c2T mi ns.toNat 0 0 else if w = 6 then siA si ns.toNat ns.toNat 0 0 else if w = 7 then bzA B 8 0 0 else laT ar nm.toNat 0 (-1)
noncomputable def nmC (M : Mem) (w : Int) : Int := nmF (M 7 3) (M 11 6) (M 19 2) (M 2) (M 10) (betF (M 2) (M 8) (M 9)) (M 21) (fun m => M 20 (27 * m + 4)) w
noncomputable def sunT (h ce ma : Int → Int) (cv : Int → Int → Prop) (s : Int) : Int := shT (fun hr => snF h (ce s) (eyeF h ce ma s) hr (cv (ce s) hr) = 0) 12 6 0
noncomputable def spF (h ce ma mi : Int → Int) (cv : Int → Int → Prop) (B : Int → Int) (s w : Int) : Int :=
  if w = 0 then ce s else if w = 1 then ma s else if w = 2 then mi s else if w = 3 then eyeF h ce ma s else if w = 4 then sunT h ce ma cv s else bzT (fun t => B (72 * s + t)) 72 0 0
noncomputable def spC (M : Mem) (s w : Int) : Int := spF (M 2) (M 8) (M 9) (M 10) (cvC M) (M 21) s w
noncomputable def hrC (M : Mem) (a b : Int) : Int := if betF (M 2) (M 8) (M 9) a b ≠ -1 then 0 else shT (fun hr => bitP (sunT (M 2) (M 8) (M 9) (cvC M) a) hr ∧ thrP (M 2) (M 8) (M 9) (M 10) a b hr) 12 6 0
abbrev hsh (h v : Int) : Int := 31 * h + v
noncomputable def prS (bet hrs : Int → Int → Int) (a b h : Int) : Int := if b = a then h else hsh (hsh h (bet a b)) (hrs a b)
noncomputable def dgC (M : Mem) : Int :=
  itT (fun i h => hsh h (M 4 i)) (M 3 3).toNat 0 (hsh
  (itT (fun m h => itT (fun j h => itT (fun w h => hsh h (M 20 (27 * m + 6 + 3 * j + w))) 3 0 h) (M 20 (27 * m + 5)).toNat 0 (itT (fun w h => hsh h (M 20 (27 * m + w))) 6 0 h)) (M 19 2).toNat 0
  (itT (fun a h => itT (fun b h => prS (betF (M 2) (M 8) (M 9)) (fun a b => bcI (hrC M a b)) a b h) (M 7 3).toNat 0 h) (M 7 3).toNat 0
  (itT (fun s h => itT (fun w h => hsh h (spC M s w)) 6 0 h) (M 7 3).toNat 0
  (itT (fun c h => hsh h (M 2 c)) 144 0 (itT (fun w h => hsh h (nmC M w)) 9 0 1951))))) (M 3 3))
def HInv (M : Mem) : Prop := ∀ m k, 0 ≤ m → m < M 19 2 → 0 ≤ k → k < M 20 (27 * m + 5) → (0 ≤ M 20 (27 * m + 6 + 3 * k) ∧ M 20 (27 * m + 6 + 3 * k) < 8) ∧ (0 ≤ M 20 (27 * m + 6 + 3 * k + 1) ∧ M 20 (27 * m + 6 + 3 * k + 1) < 8) ∧ (0 ≤ M 20 (27 * m + 6 + 3 * k + 2) ∧ M 20 (27 * m + 6 + 3 * k + 2) + M 20 (27 * m + 2) ≤ 72)
theorem nmC_bd {M : Mem} (hT : TInv M) (hS : SInv M) (hK : KInv M) (hG : GInv M) (w : Int) : -2147483648 ≤ nmC M w ∧ nmC M w < 2147483648 := by
  have hs := hS.1
  have hk := hK.1
  have hg := hG.1
  have g1 := grT_bd (h := M 2) 144 0 0 (fun j a b => hT j a (by omega)) (by omega)
  have g2 := smT_bd (h := M 2) 144 0 0 (fun j a b => hT j a (by omega))
  have g3 := c2T_bd (M 10) (M 7 3).toNat 0 0
  have g4 := siA_bd (betF (M 2) (M 8) (M 9)) (k := (M 7 3).toNat) (by omega) (M 7 3).toNat 0 0
  have g5 := bzA_bd (M 21) 8 0 0
  have g6 := laT_bd (f := fun m => M 20 (27 * m + 4)) (M 19 2).toNat 0 (-1) (fun j a b => by have := (hG.2.1 j a (by omega)).2.2.2.2.1; constructor <;> omega) (by omega)
  unfold nmC nmF
  repeat' split
  all_goals omega
theorem spC_bd {M : Mem} (hT : TInv M) (hS : SInv M) {s : Int} (h : 0 ≤ s ∧ s < M 7 3) (w : Int) : -2147483648 ≤ spC M s w ∧ spC M s w < 2147483648 := by
  have h1 := hS.2.1 s h.1 h.2
  have h2 := hT (M 8 s) h1.1.1 h1.1.2
  have h3 := bzT_bd (fun t => M 21 (72 * s + t)) 72 0 0
  have h4 : Inr (sunT (M 2) (M 8) (M 9) (cvC M) s) := shT_inr _ _ _ _ ⟨by omega, by omega⟩
  have h5 := h4.1
  have h6 := h4.2
  unfold spC spF eyeF
  repeat' split
  all_goals omega
theorem bcI_bd (x : Int) : -2147483648 ≤ bcI x ∧ bcI x < 2147483648 := tI_inr _
/-- nobody signals to himself -/
theorem lk_dg {M : Mem} {ns l u s : Int} (hn : ns ≤ 8) (hl : 1 ≤ l) (h0 : 0 ≤ u) (h1 : u < ns) (hs : 0 ≤ s) (hs2 : s ≤ 72) (B : Int → Int) : EE (lkM M (hpC M) ns ns 0 23) B l u u s = -1 := by
  have e : lkM M (hpC M) ns ns 0 23 (8 * u + u) = 0 := by
    unfold lkM
    rw [if_pos (by omega), show (8 * u + u) / 8 = u from by omega, show (8 * u + u) % 8 = u from by omega]
    unfold hpC
    rw [if_pos rfl]
  refine ee_none _ hl _ _ _ (fun t t0 t1 q => ?_)
  have q1 := q.1
  rw [e] at q1
  exact bit_0 (by omega) (by omega) q1
noncomputable abbrev lkA (M : Mem) : Mem := lkM M (hpC M) (M 7 3) (M 7 3) 0
noncomputable abbrev againM (M : Mem) : Mem := fillM (upM (rqM M (M 19 2) 0) 19 2 0) 21 576 (-1)
theorem again_b (M : Mem) (m : Int) : BKI (fillM (upM (rqM M m 0) 19 2 0) 21 576 (-1)) := by
  intro i i0 i1
  simp only [fillM]
  rw [if_pos ⟨trivial, i0, i1⟩]
  omega
/-! the load of the day -/
def wlD (b n : Int) : UInt64 := FP.ddiv (FP.i2d (Int32.ofInt b)) (FP.i2d (Int32.ofInt (72 * n)))
def wlOk (b n : Int) : Bool := decide (wlD b n &&& 0x7fffffffffffffff ≤ 0x7ff0000000000000) && decide (FP.dmul FP.dconst1 (FP.i2d (Int32.ofInt b)) = FP.i2d (Int32.ofInt b)) && decide (FP.dmul FP.dconst1 (FP.i2d (Int32.ofInt b)) &&& 0x7fffffffffffffff ≤ 0x7ff0000000000000) && decide (Op.cmpValue (FP.dcmp (wlD b n) (wlD b n)) CmpOp.l = 0)
theorem wl_all : ((List.range 8).all fun n => (List.range 577).all fun b => wlOk (b : Int) ((n : Int) + 1)) = true := by decide +kernel
theorem wl_at {b n : Int} (b0 : 0 ≤ b) (b1 : b ≤ 576) (n0 : 1 ≤ n) (n1 : n ≤ 8) : vf_n64 (wlD b n) ∧ FP.dmul FP.dconst1 (FP.i2d (Int32.ofInt b)) = FP.i2d (Int32.ofInt b) ∧ vf_n64 (FP.dmul FP.dconst1 (FP.i2d (Int32.ofInt b))) ∧ Op.cmpValue (FP.dcmp (wlD b n) (wlD b n)) CmpOp.l = 0 := by
  have h := List.all_eq_true.mp (List.all_eq_true.mp wl_all (n - 1).toNat (List.mem_range.mpr (by omega))) b.toNat (List.mem_range.mpr (by omega))
  rw [show ((b.toNat : Nat) : Int) = b from by omega, show (((n - 1).toNat : Nat) : Int) + 1 = n from by omega] at h
  unfold wlOk at h
  rw [Bool.and_eq_true, Bool.and_eq_true, Bool.and_eq_true, decide_eq_true_eq, decide_eq_true_eq, decide_eq_true_eq, decide_eq_true_eq] at h
  exact ⟨h.1.1.1, h.1.1.2, h.1.2, h.2⟩
theorem msg_bd {M : Mem} {m w r : Int} (hG : GInv M) (hm : 0 ≤ m ∧ m < M 19 2) (hw : 0 ≤ w ∧ w < 6) (hr : r = M 20 (27 * m + w)) : -2147483648 ≤ r ∧ r < 2147483648 := by
  have h := hG.2.1 m hm.1 hm.2
  have hc : w = 0 ∨ w = 1 ∨ w = 2 ∨ w = 3 ∨ w = 4 ∨ w = 5 := by omega
  rcases hc with rfl | rfl | rfl | rfl | rfl | rfl
  · rw [Int.add_zero] at hr; omega
  all_goals omega
theorem hop_bd {M : Mem} {m j w r : Int} (hG : GInv M) (hH : HInv M) (hm : 0 ≤ m ∧ m < M 19 2) (hj : 0 ≤ j ∧ j < M 20 (27 * m + 5)) (hw : 0 ≤ w ∧ w < 3) (hr : r = M 20 (27 * m + 6 + 3 * j + w)) : -2147483648 ≤ r ∧ r < 2147483648 := by
  have h := hH m j hm.1 hm.2 hj.1 hj.2
  have h2 := hG.2.1 m hm.1 hm.2
  have hc : w = 0 ∨ w = 1 ∨ w = 2 := by omega
  rcases hc with rfl | rfl | rfl
  · rw [Int.add_zero] at hr; omega
  all_goals omega
