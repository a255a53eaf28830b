/-! a message of the reference -/
def wyM (M : Mem) (g : Int → Int) : Mem := fun k j => if k = 44 then g j else M k j
theorem wy_put (M : Mem) (g : Int → Int) (i v : Int) : upM (wyM M g) 44 i v = wyM M (upF g i v) := by
  funext zk zj; simp only [upM, wyM, upF]; grind
theorem wy_0 (M : Mem) (b : Int) : upM M 44 0 b = wyM M (upF (M 44) 0 b) := by
  funext zk zj; simp only [upM, wyM, upF]; grind
def RW (ns a b : Int) (E : Int → Int → Int → Int) (f g : Int → Int) (p : Int) : Prop := (0 ≤ p ∧ p ≤ 7) ∧ g 0 = b ∧ g p = a ∧ ∀ j, 0 ≤ j → j < p → ((0 ≤ g j ∧ g j < ns) ∧ g j ≠ a ∧ f (g j) ≠ -1) ∧ LB ns (SBP E f (g j)) (g (j + 1))
theorem ga_8 {E : Int → Int → Int → Int} {f : Int → Int} {ns a t v : Int} (hE : EOK E ns) (hn : ns ≤ 8) (ha : 0 ≤ a ∧ a < ns) (ht : 0 ≤ t) (hA : ArrOK E ns a t f) (hv : (0 ≤ v ∧ v < ns) ∧ f v ≠ -1) (hc : cnt8 (erl ns f v) ≤ 0) : v = a := by
  apply Classical.byContradiction
  intro zq
  obtain ⟨u, q0, q1, q2, q3⟩ := hA.2.2.2 v hv.1.1 hv.1.2 zq hv.2
  have z1 := hA.2.1 u q0 q1
  have z2 := (hE u v (f u) q0 q1 hv.1.1 hv.1.2 (by omega) (by omega)).1
  have z4 := hA.1
  have z5 := cnt8_pos (p := erl ns f v) (x := a) ha.1 (by omega) ⟨ha.2, by omega, by omega⟩
  omega
def snM (X : Mem) (m a b l t v p : Int) : Mem := upM (upM (upM (upM (upM (upM X 36 (6 * m) a) 36 (6 * m + 1) b) 36 (6 * m + 2) l) 36 (6 * m + 3) t) 36 (6 * m + 4) v) 36 (6 * m + 5) p
def hpV (g f : Int → Int) (l p q r : Int) : Int := if r = 0 then g (p - q) else if r = 1 then g (p - q - 1) else f (g (p - q - 1)) - l
def hoM (X : Mem) (m : Int) (g f : Int → Int) (l p k : Int) : Mem := fun z j => if z = 37 ∧ 21 * m ≤ j ∧ j < 21 * m + 3 * k then hpV g f l p ((j - 21 * m) / 3) ((j - 21 * m) % 3) else X z j
theorem ho_0 (X : Mem) (m : Int) (g f : Int → Int) (l p : Int) : X = hoM X m g f l p 0 := by
  funext zk zj; unfold hoM; rw [if_neg (by omega)]
theorem ho_s {X : Mem} {m : Int} {g f : Int → Int} {l p k u v w : Int} (hk : 0 ≤ k) (hu : u = g (p - k)) (hv : v = g (p - k - 1)) (hw : w = f (g (p - k - 1)) - l) : upM (upM (upM (hoM X m g f l p k) 37 (21 * m + 3 * k) u) 37 (21 * m + 3 * k + 1) v) 37 (21 * m + 3 * k + 2) w = hoM X m g f l p (k + 1) := by
  subst hu hv hw
  funext zk zj
  unfold upM hoM
  by_cases hz : zk = 37
  · by_cases h0 : zj = 21 * m + 3 * k + 2
    · rw [if_pos ⟨hz, h0⟩, if_pos (by omega), show (zj - 21 * m) / 3 = k from by omega, show (zj - 21 * m) % 3 = 2 from by omega]; rfl
    · rw [if_neg (fun q => h0 q.2)]
      by_cases h1 : zj = 21 * m + 3 * k + 1
      · rw [if_pos ⟨hz, h1⟩, if_pos (by omega), show (zj - 21 * m) / 3 = k from by omega, show (zj - 21 * m) % 3 = 1 from by omega]; rfl
      · rw [if_neg (fun q => h1 q.2)]
        by_cases h2 : zj = 21 * m + 3 * k
        · rw [if_pos ⟨hz, h2⟩, if_pos (by omega), show (zj - 21 * m) / 3 = k from by omega, show (zj - 21 * m) % 3 = 0 from by omega]; rfl
        · rw [if_neg (fun q => h2 q.2)]
          by_cases hc : zk = 37 ∧ 21 * m ≤ zj ∧ zj < 21 * m + 3 * k
          · rw [if_pos hc, if_pos (by omega)]
          · rw [if_neg hc, if_neg (by omega)]
  · rw [if_neg (fun q => hz q.1), if_neg (fun q => hz q.1), if_neg (fun q => hz q.1), if_neg (fun q => hz q.1), if_neg (fun q => hz q.1)]
noncomputable def sntM (M : Mem) (a b l t : Int) (f g : Int → Int) (p : Int) : Mem := upM (hoM (snM (wyM (avM (layM M) f) g) (M 27 11) a b l t (f b) p) (M 27 11) g f l p p) 27 11 (M 27 11 + 1)
def PostS (M : Mem) (a b l t r : Int) (M' : Mem) : Prop :=
  (∃ f : Int → Int, (ArrOK (ERm M l) (M 27 2) a t f ∧ f b = -1) ∧ r = 0 ∧ M' = avM (layM M) f) ∨
  (∃ (f g : Int → Int) (p : Int), (ArrOK (ERm M l) (M 27 2) a t f ∧ f b ≠ -1 ∧ RW (M 27 2) a b (ERm M l) f g p) ∧ r = 1 ∧ M' = sntM M a b l t f g p)
def NPJ (M : Mem) : Prop := TJ M ∧ SJ M ∧ KJ M ∧ GJ M
theorem GJ.of {X Y : Mem} (h : GJ X) (h1 : Y 27 11 = X 27 11) (h2 : Y 36 = X 36) (h3 : Y 37 = X 37) : GJ Y := by
  unfold GJ at h ⊢
  rw [h1, h2, h3]; exact h
theorem lay_k (M : Mem) {k : Nat} (h1 : k ≠ 41) (h2 : k ≠ 42) : layM M k = M k := by
  funext j
  unfold layM glM
  rw [if_neg (fun q => h2 q.1)]
  unfold tkM
  rw [if_neg h1]
theorem sn_k (X : Mem) (m a b l t v p : Int) {k : Nat} (h : k ≠ 36) : snM X m a b l t v p k = X k := by
  funext j; simp only [snM, upM]; grind
theorem ho_k (X : Mem) (m : Int) (g f : Int → Int) (l p q : Int) {k : Nat} (h : k ≠ 37) : hoM X m g f l p q k = X k := by
  funext j; unfold hoM; rw [if_neg (fun z => h z.1)]
theorem av_k (M : Mem) (f : Int → Int) {k : Nat} (h : k ≠ 43) : avM M f k = M k := by
  funext j; unfold avM; rw [if_neg h]
theorem wy_k (M : Mem) (f : Int → Int) {k : Nat} (h : k ≠ 44) : wyM M f k = M k := by
  funext j; unfold wyM; rw [if_neg h]
theorem snt_k (M : Mem) (a b l t : Int) (f g : Int → Int) (p : Int) {k : Nat} (h1 : k ≠ 41) (h2 : k ≠ 42) (h3 : k ≠ 43) (h4 : k ≠ 44) (h5 : k ≠ 36) (h6 : k ≠ 37) (h7 : k ≠ 27) : sntM M a b l t f g p k = M k := by
  unfold sntM
  have e : ∀ (X : Mem) (j x : Int), upM X 27 j x k = X k := fun X j x => by funext i; exact upM_ne h7 i
  rw [e, ho_k _ _ _ _ _ _ _ h6, sn_k _ _ _ _ _ _ _ _ h5, wy_k _ _ h4, av_k _ _ h3, lay_k _ h1 h2]
theorem snt_27 (M : Mem) (a b l t : Int) (f g : Int → Int) (p : Int) {j : Int} (h : j ≠ 11) : sntM M a b l t f g p 27 j = M 27 j := by
  unfold sntM
  have e : ∀ (X : Mem) (x : Int), upM X 27 11 x 27 j = X 27 j := fun X x => by unfold upM; rw [if_neg (fun q => h q.2)]
  rw [e, ho_k _ _ _ _ _ _ _ (by decide), sn_k _ _ _ _ _ _ _ _ (by decide), wy_k _ _ (by decide), av_k _ _ (by decide), lay_k _ (by decide) (by decide)]
theorem snt_n (M : Mem) (a b l t : Int) (f g : Int → Int) (p : Int) : sntM M a b l t f g p 27 11 = M 27 11 + 1 := by
  unfold sntM upM
  rw [if_pos ⟨rfl, rfl⟩]
theorem snt_36 (M : Mem) (a b l t : Int) (f g : Int → Int) (p : Int) (j : Int) : sntM M a b l t f g p 36 j = if j = 6 * M 27 11 + 5 then p else if j = 6 * M 27 11 + 4 then f b else if j = 6 * M 27 11 + 3 then t else if j = 6 * M 27 11 + 2 then l else if j = 6 * M 27 11 + 1 then b else if j = 6 * M 27 11 then a else M 36 j := by
  unfold sntM
  have e : ∀ (X : Mem) (x : Int), upM X 27 11 x 36 j = X 36 j := fun X x => upM_ne (by decide) j
  rw [e, ho_k _ _ _ _ _ _ _ (by decide)]
  unfold snM
  rw [show M 36 j = (wyM (avM (layM M) f) g) 36 j from by rw [wy_k _ _ (by decide), av_k _ _ (by decide), lay_k _ (by decide) (by decide)]]
  simp only [upM]
  grind
theorem snt_37 (M : Mem) (a b l t : Int) (f g : Int → Int) (p : Int) (j : Int) : sntM M a b l t f g p 37 j = if 21 * M 27 11 ≤ j ∧ j < 21 * M 27 11 + 3 * p then hpV g f l p ((j - 21 * M 27 11) / 3) ((j - 21 * M 27 11) % 3) else M 37 j := by
  unfold sntM
  have e : ∀ (X : Mem) (x : Int), upM X 27 11 x 37 j = X 37 j := fun X x => upM_ne (by decide) j
  rw [e]
  unfold hoM
  rw [sn_k _ _ _ _ _ _ _ _ (by decide), wy_k _ _ (by decide), av_k _ _ (by decide), lay_k _ (by decide) (by decide)]
  simp only [true_and]
theorem snt_h0 (M : Mem) (a b l t : Int) (f g : Int → Int) (p : Int) {k : Int} (h0 : 0 ≤ k) (h1 : k < p) : sntM M a b l t f g p 37 (21 * M 27 11 + 3 * k) = g (p - k) ∧ sntM M a b l t f g p 37 (21 * M 27 11 + 3 * k + 1) = g (p - k - 1) ∧ sntM M a b l t f g p 37 (21 * M 27 11 + 3 * k + 2) = f (g (p - k - 1)) - l := by
  rw [snt_37, snt_37, snt_37, if_pos (by omega), if_pos (by omega), if_pos (by omega)]
  rw [show (21 * M 27 11 + 3 * k - 21 * M 27 11) / 3 = k from by omega, show (21 * M 27 11 + 3 * k - 21 * M 27 11) % 3 = 0 from by omega,
    show (21 * M 27 11 + 3 * k + 1 - 21 * M 27 11) / 3 = k from by omega, show (21 * M 27 11 + 3 * k + 1 - 21 * M 27 11) % 3 = 1 from by omega,
    show (21 * M 27 11 + 3 * k + 2 - 21 * M 27 11) / 3 = k from by omega, show (21 * M 27 11 + 3 * k + 2 - 21 * M 27 11) % 3 = 2 from by omega]
  exact ⟨rfl, rfl, rfl⟩
/-- where a message's transmission stands -/
theorem RW.at {ns a b l t : Int} {E : Int → Int → Int → Int} {f g : Int → Int} {p : Int} (hA : ArrOK E ns a t f) (hW : RW ns a b E f g p) (ht : 0 ≤ t) (hE : ∀ u v s, 0 ≤ s → s ≤ 72 → E u v s = -1 ∨ (s + l ≤ E u v s ∧ E u v s ≤ 72)) {j : Int} (j0 : 0 ≤ j) (j1 : j < p) :
    (0 ≤ g j ∧ g j < ns) ∧ (0 ≤ g (j + 1) ∧ g (j + 1) < ns) ∧ (f (g (j + 1)) ≠ -1 ∧ E (g (j + 1)) (g j) (f (g (j + 1))) = f (g j)) ∧ f (g j) ≠ -1 ∧ (0 ≤ f (g (j + 1)) ∧ f (g (j + 1)) + l ≤ f (g j) ∧ f (g j) ≤ 72) := by
  obtain ⟨⟨h1, h2, h3⟩, h4, h5, h6⟩ := hW.2.2.2 j j0 j1
  have h7 := hA.2.1 (g (j + 1)) h4.1 h4.2
  have h8 := hE (g (j + 1)) (g j) (f (g (j + 1))) (by have := h5.1; omega) (by have := h5.1; omega)
  have h9 := h5.1
  have h10 := h5.2
  exact ⟨h1, h4, h5, h3, by omega, by omega, by omega⟩
theorem GJ.snt {M : Mem} {a b l t : Int} {f g : Int → Int} {p : Int} (hG : GJ M) (hm : M 27 11 < 20) (hs : M 27 2 ≤ 8) (ha : 0 ≤ a ∧ a < M 27 2) (hb : 0 ≤ b ∧ b < M 27 2) (hl : 1 ≤ l ∧ l ≤ 6) (ht : 0 ≤ t ∧ t ≤ 71) (hA : ArrOK (ERm M l) (M 27 2) a t f) (hfb : f b ≠ -1) (hW : RW (M 27 2) a b (ERm M l) f g p) : GJ (sntM M a b l t f g p) := by
  have hat := fun {j : Int} (j0 : 0 ≤ j) (j1 : j < p) => RW.at (l := l) hA hW ht.1 (fun u v s s0 s1 => eeT_len _ hl.1 s0 s1) j0 j1
  have hp := hW.1
  have hfb2 := hA.2.1 b hb.1 hb.2
  obtain ⟨g1, g2, g3⟩ := hG
  unfold GJ
  rw [snt_n]
  refine ⟨by omega, fun m m0 m1 => ?_, fun m k m0 m1 k0 k1 => ?_⟩
  · by_cases hq : m = M 27 11
    · subst hq
      rw [snt_36, snt_36, snt_36, snt_36, snt_36, snt_36]
      rw [if_neg (by omega), if_neg (by omega), if_neg (by omega), if_neg (by omega), if_neg (by omega), if_pos rfl]
      rw [if_neg (by omega), if_neg (by omega), if_neg (by omega), if_neg (by omega), if_pos rfl]
      rw [if_neg (by omega), if_neg (by omega), if_neg (by omega), if_pos rfl]
      rw [if_neg (by omega), if_neg (by omega), if_pos rfl]
      rw [if_neg (by omega), if_pos rfl]
      rw [if_pos rfl]
      omega
    · have := g2 m m0 (by omega)
      have key : ∀ c, 0 ≤ c → c < 6 → sntM M a b l t f g p 36 (6 * m + c) = M 36 (6 * m + c) := fun c c0 c1 => by
        rw [snt_36, if_neg (by omega), if_neg (by omega), if_neg (by omega), if_neg (by omega), if_neg (by omega), if_neg (by omega)]
      have k0 := key 0 (by omega) (by omega)
      rw [Int.add_zero] at k0
      rw [k0, key 1 (by omega) (by omega), key 2 (by omega) (by omega), key 3 (by omega) (by omega), key 4 (by omega) (by omega), key 5 (by omega) (by omega)]
      exact this
  · by_cases hq : m = M 27 11
    · subst hq
      have e5 : sntM M a b l t f g p 36 (6 * M 27 11 + 5) = p := by rw [snt_36, if_pos rfl]
      have e2 : sntM M a b l t f g p 36 (6 * M 27 11 + 2) = l := by rw [snt_36, if_neg (by omega), if_neg (by omega), if_neg (by omega), if_pos rfl]
      rw [e5] at k1
      obtain ⟨q1, q2, q3⟩ := snt_h0 M a b l t f g p k0 k1
      rw [q1, q2, q3, e2]
      have h := hat (j := p - k - 1) (by omega) (by omega)
      rw [show p - k - 1 + 1 = p - k from by omega] at h
      omega
    · have key : ∀ c, 0 ≤ c → c < 6 → sntM M a b l t f g p 36 (6 * m + c) = M 36 (6 * m + c) := fun c c0 c1 => by
        rw [snt_36, if_neg (by omega), if_neg (by omega), if_neg (by omega), if_neg (by omega), if_neg (by omega), if_neg (by omega)]
      rw [key 5 (by omega) (by omega)] at k1
      have h7 := (g2 m m0 (by omega)).2.2.2.2.2
      have h := g3 m k m0 (by omega) k0 k1
      rw [snt_37, snt_37, snt_37, if_neg (by omega), if_neg (by omega), if_neg (by omega), key 2 (by omega) (by omega)]
      exact h
theorem SJ.of {X Y : Mem} (h : SJ X) (h7 : Y 27 2 = X 27 2) (h8 : Y 29 = X 29) (h9 : Y 30 = X 30) (h10 : Y 31 = X 31) : SJ Y := by
  unfold SJ at h ⊢
  rw [h7, h8, h9, h10]; exact h
theorem KJ.of {X Y : Mem} (h : KJ X) (h6 : Y 27 6 = X 27 6) (h2 : Y 32 = X 32) (h3 : Y 33 = X 33) (h4 : Y 34 = X 34) (h5 : Y 35 = X 35) : KJ Y := by
  unfold KJ at h ⊢
  rw [h6, h2, h3, h4, h5]; exact h
theorem TJ.of {X Y : Mem} (h : TJ X) (h2 : Y 28 = X 28) : TJ Y := by
  unfold TJ at h ⊢
  rw [h2]; exact h
/-- what a message leaves as it was -/
theorem PostS.keep {M M' : Mem} {a b l t r : Int} (h : PostS M a b l t r M') (hN : NPJ M) (hm : M 27 11 < 20) (ha : 0 ≤ a ∧ a < M 27 2) (hb : 0 ≤ b ∧ b < M 27 2) (hl : 1 ≤ l ∧ l ≤ 6) (ht : 0 ≤ t ∧ t ≤ 71) :
    NPJ M' ∧ (∀ k : Nat, k ≠ 41 → k ≠ 42 → k ≠ 43 → k ≠ 44 → k ≠ 36 → k ≠ 37 → k ≠ 27 → M' k = M k) ∧ (∀ j, j ≠ 11 → M' 27 j = M 27 j) ∧ ((r = 0 ∧ M' 27 11 = M 27 11) ∨ (r = 1 ∧ M' 27 11 = M 27 11 + 1)) := by
  obtain ⟨hT, hS, hK, hG⟩ := hN
  rcases h with ⟨f, hf, hr, rfl⟩ | ⟨f, g, p, hf, hr, rfl⟩
  · have hk : ∀ k : Nat, k ≠ 41 → k ≠ 42 → k ≠ 43 → avM (layM M) f k = M k := fun k h1 h2 h3 => by rw [av_k _ _ h3, lay_k _ h1 h2]
    have e27 := hk 27 (by decide) (by decide) (by decide)
    refine ⟨⟨hT.of (hk 28 (by decide) (by decide) (by decide)), hS.of (by rw [e27]) (hk 29 (by decide) (by decide) (by decide)) (hk 30 (by decide) (by decide) (by decide)) (hk 31 (by decide) (by decide) (by decide)), hK.of (by rw [e27]) (hk 32 (by decide) (by decide) (by decide)) (hk 33 (by decide) (by decide) (by decide)) (hk 34 (by decide) (by decide) (by decide)) (hk 35 (by decide) (by decide) (by decide)), hG.of (by rw [e27]) (hk 36 (by decide) (by decide) (by decide)) (hk 37 (by decide) (by decide) (by decide))⟩, fun k h1 h2 h3 _ _ _ _ => hk k h1 h2 h3, fun j _ => by rw [e27], Or.inl ⟨hr, by rw [e27]⟩⟩
  · have hk := fun {k : Nat} h1 h2 h3 h4 h5 h6 h7 => snt_k M a b l t f g p (k := k) h1 h2 h3 h4 h5 h6 h7
    have e27 := fun {j : Int} hj => snt_27 M a b l t f g p (j := j) hj
    refine ⟨⟨hT.of (hk (by decide) (by decide) (by decide) (by decide) (by decide) (by decide) (by decide)), hS.of (e27 (by decide)) (hk (by decide) (by decide) (by decide) (by decide) (by decide) (by decide) (by decide)) (hk (by decide) (by decide) (by decide) (by decide) (by decide) (by decide) (by decide)) (hk (by decide) (by decide) (by decide) (by decide) (by decide) (by decide) (by decide)), hK.of (e27 (by decide)) (hk (by decide) (by decide) (by decide) (by decide) (by decide) (by decide) (by decide)) (hk (by decide) (by decide) (by decide) (by decide) (by decide) (by decide) (by decide)) (hk (by decide) (by decide) (by decide) (by decide) (by decide) (by decide) (by decide)) (hk (by decide) (by decide) (by decide) (by decide) (by decide) (by decide) (by decide)), hG.snt hm hS.1.2 ha hb hl ht hf.1 hf.2.1 hf.2.2⟩, fun k h1 h2 h3 h4 h5 h6 h7 => hk h1 h2 h3 h4 h5 h6 h7, fun j hj => e27 hj, Or.inr ⟨hr, snt_n M a b l t f g p⟩⟩
def SCh : List Rq → Mem → Mem → Prop
  | [], M, M' => M' = M
  | q :: qs, M, M' => ∃ (r : Int) (M1 : Mem), PostS M q.1 q.2.1 q.2.2.1 q.2.2.2 r M1 ∧ SCh qs M1 M'
