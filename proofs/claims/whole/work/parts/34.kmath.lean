/-! the table of hours -/
noncomputable def hpC (M : Mem) (a b : Int) : Int := if b = a then 0 else if betF (M 2) (M 8) (M 9) a b ≠ -1 then 0 else shT (fun hr => bitP (shT (fun hr => snF (M 2) (M 8 a) (eyeF (M 2) (M 8) (M 9) a) hr (cvC M (M 8 a) hr) = 0) 12 6 0) hr ∧ thrP (M 2) (M 8) (M 9) (M 10) a b hr) 12 6 0
theorem hpC_inr (M : Mem) (a b : Int) : Inr (hpC M a b) := by
  unfold hpC
  split
  · exact ⟨by omega, by omega⟩
  · split
    · exact ⟨by omega, by omega⟩
    · exact shT_inr _ _ _ _ ⟨by omega, by omega⟩
def lkM (M : Mem) (hp : Int → Int → Int) (ns a b : Int) : Mem := fun k j => if k = 23 ∧ (0 ≤ j ∧ j < 64) ∧ (j / 8 < a ∨ (j / 8 = a ∧ j % 8 < b)) ∧ j % 8 < ns then hp (j / 8) (j % 8) else M k j
theorem lk_s {M : Mem} {hp : Int → Int → Int} {ns a b : Int} (ha : 0 ≤ a ∧ a < 8) (hb : 0 ≤ b ∧ b < ns) (hn : ns ≤ 8) : upM (lkM M hp ns a b) 23 (8 * a + b) (hp a b) = lkM M hp ns a (b + 1) := by
  funext k j
  unfold upM lkM
  by_cases hk : k = 23
  · by_cases hj : j = 8 * a + b
    · rw [if_pos ⟨hk, hj⟩, if_pos (by omega), show j / 8 = a from by omega, show j % 8 = b from by omega]
    · rw [if_neg (fun q => hj q.2)]
      by_cases hc : k = 23 ∧ (0 ≤ j ∧ j < 64) ∧ (j / 8 < a ∨ (j / 8 = a ∧ j % 8 < b)) ∧ j % 8 < ns
      · rw [if_pos hc, if_pos (by omega)]
      · rw [if_neg hc, if_neg (by omega)]
  · rw [if_neg (fun q => hk q.1), if_neg (fun q => hk q.1), if_neg (fun q => hk q.1)]
theorem lk_r {M : Mem} {hp : Int → Int → Int} {ns a : Int} (ha : 0 ≤ a) (hn : ns ≤ 8) : lkM M hp ns a ns = lkM M hp ns (a + 1) 0 := by
  funext k j
  unfold lkM
  by_cases hc : k = 23 ∧ (0 ≤ j ∧ j < 64) ∧ (j / 8 < a ∨ (j / 8 = a ∧ j % 8 < ns)) ∧ j % 8 < ns
  · rw [if_pos hc, if_pos (by omega)]
  · rw [if_neg hc, if_neg (by omega)]
theorem lk_0 (M : Mem) (hp : Int → Int → Int) (ns : Int) : M = lkM M hp ns 0 0 := by
  funext k j
  unfold lkM
  rw [if_neg (by omega)]
/-- the requests: what a message asks -/
def rqM (M : Mem) (m w : Int) : Mem := fun k j => if k = 26 ∧ (0 ≤ j ∧ j < 80) ∧ (j / 4 < m ∨ (j / 4 = m ∧ j % 4 < w)) then M 20 (27 * (j / 4) + j % 4) else M k j
theorem rq_s {M : Mem} {m w : Int} (hm : 0 ≤ m ∧ m < 20) (hw : 0 ≤ w ∧ w < 4) : upM (rqM M m w) 26 (4 * m + w) (M 20 (27 * m + w)) = rqM M m (w + 1) := by
  funext k j
  unfold upM rqM
  by_cases hk : k = 26
  · by_cases hj : j = 4 * m + w
    · rw [if_pos ⟨hk, hj⟩, if_pos (by omega), show j / 4 = m from by omega, show j % 4 = w from by omega]
    · rw [if_neg (fun q => hj q.2)]
      by_cases hc : k = 26 ∧ (0 ≤ j ∧ j < 80) ∧ (j / 4 < m ∨ (j / 4 = m ∧ j % 4 < w))
      · rw [if_pos hc, if_pos (by omega)]
      · rw [if_neg hc, if_neg (by omega)]
  · rw [if_neg (fun q => hk q.1), if_neg (fun q => hk q.1), if_neg (fun q => hk q.1)]
theorem rq_r {M : Mem} {m : Int} (hm : 0 ≤ m) : rqM M m 4 = rqM M (m + 1) 0 := by
  funext k j
  unfold rqM
  by_cases hc : k = 26 ∧ (0 ≤ j ∧ j < 80) ∧ (j / 4 < m ∨ (j / 4 = m ∧ j % 4 < 4))
  · rw [if_pos hc, if_pos (by omega)]
  · rw [if_neg hc, if_neg (by omega)]
theorem rq_0 (M : Mem) : M = rqM M 0 0 := by
  funext k j
  unfold rqM
  rw [if_neg (by omega)]
