theorem c_J6_bitCount_0f7a4 {ev : Ev} {Q : Out → Mem → Prop} {M : Mem}  (x : Int)  (zQ : ∀ (r : Int), r = bcI x → Q (.inl (some (vI r))) M) : AM ev false 0 t_J6_bitCount_0f7a4 [vI x] M Q := by
  refine AM.of mt_J6_bitCount_0f7a4 (Nat.le_of_ble_eq_true rfl) ?_
  change AW ev false 0 t_J6_bitCount_0f7a4 Q 0 [some (vI x)] [] M
  refine AW.go pk_J6_bitCount_0f7a4 0 42 rfl rfl ?_
  refine And.intro (show 0 < mL t_J6_bitCount_0f7a4 from (by decide)) ?_
  refine And.intro (show 0 < mL t_J6_bitCount_0f7a4 from (by decide)) ?_
  refine And.intro (show 0 < mL t_J6_bitCount_0f7a4 from (by decide)) ?_
  refine And.intro (show 0 < mL t_J6_bitCount_0f7a4 from (by decide)) ?_
  refine And.intro (show 0 < mL t_J6_bitCount_0f7a4 from (by decide)) ?_
  refine And.intro rfl ?_
  exact zQ (bcI x) rfl
