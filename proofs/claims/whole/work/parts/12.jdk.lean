/-! Math.max, min, abs; System.arraycopy within one row -/
section
variable {ev : Ev} {k : Bool} {d : Nat} {t : MT} {Q : Out → Mem → Prop} {pc : Nat} {L : Lo} {M : Mem} {idx : Nat} {rest : List AV} {x y : Int}
theorem jm_max : Cond.static Lib.Math.max.name ∈ lw_big ∧ Cond.code Lib.Math.max.name Lib.Math.max.code 2 (some .int) ∈ lw_big ∧ Cond.initialized "java/lang/Math" ∈ lw_big := by decide +kernel
theorem jm_min : Cond.static Lib.Math.min.name ∈ lw_big ∧ Cond.code Lib.Math.min.name Lib.Math.min.code 2 (some .int) ∈ lw_big ∧ Cond.initialized "java/lang/Math" ∈ lw_big := by decide +kernel
theorem jm_abs : Cond.static Lib.Math.abs.name ∈ lw_big ∧ Cond.code Lib.Math.abs.name Lib.Math.abs.code 1 (some .int) ∈ lw_big ∧ Cond.initialized "java/lang/Math" ∈ lw_big := by decide +kernel
theorem cat13 (ad : Nat → Nat) (h : catS rest ≤ 8) (hd : 0 < d) : ((rest.map (cv ad)).map fun v => v.category).sum + 13 ≤ (rmOf k d).locals := by
  have := catS_ok ad rest h
  show _ + 13 ≤ 38 * d
  omega
theorem AW.mmax (hl' : Cond.methodLink (mN t).cls idx Lib.Math.max.name ∈ lw_big) (hdec : decode (mC t) pc = .ok (.invokestatic idx, 3)) (hd : 0 < d) (hcat : catS rest ≤ 8) (hx : Inr x) (hy : Inr y)
    (h : ∀ r : Int, x ≤ r ∧ y ≤ r ∧ (r = x ∨ r = y) → AW ev k d t Q (pc + 3) L (vI r :: rest) M) : AW ev k d t Q pc L (vI y :: vI x :: rest) M := by
  intro p e s m args below meth c hc H locs ls hP hS hl
  have hts := hc.2.2.2.2.2.2.1
  refine va_mmax (R := rmOf k d) (x := Int32.ofInt x) (y := Int32.ofInt y) hc.1 hc.2.1 (hc.2.2.1.trans hl.1.symm) hc.2.2.2.2.2.1 (hts _ hl') (hts _ jm_max.1) (hts _ jm_max.2.2) (hts _ jm_max.2.1) hd (cat13 _ hcat hd) (Nat.zero_le _) (Nat.zero_le _) hdec ?_
  by_cases hlt : x < y
  · rw [if_pos ((oI_lt hx hy).mpr hlt)]
    exact h y (by omega) p e s m args below meth c hc H locs ls hP hS hl
  · rw [if_neg (fun q => hlt ((oI_lt hx hy).mp q))]
    exact h x (by omega) p e s m args below meth c hc H locs ls hP hS hl
theorem AW.mmin (hl' : Cond.methodLink (mN t).cls idx Lib.Math.min.name ∈ lw_big) (hdec : decode (mC t) pc = .ok (.invokestatic idx, 3)) (hd : 0 < d) (hcat : catS rest ≤ 8) (hx : Inr x) (hy : Inr y)
    (h : ∀ r : Int, r ≤ x ∧ r ≤ y ∧ (r = x ∨ r = y) → AW ev k d t Q (pc + 3) L (vI r :: rest) M) : AW ev k d t Q pc L (vI y :: vI x :: rest) M := by
  intro p e s m args below meth c hc H locs ls hP hS hl
  have hts := hc.2.2.2.2.2.2.1
  refine va_mmin (R := rmOf k d) (x := Int32.ofInt x) (y := Int32.ofInt y) hc.1 hc.2.1 (hc.2.2.1.trans hl.1.symm) hc.2.2.2.2.2.1 (hts _ hl') (hts _ jm_min.1) (hts _ jm_min.2.2) (hts _ jm_min.2.1) hd (cat13 _ hcat hd) (Nat.zero_le _) (Nat.zero_le _) hdec ?_
  by_cases hlt : y < x
  · rw [if_pos ((oI_lt hy hx).mpr hlt)]
    exact h y (by omega) p e s m args below meth c hc H locs ls hP hS hl
  · rw [if_neg (fun q => hlt ((oI_lt hy hx).mp q))]
    exact h x (by omega) p e s m args below meth c hc H locs ls hP hS hl
theorem AW.mabs (hl' : Cond.methodLink (mN t).cls idx Lib.Math.abs.name ∈ lw_big) (hdec : decode (mC t) pc = .ok (.invokestatic idx, 3)) (hd : 0 < d) (hcat : catS rest ≤ 8) (hx : -2147483648 < x ∧ x < 2147483648)
    (h : ∀ r : Int, 0 ≤ r ∧ (r = x ∨ r = -x) → AW ev k d t Q (pc + 3) L (vI r :: rest) M) : AW ev k d t Q pc L (vI x :: rest) M := by
  intro p e s m args below meth c hc H locs ls hP hS hl
  have hts := hc.2.2.2.2.2.2.1
  refine va_mabs (R := rmOf k d) (x := Int32.ofInt x) hc.1 hc.2.1 (hc.2.2.1.trans hl.1.symm) hc.2.2.2.2.2.1 (hts _ hl') (hts _ jm_abs.1) (hts _ jm_abs.2.2) (hts _ jm_abs.2.1) hd (cat13 _ hcat hd) (Nat.zero_le _) (Nat.zero_le _) hdec ?_
  have hx' : Inr x := ⟨by omega, by omega⟩
  have h0 : Inr 0 := ⟨by omega, by omega⟩
  by_cases hlt : 0 ≤ x
  · rw [if_pos (show (0 : Int32) ≤ Int32.ofInt x from (oI_le h0 hx').mpr hlt)]
    exact h x (by omega) p e s m args below meth c hc H locs ls hP hS hl
  · rw [if_neg (show ¬ (0 : Int32) ≤ Int32.ofInt x from fun q => hlt ((oI_le h0 hx').mp q))]
    have he : (0 : Int32) - Int32.ofInt x = Int32.ofInt (-x) := by rw [Int32.ofInt_neg, Int32.zero_sub]
    rw [he]
    exact h (-x) (by omega) p e s m args below meth c hc H locs ls hP hS hl
def cpM (M : Mem) (k : Nat) (sp dp n : Int) : Mem := fun k' i => if k' = k ∧ dp ≤ i ∧ i < dp + n then M k (sp + (i - dp)) else M k' i
theorem jm_cpy : Cond.native arraycopyName ∈ lw_big ∧ Cond.static arraycopyName ∈ lw_big ∧ Cond.initialized "java/lang/System" ∈ lw_big := by decide +kernel
theorem wd_cp (ev : Ev) (M : Mem) (k : Nat) (sp dp n : Int) : wd ev (cpM M k sp dp n) = (wd ev M).set k (eA ev k, cellE ev (cpM M k sp dp n) k) := by
  apply List.ext_getElem?
  intro i
  rw [List.getElem?_set]
  by_cases hi : i < 47
  · rw [wd_get ev _ hi]
    by_cases hk : k = i
    · subst hk
      rw [if_pos rfl, if_pos (by simp [wd]; exact hi)]
    · rw [if_neg hk, wd_get ev _ hi, cellE_congr ev (fun q => (by unfold cpM; rw [if_neg (fun h => hk h.1.symm)] : cpM M k sp dp n i q = M i q))]
  · have h1 : ∀ M' : Mem, (wd ev M')[i]? = none := fun M' => by
      rw [List.getElem?_eq_none_iff]; simp [wd]; omega
    rw [h1, h1]
    by_cases hk : k = i
    · subst hk
      rw [if_pos rfl, if_neg (by simp [wd]; omega)]
    · rw [if_neg hk]
theorem AW.acopy {a z : Nat} {sp dp n : Int} (hq : alk akL a = some (0, z)) (hl' : Cond.methodLink (mN t).cls idx arraycopyName ∈ lw_big) (hdec : decode (mC t) pc = .ok (.invokestatic idx, 3)) (hd : 0 < d) (hcat : catS rest ≤ 8) (h1 : 0 ≤ sp) (h2 : 0 ≤ dp) (h3 : 0 ≤ n) (h4 : sp + n ≤ z) (h5 : dp + n ≤ z)
    (h : AW ev k d t Q (pc + 3) L rest (cpM M a sp dp n)) : AW ev k d t Q pc L (vI n :: vI dp :: vR a :: vI sp :: vR a :: rest) M := by
  intro p e s m args below meth c hc H locs ls hP hS hl
  have hts := hc.2.2.2.2.2.2.1
  have hev := hc.2.2.2.2.2.2.2.2.1
  obtain ⟨hlt, -, hsm⟩ := ak_lt _ (alk_mem hq)
  replace hsm : z < 2147483648 := hsm
  have nn : ∀ v : Int, 0 ≤ v → v < 2147483648 → ¬ Int32.ofInt v < 0 := fun v q1 q2 q => by
    have := (oI_lt (x := v) (y := 0) ⟨by omega, by omega⟩ ⟨by omega, by omega⟩).mp q
    omega
  have hw : (wd ev M)[a]? = some (eA ev a, .inl ((eY ev).1, z, .inl (fun i => Int32.ofInt (M a (i : Int))))) := by rw [wd_get ev M hlt, cellE_arr0 hq]
  refine va_copyi (R := rmOf k d) (D := eD ev) (cl := vwCl) (tys := tyT ev) (ws := wd ev M) (A := eR ev) (ty := .int) (sp := Int32.ofInt sp) (dp := Int32.ofInt dp) (n := Int32.ofInt n) hc.1 hc.2.1 (hc.2.2.1.trans hl.1.symm) hc.2.2.2.2.2.1 (hts _ hl') (hts _ jm_cpy.1) (hts _ jm_cpy.2.1) (hts _ jm_cpy.2.2) hev.2.1 hP (wd_D hev.1 M) hS a a 0 0 hw hw rfl rfl rfl (nn sp h1 (by omega)) (nn dp h2 (by omega)) (nn n h3 (by omega))
    (by rw [oI_cl h1 (by omega), oI_cl h3 (by omega)]; omega) (by rw [oI_cl h2 (by omega), oI_cl h3 (by omega)]; omega) (fun _ _ => rfl) hd ?_ hdec (fun H1 locs1 hP1 _ hS1 => ?_)
  · have := catS_ok (eA ev) rest hcat
    show _ + (7 + 11) ≤ 38 * d
    omega
  · refine h p e s m args below meth c hc H1 locs1 ls ?_ hS1 hl
    show va_P (eD ev) vwCl (wd ev (cpM M a sp dp n)) H1
    rw [wd_cp, cellE_arr0 hq]
    rw [oI_cl h1 (by omega), oI_cl h2 (by omega), oI_cl h3 (by omega)] at hP1
    have he : (fun j : Nat => Int32.ofInt (cpM M a sp dp n a (j : Int))) = va_cpy (fun i : Nat => Int32.ofInt (M a (i : Int))) (fun i : Nat => Int32.ofInt (M a (i : Int))) sp.toNat dp.toNat n.toNat := by
      funext j
      unfold cpM va_cpy
      by_cases hj : dp ≤ (j : Int) ∧ (j : Int) < dp + n
      · rw [if_pos ⟨rfl, hj⟩, if_pos (by omega)]
        congr 2
        omega
      · rw [if_neg (fun r => hj r.2), if_neg (by omega)]
    rw [he]
    exact hP1
end
theorem okP_d {c : ByteArray} {pg : Pg} (h : okP c pg) (i pc : Nat) (ins : Instr) (len : Nat) (he : pg[i]? = some (pc, ins, len)) : decode c pc = .ok (ins, len) := okP_at (e := (pc, ins, len)) h i he
theorem AW.mem {ev : Ev} {k : Bool} {d : Nat} {t : MT} {Q : Out → Mem → Prop} {pc : Nat} {L : Lo} {st : List AV} {M M' : Mem} (h : M = M') (hA : AW ev k d t Q pc L st M') : AW ev k d t Q pc L st M := h ▸ hA
