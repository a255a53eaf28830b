/-! Arrays.fill on an array alone -/
theorem pi_fill : dcB cJ7_fill_53178 p_J7_fill_53178 = true := by decide +kernel
section FILL
variable {l : Launch} {D : va_G} {y : YT} {A : Nat → Prop} {g : GT}
theorem fill_loop (hc : IC D y A RJ7 cJ7_fill_53178 4 g) {q : Nat} {v : Int32} (hret : ∀ (ls : Array Slot) (f : Nat → Int32), (∀ j, j < 576 → f j = v) → IW l D A g 0 0 20 ls [] [(q, .inl (y.1, 576, .inl f))]) :
    ∀ (r : Nat) (i : Int) (ls : Array Slot) (f : Nat → Int32), i + r = 576 → 0 ≤ i → (∀ j : Nat, (j : Int) < i → f j = v) → lv_has ls 4 [(2, .int (Int32.ofInt i)), (3, .int (Int32.ofInt 576)), (0, .ref q), (1, .int v)] → IW l D A g 0 0 5 ls [] [(q, .inl (y.1, 576, .inl f))] := by
  intro r
  induction r with
  | zero =>
    intro i ls f hi i0 hf hl H locs hP hD hS
    refine lv_iload_n hc.1 hc.2.1 (dc_at pi_fill 5 5 (.iload_n 2) 1 rfl) rfl (lv_at hl 0 rfl) ?_
    refine lv_iload_n hc.1 hc.2.1 (dc_at pi_fill 6 6 (.iload_n 3) 1 rfl) rfl (lv_at hl 1 rfl) ?_
    refine lv_icmp_ge (x := Int32.ofInt i) (y := Int32.ofInt 576) (tgt := 20) hc.1 hc.2.1 (dc_at pi_fill 7 7 (.if_icmp .ge 13) 3 rfl) (by decide) (fun _ => hret ls f (fun j hj => hf j (by omega)) H locs hP hD hS) (fun z => ?_)
    have e : i = 576 := by omega
    rw [e] at z
    exact absurd (Int32.le_refl _) z
  | succ r ih =>
    intro i ls f hi i0 hf hl H locs hP hD hS
    refine lv_iload_n hc.1 hc.2.1 (dc_at pi_fill 5 5 (.iload_n 2) 1 rfl) rfl (lv_at hl 0 rfl) ?_
    refine lv_iload_n hc.1 hc.2.1 (dc_at pi_fill 6 6 (.iload_n 3) 1 rfl) rfl (lv_at hl 1 rfl) ?_
    refine lv_icmp_ge (x := Int32.ofInt i) (y := Int32.ofInt 576) (tgt := 20) hc.1 hc.2.1 (dc_at pi_fill 7 7 (.if_icmp .ge 13) 3 rfl) (by decide) (fun z => ?_) (fun _ => ?_)
    · rw [Int32.le_iff_toInt_le, Int32.toInt_ofInt_of_le (by omega) (by omega), Int32.toInt_ofInt_of_le (by omega) (by omega)] at z
      omega
    refine lv_aload_n hc.1 hc.2.1 (dc_at pi_fill 8 10 (.aload_n 0) 1 rfl) rfl (lv_at hl 2 rfl) ?_
    refine lv_iload_n hc.1 hc.2.1 (dc_at pi_fill 9 11 (.iload_n 2) 1 rfl) rfl (lv_at hl 0 rfl) ?_
    refine lv_iload_n hc.1 hc.2.1 (dc_at pi_fill 10 12 (.iload_n 1) 1 rfl) rfl (lv_at hl 3 rfl) ?_
    refine va_iast (D := D) (cl := vwCl) (tys := tyY y) (A := A) (i := Int32.ofInt i) (x := v) hc.1 hc.2.1 hc.2.2.2.2.2.1 hP hD hS 0 0 (n := 576) (f := f) rfl rfl (oI_in i0 (by omega) (by omega)) (dc_at pi_fill 11 13 .iastore 1 rfl) (fun H1 locs1 hP1 hD1 hS1 => ?_)
    refine lv_iinc (k := 0) (x := Int32.ofInt i) (v := Int32.ofInt (i + 1)) hc.1 hc.2.1 (dc_at pi_fill 12 14 (.iinc 2 1) 3 rfl) hl rfl (by rw [Int32.ofInt_add]) (by decide) (lv' := [(2, .int (Int32.ofInt (i + 1))), (3, .int (Int32.ofInt 576)), (0, .ref q), (1, .int v)]) rfl (fun ls' hl' => ?_)
    refine lv_goto (tgt := 5) hc.1 hc.2.1 (dc_at pi_fill 13 17 (.goto (-12)) 3 rfl) (by decide) ?_
    refine ih (i + 1) ls' (upd f (Int32.ofInt i).toNatClampNeg v) (by omega) (by omega) (fun j hj => ?_) hl' H1 locs1 hP1 hD1 hS1
    rw [oI_cl i0 (by omega)]
    by_cases e : j = i.toNat
    · subst e; simp [upd]
    · have := hf j (by omega)
      simp [upd, e, this]
end FILL
theorem ct_fill {l : Launch} {D : va_G} {y : YT} {q : Nat} {v : Int32} {f : Nat → Int32} (sz : Nat) : Met l yJ7_fill_53178 (Cond.code yJ7_fill_53178 cJ7_fill_53178 4 none :: lw_big) { frames := 0, cells := 0, slots := 0, locals := 0 } (va_Pc [.ref q, .int v] (fun U => U.heap.size = sz ∧ va_P D vwCl [(q, .inl (y.1, 576, .inl f))] U.heap ∧ va_K D vwCl (tyY y) U ∧ va_D (fun _ => True) [(q, .inl (y.1, 576, .inl f))])) (va_Qv (fun f' : Nat → Int32 => ∀ j, j < 576 → f' j = v) (fun f' t => va_P D vwCl [(q, .inl (y.1, 576, .inl f'))] t.heap ∧ va_D (va_A [(q, .inl (y.1, 576, .inl f))] sz) [(q, .inl (y.1, 576, .inl f'))]) (va_A [(q, .inl (y.1, 576, .inl f))] sz)) 0 0 (va_A [(q, .inl (y.1, 576, .inl f))] sz) := by
  refine Met.ofW (cc := cJ7_fill_53178) (maxL := 4) (ret := none) (by decide +kernel) rfl ?_
  intro p e s m args below meth c s₁ B hml hv
  obtain ⟨rfl, hsz, hP, hK, hD0⟩ := hv
  have hts := atoms_spec (ws := Cond.code yJ7_fill_53178 cJ7_fill_53178 4 none :: lw_big) B.pre
  subst hsz
  have hD := hD0.self (sz := s.heap.size)
  have hl := lv_entry [.ref q, .int v] (n := 4) (Nat.le_of_ble_eq_true rfl)
  rw [lg_entry_eq]
  generalize (lg_sl [.ref q, .int v] ++ List.replicate (4 - (lg_sl [Value.ref q, .int v]).length) Slot.unset).toArray = ls at hl ⊢
  have hl : lv_has ls 4 [(0, .ref q), (1, .int v)] := hl
  have hc : ∀ Z : State → Prop, IC D y (va_A [(q, .inl (y.1, 576, .inl f))] s.heap.size) RJ7 cJ7_fill_53178 4 (p, e, ({ frames := 0, cells := 0, slots := 0, locals := 0 } : Room), s, m, [Value.ref q, .int v].toArray, below, meth, c, Z) := fun Z => ⟨B.exec, B.bytes, hml, findClass_of_methodNamed B.named, fun w hw => hts w (List.mem_cons_of_mem _ hw), hK, fun q hq => Or.inr hq⟩
  refine lv_iconst (v := Int32.ofInt 0) B.exec B.bytes (dc_at pi_fill 0 0 (.iconst 0) 1 rfl) rfl ?_
  refine lv_istore_n B.exec B.bytes (dc_at pi_fill 1 1 (.istore_n 2) 1 rfl) rfl hl (by decide) (lv' := [(2, .int (Int32.ofInt 0)), (0, .ref q), (1, .int v)]) rfl (fun ls hl => ?_)
  refine lv_aload_n B.exec B.bytes (dc_at pi_fill 2 2 (.aload_n 0) 1 rfl) rfl (lv_at hl 1 rfl) ?_
  refine va_alen (D := D) (cl := vwCl) (tys := tyY y) (v := Int32.ofInt 576) B.exec B.bytes hK hP 0 0 rfl rfl rfl (dc_at pi_fill 3 3 .arraylength 1 rfl) ?_
  refine lv_istore_n B.exec B.bytes (dc_at pi_fill 4 4 (.istore_n 3) 1 rfl) rfl hl (by decide) (lv' := [(3, .int (Int32.ofInt 576)), (2, .int (Int32.ofInt 0)), (0, .ref q), (1, .int v)]) rfl (fun ls hl => ?_)
  have hl := lv_sub hl [1, 0, 2, 3] (l' := [(2, .int (Int32.ofInt 0)), (3, .int (Int32.ofInt 576)), (0, .ref q), (1, .int v)]) rfl
  refine fill_loop (g := (p, e, ({ frames := 0, cells := 0, slots := 0, locals := 0 } : Room), s, m, [Value.ref q, .int v].toArray, below, meth, c, _)) (hc _) (fun ls f' hf' H locs hP1 hD1 hS1 => ?_) 576 0 ls f (by omega) (by omega) (fun j hj => by omega) hl s.heap [] hP hD va_S.rf
  exact W.vret B.exec B.bytes B.returns (fun t ht hW => ⟨⟨f', rfl, hf', by rw [ht]; exact hP1, hD1⟩, hS1.F ht⟩) hS1.2.2 (dc_at pi_fill 14 20 .return_ 1 rfl) B.notSynchronized
