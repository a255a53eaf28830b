theorem ob8 {n : Int} (h0 : -128 ≤ n) (h1 : n < 128) : (Int8.ofInt n).toInt32 = Int32.ofInt n := by
  apply Int32.toInt_inj.mp
  rw [Int8.toInt_toInt32, Int8.toInt_ofInt_of_le (by omega) (by omega), Int32.toInt_ofInt_of_le (by omega) (by omega)]
theorem ob16 {n : Int} (h0 : -32768 ≤ n) (h1 : n < 32768) : (Int16.ofInt n).toInt32 = Int32.ofInt n := by
  apply Int32.toInt_inj.mp
  rw [Int16.toInt_toInt32, Int16.toInt_ofInt_of_le (by omega) (by omega), Int32.toInt_ofInt_of_le (by omega) (by omega)]
/-! one instruction, sound: by the kit's rows -/
def okT (pc : Nat) : Instr → Bool
  | .if_icmp _ off | .ifCond _ off | .goto off => decide (0 ≤ (pc : Int) + off)
  | .tableswitch a _ _ o => decide (0 ≤ (pc : Int) + a) && o.toList.all (fun q => decide (0 ≤ (pc : Int) + q))
  | _ => true
theorem tgt_ok {pc : Nat} {off : Int} (h : 0 ≤ (pc : Int) + off) : (pc : Int) + off = ((tgt pc off : Nat) : Int) := by
  unfold tgt; omega
section SND
variable {ev : Ev} {k : Bool} {d : Nat} {t : MT} {Q : Out → Mem → Prop} {K : Nat → Lo → List AV → Mem → Prop} {nx : Lo → List AV → Mem → Prop} {pc : Nat} {L : Lo} {M : Mem} {st : List AV}
abbrev nxOK (ev : Ev) (k : Bool) (d : Nat) (t : MT) (Q : Out → Mem → Prop) (nx : Lo → List AV → Mem → Prop) (pc : Nat) : Prop := ∀ L st M, nx L st M → AW ev k d t Q pc L st M
abbrev kOK (ev : Ev) (k : Bool) (d : Nat) (t : MT) (Q : Out → Mem → Prop) (K : Nat → Lo → List AV → Mem → Prop) : Prop := ∀ pc L st M, K pc L st M → AW ev k d t Q pc L st M

theorem sk_iconst {n : Int} (hd : decode (mC t) pc = .ok (.iconst n, 1)) (h : nx L (vI n :: st) M) (hn : nxOK ev k d t Q nx (pc + 1)) : AW ev k d t Q pc L st M := by
  intro p e s m args below meth c hc H locs ls hP hS hl
  refine lv_iconst (v := Int32.ofInt n) hc.1 hc.2.1 hd rfl ?_
  exact hn _ _ _ h p e s m args below meth c hc H locs ls hP hS hl
theorem sk_bipush {n : Int} (h0 : -128 ≤ n) (h1 : n < 128) (hd : decode (mC t) pc = .ok (.bipush n, 2)) (h : nx L (vI n :: st) M) (hn : nxOK ev k d t Q nx (pc + 2)) : AW ev k d t Q pc L st M := by
  intro p e s m args below meth c hc H locs ls hP hS hl
  refine lv_bipush (v := Int32.ofInt n) hc.1 hc.2.1 hd (ob8 h0 h1) ?_
  exact hn _ _ _ h p e s m args below meth c hc H locs ls hP hS hl
theorem sk_sipush {n : Int} (h0 : -32768 ≤ n) (h1 : n < 32768) (hd : decode (mC t) pc = .ok (.sipush n, 3)) (h : nx L (vI n :: st) M) (hn : nxOK ev k d t Q nx (pc + 3)) : AW ev k d t Q pc L st M := by
  intro p e s m args below meth c hc H locs ls hP hS hl
  refine lv_sipush (v := Int32.ofInt n) hc.1 hc.2.1 hd (ob16 h0 h1) ?_
  exact hn _ _ _ h p e s m args below meth c hc H locs ls hP hS hl
theorem sk_iload_n {i : Fin 4} (hd : decode (mC t) pc = .ok (.iload_n i, 1)) (h : wpLdI nx L M i.val st) (hn : nxOK ev k d t Q nx (pc + 1)) : AW ev k d t Q pc L st M := by
  unfold wpLdI at h
  split at h
  · rename_i x hg
    intro p e s m args below meth c hc H locs ls hP hS hl
    refine lv_iload_n hc.1 hc.2.1 hd rfl (hl.at hg) ?_
    exact hn _ _ _ h p e s m args below meth c hc H locs ls hP hS hl
  · exact h.elim
theorem sk_iload {i : Nat} (hd : decode (mC t) pc = .ok (.iload i, 2)) (h : wpLdI nx L M i st) (hn : nxOK ev k d t Q nx (pc + 2)) : AW ev k d t Q pc L st M := by
  unfold wpLdI at h
  split at h
  · rename_i x hg
    intro p e s m args below meth c hc H locs ls hP hS hl
    refine lv_iload hc.1 hc.2.1 hd (hl.at hg) ?_
    exact hn _ _ _ h p e s m args below meth c hc H locs ls hP hS hl
  · exact h.elim
theorem sk_aload_n {i : Fin 4} (hd : decode (mC t) pc = .ok (.aload_n i, 1)) (h : wpLdA nx L M i.val st) (hn : nxOK ev k d t Q nx (pc + 1)) : AW ev k d t Q pc L st M := by
  unfold wpLdA at h
  split at h
  · rename_i x hg
    intro p e s m args below meth c hc H locs ls hP hS hl
    refine lv_aload_n hc.1 hc.2.1 hd rfl (hl.at hg) ?_
    exact hn _ _ _ h p e s m args below meth c hc H locs ls hP hS hl
  · exact h.elim
theorem sk_aload {i : Nat} (hd : decode (mC t) pc = .ok (.aload i, 2)) (h : wpLdA nx L M i st) (hn : nxOK ev k d t Q nx (pc + 2)) : AW ev k d t Q pc L st M := by
  unfold wpLdA at h
  split at h
  · rename_i x hg
    intro p e s m args below meth c hc H locs ls hP hS hl
    refine lv_aload hc.1 hc.2.1 hd (hl.at hg) ?_
    exact hn _ _ _ h p e s m args below meth c hc H locs ls hP hS hl
  · exact h.elim
theorem sk_lload_n {i : Fin 4} (hd : decode (mC t) pc = .ok (.lload_n i, 1)) (h : wpLdL nx L M i.val st) (hn : nxOK ev k d t Q nx (pc + 1)) : AW ev k d t Q pc L st M := by
  unfold wpLdL at h
  split at h
  · rename_i x hg
    intro p e s m args below meth c hc H locs ls hP hS hl
    refine lv_lload_n hc.1 hc.2.1 hd rfl (hl.at hg) ?_
    exact hn _ _ _ h p e s m args below meth c hc H locs ls hP hS hl
  · exact h.elim
theorem sk_lload {i : Nat} (hd : decode (mC t) pc = .ok (.lload i, 2)) (h : wpLdL nx L M i st) (hn : nxOK ev k d t Q nx (pc + 2)) : AW ev k d t Q pc L st M := by
  unfold wpLdL at h
  split at h
  · rename_i x hg
    intro p e s m args below meth c hc H locs ls hP hS hl
    refine lv_lload hc.1 hc.2.1 hd (hl.at hg) ?_
    exact hn _ _ _ h p e s m args below meth c hc H locs ls hP hS hl
  · exact h.elim
theorem sk_istore_n {i : Fin 4} (hd : decode (mC t) pc = .ok (.istore_n i, 1)) (h : wpStI t nx L M i.val st) (hn : nxOK ev k d t Q nx (pc + 1)) : AW ev k d t Q pc L st M := by
  unfold wpStI at h
  split at h
  · rename_i x st'
    intro p e s m args below meth c hc H locs ls hP hS hl
    refine lv_istore_n (x := Int32.ofInt x) hc.1 hc.2.1 hd rfl hl h.1 rfl (fun ls' hl' => ?_)
    exact hn _ _ _ h.2 p e s m args below meth c hc H locs ls' hP hS (LH.st1 (v := vI x) hl')
  · exact h.elim
theorem sk_istore {i : Nat} (hd : decode (mC t) pc = .ok (.istore i, 2)) (h : wpStI t nx L M i st) (hn : nxOK ev k d t Q nx (pc + 2)) : AW ev k d t Q pc L st M := by
  unfold wpStI at h
  split at h
  · rename_i x st'
    intro p e s m args below meth c hc H locs ls hP hS hl
    refine lv_istore (x := Int32.ofInt x) hc.1 hc.2.1 hd hl h.1 rfl (fun ls' hl' => ?_)
    exact hn _ _ _ h.2 p e s m args below meth c hc H locs ls' hP hS (LH.st1 (v := vI x) hl')
  · exact h.elim
theorem sk_lstore_n {i : Fin 4} (hd : decode (mC t) pc = .ok (.lstore_n i, 1)) (h : wpStL t nx L M i.val st) (hn : nxOK ev k d t Q nx (pc + 1)) : AW ev k d t Q pc L st M := by
  unfold wpStL at h
  split at h
  · rename_i x st'
    intro p e s m args below meth c hc H locs ls hP hS hl
    refine lv_lstore_n (x := Int64.ofInt x) hc.1 hc.2.1 hd rfl hl h.1 rfl (fun ls' hl' => ?_)
    exact hn _ _ _ h.2 p e s m args below meth c hc H locs ls' hP hS (LH.st2 (v := vL x) hl')
  · exact h.elim
theorem sk_lstore {i : Nat} (hd : decode (mC t) pc = .ok (.lstore i, 2)) (h : wpStL t nx L M i st) (hn : nxOK ev k d t Q nx (pc + 2)) : AW ev k d t Q pc L st M := by
  unfold wpStL at h
  split at h
  · rename_i x st'
    intro p e s m args below meth c hc H locs ls hP hS hl
    refine lv_lstore (x := Int64.ofInt x) hc.1 hc.2.1 hd hl h.1 rfl (fun ls' hl' => ?_)
    exact hn _ _ _ h.2 p e s m args below meth c hc H locs ls' hP hS (LH.st2 (v := vL x) hl')
  · exact h.elim
theorem sk_iinc {i : Nat} {n : Int} (hd : decode (mC t) pc = .ok (.iinc i n, 3)) (h : wpInc t nx L M i n st) (hn : nxOK ev k d t Q nx (pc + 3)) : AW ev k d t Q pc L st M := by
  unfold wpInc at h
  split at h
  · rename_i x hg
    intro p e s m args below meth c hc H locs ls hP hS hl
    obtain ⟨q, hq⟩ := List.getElem?_of_mem ((asc_mem (eA ev) L 0 (i, .int (Int32.ofInt x))).mpr ⟨i, vI x, hg, by rw [Nat.zero_add]; rfl⟩)
    refine lv_iinc (v := Int32.ofInt (x + n)) (k := q) hc.1 hc.2.1 hd hl hq (by rw [Int32.ofInt_add]) h.1 rfl (fun ls' hl' => ?_)
    exact hn _ _ _ h.2 p e s m args below meth c hc H locs ls' hP hS (LH.st1 (v := vI (x + n)) hl')
  · exact h.elim
theorem sk_iadd (hd : decode (mC t) pc = .ok (.iadd, 1)) (h : wpBin nx L M (fun x y => x + y) st) (hn : nxOK ev k d t Q nx (pc + 1)) : AW ev k d t Q pc L st M := by
  unfold wpBin at h
  split at h
  · rename_i y x st'
    intro p e s m args below meth c hc H locs ls hP hS hl
    refine lv_iadd (x := Int32.ofInt x) (y := Int32.ofInt y) hc.1 hc.2.1 hd ?_
    rw [← Int32.ofInt_add]
    exact hn _ _ _ h p e s m args below meth c hc H locs ls hP hS hl
  · exact h.elim
theorem sk_isub (hd : decode (mC t) pc = .ok (.isub, 1)) (h : wpBin nx L M (fun x y => x - y) st) (hn : nxOK ev k d t Q nx (pc + 1)) : AW ev k d t Q pc L st M := by
  unfold wpBin at h
  split at h
  · rename_i y x st'
    intro p e s m args below meth c hc H locs ls hP hS hl
    refine lv_isub (x := Int32.ofInt x) (y := Int32.ofInt y) hc.1 hc.2.1 hd ?_
    rw [← Int32.ofInt_sub]
    exact hn _ _ _ h p e s m args below meth c hc H locs ls hP hS hl
  · exact h.elim
theorem sk_imul (hd : decode (mC t) pc = .ok (.imul, 1)) (h : wpBin nx L M (fun x y => x * y) st) (hn : nxOK ev k d t Q nx (pc + 1)) : AW ev k d t Q pc L st M := by
  unfold wpBin at h
  split at h
  · rename_i y x st'
    intro p e s m args below meth c hc H locs ls hP hS hl
    refine lv_imul (x := Int32.ofInt x) (y := Int32.ofInt y) hc.1 hc.2.1 hd ?_
    rw [← Int32.ofInt_mul]
    exact hn _ _ _ h p e s m args below meth c hc H locs ls hP hS hl
  · exact h.elim
theorem sk_iand (hd : decode (mC t) pc = .ok (.iand, 1)) (h : wpBin nx L M iandI st) (hn : nxOK ev k d t Q nx (pc + 1)) : AW ev k d t Q pc L st M := by
  unfold wpBin at h
  split at h
  · rename_i y x st'
    intro p e s m args below meth c hc H locs ls hP hS hl
    refine lv_iand (x := Int32.ofInt x) (y := Int32.ofInt y) hc.1 hc.2.1 hd ?_
    rw [← Int32.ofInt_toInt (Int32.ofInt x &&& Int32.ofInt y)]
    exact hn _ _ _ h p e s m args below meth c hc H locs ls hP hS hl
  · exact h.elim
theorem sk_ior (hd : decode (mC t) pc = .ok (.ior, 1)) (h : wpBin nx L M iorI st) (hn : nxOK ev k d t Q nx (pc + 1)) : AW ev k d t Q pc L st M := by
  unfold wpBin at h
  split at h
  · rename_i y x st'
    intro p e s m args below meth c hc H locs ls hP hS hl
    refine lv_ior (x := Int32.ofInt x) (y := Int32.ofInt y) hc.1 hc.2.1 hd ?_
    rw [← Int32.ofInt_toInt (Int32.ofInt x ||| Int32.ofInt y)]
    exact hn _ _ _ h p e s m args below meth c hc H locs ls hP hS hl
  · exact h.elim
theorem sk_ishl (hd : decode (mC t) pc = .ok (.ishl, 1)) (h : wpBin nx L M ishlI st) (hn : nxOK ev k d t Q nx (pc + 1)) : AW ev k d t Q pc L st M := by
  unfold wpBin at h
  split at h
  · rename_i y x st'
    intro p e s m args below meth c hc H locs ls hP hS hl
    refine lv_ishl (x := Int32.ofInt x) (y := Int32.ofInt y) hc.1 hc.2.1 hd ?_
    rw [← Int32.ofInt_toInt (Int32.ofInt x <<< (Int32.ofInt y &&& 31))]
    exact hn _ _ _ h p e s m args below meth c hc H locs ls hP hS hl
  · exact h.elim
theorem sk_ishr (hd : decode (mC t) pc = .ok (.ishr, 1)) (h : wpBin nx L M ishrI st) (hn : nxOK ev k d t Q nx (pc + 1)) : AW ev k d t Q pc L st M := by
  unfold wpBin at h
  split at h
  · rename_i y x st'
    intro p e s m args below meth c hc H locs ls hP hS hl
    refine lv_ishr (x := Int32.ofInt x) (y := Int32.ofInt y) hc.1 hc.2.1 hd ?_
    rw [← Int32.ofInt_toInt (Int32.ofInt x >>> (Int32.ofInt y &&& 31))]
    exact hn _ _ _ h p e s m args below meth c hc H locs ls hP hS hl
  · exact h.elim
theorem sk_iushr (hd : decode (mC t) pc = .ok (.iushr, 1)) (h : wpBin nx L M iushrI st) (hn : nxOK ev k d t Q nx (pc + 1)) : AW ev k d t Q pc L st M := by
  unfold wpBin at h
  split at h
  · rename_i y x st'
    intro p e s m args below meth c hc H locs ls hP hS hl
    refine lv_iushr (x := Int32.ofInt x) (y := Int32.ofInt y) (v := Int32.ofInt (iushrI x y)) hc.1 hc.2.1 hd (by unfold iushrI; rw [Int32.ofInt_toInt]) ?_
    exact hn _ _ _ h p e s m args below meth c hc H locs ls hP hS hl
  · exact h.elim
theorem sk_idiv (hd : decode (mC t) pc = .ok (.idiv, 1)) (h : wpDiv nx L M (fun x y => x / y) st) (hn : nxOK ev k d t Q nx (pc + 1)) : AW ev k d t Q pc L st M := by
  unfold wpDiv at h
  split at h
  · rename_i y x st'
    obtain ⟨⟨⟨h0, h1⟩, h2, h3⟩, h⟩ := h
    intro p e s m args below meth c hc H locs ls hP hS hl
    refine lv_idiv (x := Int32.ofInt x) (y := Int32.ofInt y) hc.1 hc.2.1 hd (fun q => ?_) ?_
    · have := (oI_eq (x := y) (y := 0) ⟨by omega, by omega⟩ ⟨by omega, by omega⟩).mp q
      omega
    · rw [oI_div h0 h1 h2 h3]
      exact hn _ _ _ h p e s m args below meth c hc H locs ls hP hS hl
  · exact h.elim
theorem sk_irem (hd : decode (mC t) pc = .ok (.irem, 1)) (h : wpDiv nx L M (fun x y => x % y) st) (hn : nxOK ev k d t Q nx (pc + 1)) : AW ev k d t Q pc L st M := by
  unfold wpDiv at h
  split at h
  · rename_i y x st'
    obtain ⟨⟨⟨h0, h1⟩, h2, h3⟩, h⟩ := h
    intro p e s m args below meth c hc H locs ls hP hS hl
    refine lv_irem (x := Int32.ofInt x) (y := Int32.ofInt y) hc.1 hc.2.1 hd (fun q => ?_) ?_
    · have := (oI_eq (x := y) (y := 0) ⟨by omega, by omega⟩ ⟨by omega, by omega⟩).mp q
      omega
    · rw [oI_rem h0 h1 h2 h3]
      exact hn _ _ _ h p e s m args below meth c hc H locs ls hP hS hl
  · exact h.elim
theorem sk_ineg (hd : decode (mC t) pc = .ok (.ineg, 1)) (h : wpNeg nx L M st) (hn : nxOK ev k d t Q nx (pc + 1)) : AW ev k d t Q pc L st M := by
  unfold wpNeg at h
  split at h
  · rename_i x st'
    intro p e s m args below meth c hc H locs ls hP hS hl
    refine lv_ineg (x := Int32.ofInt x) hc.1 hc.2.1 hd ?_
    rw [← Int32.ofInt_neg]
    exact hn _ _ _ h p e s m args below meth c hc H locs ls hP hS hl
  · exact h.elim
theorem sk_ladd (hd : decode (mC t) pc = .ok (.ladd, 1)) (h : wpBinL nx L M (fun x y => x + y) st) (hn : nxOK ev k d t Q nx (pc + 1)) : AW ev k d t Q pc L st M := by
  unfold wpBinL at h
  split at h
  · rename_i y x st'
    intro p e s m args below meth c hc H locs ls hP hS hl
    refine lv_ladd (x := Int64.ofInt x) (y := Int64.ofInt y) hc.1 hc.2.1 hd ?_
    rw [← Int64.ofInt_add]
    exact hn _ _ _ h p e s m args below meth c hc H locs ls hP hS hl
  · exact h.elim
theorem sk_lmul (hd : decode (mC t) pc = .ok (.lmul, 1)) (h : wpBinL nx L M (fun x y => x * y) st) (hn : nxOK ev k d t Q nx (pc + 1)) : AW ev k d t Q pc L st M := by
  unfold wpBinL at h
  split at h
  · rename_i y x st'
    intro p e s m args below meth c hc H locs ls hP hS hl
    refine lv_lmul (x := Int64.ofInt x) (y := Int64.ofInt y) hc.1 hc.2.1 hd ?_
    rw [← Int64.ofInt_mul]
    exact hn _ _ _ h p e s m args below meth c hc H locs ls hP hS hl
  · exact h.elim
theorem sk_i2l (hd : decode (mC t) pc = .ok (.i2l, 1)) (h : wpI2l nx L M st) (hn : nxOK ev k d t Q nx (pc + 1)) : AW ev k d t Q pc L st M := by
  unfold wpI2l at h
  split at h
  · rename_i x st'
    intro p e s m args below meth c hc H locs ls hP hS hl
    refine lv_i2l (x := Int32.ofInt x) (v := Int64.ofInt x) hc.1 hc.2.1 hd (oI_l h.1) ?_
    exact hn _ _ _ h.2 p e s m args below meth c hc H locs ls hP hS hl
  · exact h.elim
theorem sk_icmp_eq {off : Int} (ho : 0 ≤ (pc : Int) + off) (hd : decode (mC t) pc = .ok (.if_icmp .eq off, 3)) (h : wpIf2 K nx pc L M .eq off st) (hn : nxOK ev k d t Q nx (pc + 3)) (hK : kOK ev k d t Q K) : AW ev k d t Q pc L st M := by
  unfold wpIf2 at h
  split at h
  · rename_i y x st'
    obtain ⟨⟨hx, hy⟩, h1, h2⟩ := h
    intro p e s m args below meth c hc H locs ls hP hS hl
    refine lv_icmp_eq (x := Int32.ofInt x) (y := Int32.ofInt y) (tgt := tgt pc off) hc.1 hc.2.1 hd (tgt_ok ho) (fun q => ?_) (fun q => ?_)
    · exact hK _ _ _ _ (h1 ((oI_eq hx hy).mp q)) p e s m args below meth c hc H locs ls hP hS hl
    · exact hn _ _ _ (h2 (fun r => q ((oI_eq hx hy).mpr r))) p e s m args below meth c hc H locs ls hP hS hl
  · exact h.elim
theorem sk_if_eq {off : Int} (ho : 0 ≤ (pc : Int) + off) (hd : decode (mC t) pc = .ok (.ifCond .eq off, 3)) (h : wpIf1 K nx pc L M .eq off st) (hn : nxOK ev k d t Q nx (pc + 3)) (hK : kOK ev k d t Q K) : AW ev k d t Q pc L st M := by
  unfold wpIf1 at h
  split at h
  · rename_i x st'
    obtain ⟨hx, h1, h2⟩ := h
    have hy : Inr 0 := ⟨by omega, by omega⟩
    intro p e s m args below meth c hc H locs ls hP hS hl
    refine lv_if_eq (x := Int32.ofInt x) (tgt := tgt pc off) hc.1 hc.2.1 hd (tgt_ok ho) (fun q => ?_) (fun q => ?_)
    · exact hK _ _ _ _ (h1 ((oI_eq hx hy).mp q)) p e s m args below meth c hc H locs ls hP hS hl
    · exact hn _ _ _ (h2 (fun r => q ((oI_eq hx hy).mpr r))) p e s m args below meth c hc H locs ls hP hS hl
  · exact h.elim
theorem sk_icmp_ne {off : Int} (ho : 0 ≤ (pc : Int) + off) (hd : decode (mC t) pc = .ok (.if_icmp .ne off, 3)) (h : wpIf2 K nx pc L M .ne off st) (hn : nxOK ev k d t Q nx (pc + 3)) (hK : kOK ev k d t Q K) : AW ev k d t Q pc L st M := by
  unfold wpIf2 at h
  split at h
  · rename_i y x st'
    obtain ⟨⟨hx, hy⟩, h1, h2⟩ := h
    intro p e s m args below meth c hc H locs ls hP hS hl
    refine lv_icmp_ne (x := Int32.ofInt x) (y := Int32.ofInt y) (tgt := tgt pc off) hc.1 hc.2.1 hd (tgt_ok ho) (fun q => ?_) (fun q => ?_)
    · exact hK _ _ _ _ (h1 (fun r => q ((oI_eq hx hy).mpr r))) p e s m args below meth c hc H locs ls hP hS hl
    · exact hn _ _ _ (h2 (fun r => r ((oI_eq hx hy).mp q))) p e s m args below meth c hc H locs ls hP hS hl
  · exact h.elim
theorem sk_if_ne {off : Int} (ho : 0 ≤ (pc : Int) + off) (hd : decode (mC t) pc = .ok (.ifCond .ne off, 3)) (h : wpIf1 K nx pc L M .ne off st) (hn : nxOK ev k d t Q nx (pc + 3)) (hK : kOK ev k d t Q K) : AW ev k d t Q pc L st M := by
  unfold wpIf1 at h
  split at h
  · rename_i x st'
    obtain ⟨hx, h1, h2⟩ := h
    have hy : Inr 0 := ⟨by omega, by omega⟩
    intro p e s m args below meth c hc H locs ls hP hS hl
    refine lv_if_ne (x := Int32.ofInt x) (tgt := tgt pc off) hc.1 hc.2.1 hd (tgt_ok ho) (fun q => ?_) (fun q => ?_)
    · exact hK _ _ _ _ (h1 (fun r => q ((oI_eq hx hy).mpr r))) p e s m args below meth c hc H locs ls hP hS hl
    · exact hn _ _ _ (h2 (fun r => r ((oI_eq hx hy).mp q))) p e s m args below meth c hc H locs ls hP hS hl
  · exact h.elim
theorem sk_icmp_lt {off : Int} (ho : 0 ≤ (pc : Int) + off) (hd : decode (mC t) pc = .ok (.if_icmp .lt off, 3)) (h : wpIf2 K nx pc L M .lt off st) (hn : nxOK ev k d t Q nx (pc + 3)) (hK : kOK ev k d t Q K) : AW ev k d t Q pc L st M := by
  unfold wpIf2 at h
  split at h
  · rename_i y x st'
    obtain ⟨⟨hx, hy⟩, h1, h2⟩ := h
    intro p e s m args below meth c hc H locs ls hP hS hl
    refine lv_icmp_lt (x := Int32.ofInt x) (y := Int32.ofInt y) (tgt := tgt pc off) hc.1 hc.2.1 hd (tgt_ok ho) (fun q => ?_) (fun q => ?_)
    · exact hK _ _ _ _ (h1 ((oI_lt hx hy).mp q)) p e s m args below meth c hc H locs ls hP hS hl
    · exact hn _ _ _ (h2 (fun r => q ((oI_lt hx hy).mpr r))) p e s m args below meth c hc H locs ls hP hS hl
  · exact h.elim
theorem sk_if_lt {off : Int} (ho : 0 ≤ (pc : Int) + off) (hd : decode (mC t) pc = .ok (.ifCond .lt off, 3)) (h : wpIf1 K nx pc L M .lt off st) (hn : nxOK ev k d t Q nx (pc + 3)) (hK : kOK ev k d t Q K) : AW ev k d t Q pc L st M := by
  unfold wpIf1 at h
  split at h
  · rename_i x st'
    obtain ⟨hx, h1, h2⟩ := h
    have hy : Inr 0 := ⟨by omega, by omega⟩
    intro p e s m args below meth c hc H locs ls hP hS hl
    refine lv_if_lt (x := Int32.ofInt x) (tgt := tgt pc off) hc.1 hc.2.1 hd (tgt_ok ho) (fun q => ?_) (fun q => ?_)
    · exact hK _ _ _ _ (h1 ((oI_lt hx hy).mp q)) p e s m args below meth c hc H locs ls hP hS hl
    · exact hn _ _ _ (h2 (fun r => q ((oI_lt hx hy).mpr r))) p e s m args below meth c hc H locs ls hP hS hl
  · exact h.elim
theorem sk_icmp_ge {off : Int} (ho : 0 ≤ (pc : Int) + off) (hd : decode (mC t) pc = .ok (.if_icmp .ge off, 3)) (h : wpIf2 K nx pc L M .ge off st) (hn : nxOK ev k d t Q nx (pc + 3)) (hK : kOK ev k d t Q K) : AW ev k d t Q pc L st M := by
  unfold wpIf2 at h
  split at h
  · rename_i y x st'
    obtain ⟨⟨hx, hy⟩, h1, h2⟩ := h
    intro p e s m args below meth c hc H locs ls hP hS hl
    refine lv_icmp_ge (x := Int32.ofInt x) (y := Int32.ofInt y) (tgt := tgt pc off) hc.1 hc.2.1 hd (tgt_ok ho) (fun q => ?_) (fun q => ?_)
    · exact hK _ _ _ _ (h1 ((oI_le hy hx).mp q)) p e s m args below meth c hc H locs ls hP hS hl
    · exact hn _ _ _ (h2 (fun r => q ((oI_le hy hx).mpr r))) p e s m args below meth c hc H locs ls hP hS hl
  · exact h.elim
theorem sk_if_ge {off : Int} (ho : 0 ≤ (pc : Int) + off) (hd : decode (mC t) pc = .ok (.ifCond .ge off, 3)) (h : wpIf1 K nx pc L M .ge off st) (hn : nxOK ev k d t Q nx (pc + 3)) (hK : kOK ev k d t Q K) : AW ev k d t Q pc L st M := by
  unfold wpIf1 at h
  split at h
  · rename_i x st'
    obtain ⟨hx, h1, h2⟩ := h
    have hy : Inr 0 := ⟨by omega, by omega⟩
    intro p e s m args below meth c hc H locs ls hP hS hl
    refine lv_if_ge (x := Int32.ofInt x) (tgt := tgt pc off) hc.1 hc.2.1 hd (tgt_ok ho) (fun q => ?_) (fun q => ?_)
    · exact hK _ _ _ _ (h1 ((oI_le hy hx).mp q)) p e s m args below meth c hc H locs ls hP hS hl
    · exact hn _ _ _ (h2 (fun r => q ((oI_le hy hx).mpr r))) p e s m args below meth c hc H locs ls hP hS hl
  · exact h.elim
theorem sk_icmp_gt {off : Int} (ho : 0 ≤ (pc : Int) + off) (hd : decode (mC t) pc = .ok (.if_icmp .gt off, 3)) (h : wpIf2 K nx pc L M .gt off st) (hn : nxOK ev k d t Q nx (pc + 3)) (hK : kOK ev k d t Q K) : AW ev k d t Q pc L st M := by
  unfold wpIf2 at h
  split at h
  · rename_i y x st'
    obtain ⟨⟨hx, hy⟩, h1, h2⟩ := h
    intro p e s m args below meth c hc H locs ls hP hS hl
    refine lv_icmp_gt (x := Int32.ofInt x) (y := Int32.ofInt y) (tgt := tgt pc off) hc.1 hc.2.1 hd (tgt_ok ho) (fun q => ?_) (fun q => ?_)
    · exact hK _ _ _ _ (h1 ((oI_lt hy hx).mp q)) p e s m args below meth c hc H locs ls hP hS hl
    · exact hn _ _ _ (h2 (fun r => q ((oI_lt hy hx).mpr r))) p e s m args below meth c hc H locs ls hP hS hl
  · exact h.elim
theorem sk_if_gt {off : Int} (ho : 0 ≤ (pc : Int) + off) (hd : decode (mC t) pc = .ok (.ifCond .gt off, 3)) (h : wpIf1 K nx pc L M .gt off st) (hn : nxOK ev k d t Q nx (pc + 3)) (hK : kOK ev k d t Q K) : AW ev k d t Q pc L st M := by
  unfold wpIf1 at h
  split at h
  · rename_i x st'
    obtain ⟨hx, h1, h2⟩ := h
    have hy : Inr 0 := ⟨by omega, by omega⟩
    intro p e s m args below meth c hc H locs ls hP hS hl
    refine lv_if_gt (x := Int32.ofInt x) (tgt := tgt pc off) hc.1 hc.2.1 hd (tgt_ok ho) (fun q => ?_) (fun q => ?_)
    · exact hK _ _ _ _ (h1 ((oI_lt hy hx).mp q)) p e s m args below meth c hc H locs ls hP hS hl
    · exact hn _ _ _ (h2 (fun r => q ((oI_lt hy hx).mpr r))) p e s m args below meth c hc H locs ls hP hS hl
  · exact h.elim
theorem sk_icmp_le {off : Int} (ho : 0 ≤ (pc : Int) + off) (hd : decode (mC t) pc = .ok (.if_icmp .le off, 3)) (h : wpIf2 K nx pc L M .le off st) (hn : nxOK ev k d t Q nx (pc + 3)) (hK : kOK ev k d t Q K) : AW ev k d t Q pc L st M := by
  unfold wpIf2 at h
  split at h
  · rename_i y x st'
    obtain ⟨⟨hx, hy⟩, h1, h2⟩ := h
    intro p e s m args below meth c hc H locs ls hP hS hl
    refine lv_icmp_le (x := Int32.ofInt x) (y := Int32.ofInt y) (tgt := tgt pc off) hc.1 hc.2.1 hd (tgt_ok ho) (fun q => ?_) (fun q => ?_)
    · exact hK _ _ _ _ (h1 ((oI_le hx hy).mp q)) p e s m args below meth c hc H locs ls hP hS hl
    · exact hn _ _ _ (h2 (fun r => q ((oI_le hx hy).mpr r))) p e s m args below meth c hc H locs ls hP hS hl
  · exact h.elim
theorem sk_if_le {off : Int} (ho : 0 ≤ (pc : Int) + off) (hd : decode (mC t) pc = .ok (.ifCond .le off, 3)) (h : wpIf1 K nx pc L M .le off st) (hn : nxOK ev k d t Q nx (pc + 3)) (hK : kOK ev k d t Q K) : AW ev k d t Q pc L st M := by
  unfold wpIf1 at h
  split at h
  · rename_i x st'
    obtain ⟨hx, h1, h2⟩ := h
    have hy : Inr 0 := ⟨by omega, by omega⟩
    intro p e s m args below meth c hc H locs ls hP hS hl
    refine lv_if_le (x := Int32.ofInt x) (tgt := tgt pc off) hc.1 hc.2.1 hd (tgt_ok ho) (fun q => ?_) (fun q => ?_)
    · exact hK _ _ _ _ (h1 ((oI_le hx hy).mp q)) p e s m args below meth c hc H locs ls hP hS hl
    · exact hn _ _ _ (h2 (fun r => q ((oI_le hx hy).mpr r))) p e s m args below meth c hc H locs ls hP hS hl
  · exact h.elim
theorem sk_goto {off : Int} (ho : 0 ≤ (pc : Int) + off) (hd : decode (mC t) pc = .ok (.goto off, 3)) (h : K (tgt pc off) L st M) (hK : kOK ev k d t Q K) : AW ev k d t Q pc L st M := by
  intro p e s m args below meth c hc H locs ls hP hS hl
  refine lv_goto (tgt := tgt pc off) hc.1 hc.2.1 hd (tgt_ok ho) ?_
  exact hK _ _ _ _ h p e s m args below meth c hc H locs ls hP hS hl
theorem sk_sw {a lo hi : Int} {offs : Array Int} {len : Nat} (ho : 0 ≤ (pc : Int) + a) (ho2 : ∀ q ∈ offs.toList, 0 ≤ (pc : Int) + q) (hd : decode (mC t) pc = .ok (.tableswitch a lo hi offs, len)) (hlen : hi - lo < offs.size) (h : wpSw K pc L M a lo hi offs st) (hK : kOK ev k d t Q K) : AW ev k d t Q pc L st M := by
  unfold wpSw at h
  split at h
  · rename_i x st'
    obtain ⟨hx, h⟩ := h
    intro p e s m args below meth c hc H locs ls hP hS hl
    unfold tsw at h
    by_cases hb : x < lo ∨ hi < x
    · rw [if_pos hb] at h
      refine lv_tableOut (x := Int32.ofInt x) (tgt := tgt pc a) hc.1 hc.2.1 hd (by rw [oI_toInt hx]; exact hb) (tgt_ok ho) ?_
      exact hK _ _ _ _ h p e s m args below meth c hc H locs ls hP hS hl
    · rw [if_neg hb] at h
      have h1 : ¬ x < lo := fun q => hb (Or.inl q)
      have h2 : ¬ hi < x := fun q => hb (Or.inr q)
      have hlt : (x - lo).toNat < offs.size := by omega
      have hg : offs[(x - lo).toNat]? = some offs[(x - lo).toNat] := Array.getElem?_eq_getElem hlt
      rw [nth_eq, Array.getElem?_toList, hg] at h
      refine lv_tableIn (x := Int32.ofInt x) (off := offs[(x - lo).toNat]) (tgt := tgt pc offs[(x - lo).toNat]) hc.1 hc.2.1 hd (by rw [oI_toInt hx]; exact h1) (by rw [oI_toInt hx]; exact h2) (by rw [oI_toInt hx]; exact hg) (tgt_ok (ho2 _ (Array.getElem_mem_toList hlt))) ?_
      exact hK _ _ _ _ h p e s m args below meth c hc H locs ls hP hS hl
  · exact h.elim
theorem fk_lt : ∀ e ∈ fkL, e.1 < 47 ∧ (∃ q, vwCl[e.2.1]? = some q ∧ e.2.2.length = q.2.2) := by
  have h : (fkL.all fun e => decide (e.1 < 47) && (match vwCl[e.2.1]? with | some q => Nat.beq e.2.2.length q.2.2 | none => false)) = true := by decide +kernel
  intro e he
  have h1 := List.all_eq_true.mp h e he
  rw [Bool.and_eq_true] at h1
  refine ⟨of_decide_eq_true h1.1, ?_⟩
  have h2 := h1.2
  cases hq : vwCl[e.2.1]? with
  | none => rw [hq] at h2; cases h2
  | some q => rw [hq] at h2; exact ⟨q, rfl, Nat.eq_of_beq_eq_true h2⟩
theorem ak_lt : ∀ e ∈ akL, e.1 < 47 ∧ alk fkL e.1 = none ∧ e.2.2 < 2147483648 := by
  have h : (akL.all fun e => decide (e.1 < 47) && (match alk fkL e.1 with | some _ => false | none => true) && Nat.blt e.2.2 2147483648) = true := by decide +kernel
  intro e he
  have h1 := List.all_eq_true.mp h e he
  rw [Bool.and_eq_true, Bool.and_eq_true] at h1
  refine ⟨of_decide_eq_true h1.1.1, ?_, Nat.le_of_ble_eq_true h1.2⟩
  have h2 := h1.1.2
  cases hq : alk fkL e.1 with
  | none => rfl
  | some q => rw [hq] at h2; cases h2
theorem tyAll : ∀ (ci : Nat) (q : vw_C), vwCl[ci]? = some q → (∀ a, a < q.2.2 → ∀ b, b < q.2.2 → a ≠ b → (q.2.1 a).2.1 ≠ (q.2.1 b).2.1) ∧ ∃ ty : Nat → FieldType, ∀ j, j < q.2.2 → parseFieldDescriptor (q.2.1 j).2.2.1 = some (ty j) := by
  intro ci q h
  match ci, h with
  | 0, h => cases h; exact ⟨nmX0, tyX0, tyX0_ok⟩
  | 1, h => cases h; exact ⟨nmX1, tyX1, tyX1_ok⟩
  | 2, h => cases h; exact ⟨nmX2, tyX2, tyX2_ok⟩
  | 3, h => cases h; exact ⟨nmX3, tyX3, tyX3_ok⟩
  | 4, h => cases h; exact ⟨nmX4, tyX4, tyX4_ok⟩
  | 5, h => cases h; exact ⟨nmX5, tyX5, tyX5_ok⟩
  | 6, h => cases h; exact ⟨nmX6, tyX6, tyX6_ok⟩
  | 7, h => cases h; exact ⟨nmX7, tyX7, tyX7_ok⟩
  | 8, h => cases h; exact ⟨nmX8, tyX8, tyX8_ok⟩
  | k + 9, h => simp [vwCl] at h
/-- the fields that are numbers are not final, and of the type that their kind says -/
theorem fk_ty : ∀ e ∈ fkL, ∀ q, vwCl[e.2.1]? = some q → ∀ j f, e.2.2[j]? = some f → (f.1 = 0 → (q.2.1 j).2.2.2 = false ∧ parseFieldDescriptor (q.2.1 j).2.2.1 = some .int) ∧ (f.1 = 3 → (q.2.1 j).2.2.2 = false ∧ parseFieldDescriptor (q.2.1 j).2.2.1 = some .boolean) ∧ (f.1 = 2 → (q.2.1 j).2.2.2 = false ∧ parseFieldDescriptor (q.2.1 j).2.2.1 = some .long) := by
  have h : (fkL.all fun e => match vwCl[e.2.1]? with
    | none => true
    | some q => (List.range e.2.2.length).all fun j => match e.2.2[j]? with
      | none => true
      | some f => (!(Nat.beq f.1 0) || (decide ((q.2.1 j).2.2.2 = false) && decide (parseFieldDescriptor (q.2.1 j).2.2.1 = some .int))) && ((!(Nat.beq f.1 3) || (decide ((q.2.1 j).2.2.2 = false) && decide (parseFieldDescriptor (q.2.1 j).2.2.1 = some .boolean))) && (!(Nat.beq f.1 2) || (decide ((q.2.1 j).2.2.2 = false) && decide (parseFieldDescriptor (q.2.1 j).2.2.1 = some .long))))) = true := by decide +kernel
  intro e he q hq j f hf
  have h1 := List.all_eq_true.mp h e he
  rw [hq] at h1
  have hj : j < e.2.2.length := (List.getElem?_eq_some_iff.mp hf).1
  have h2 := List.all_eq_true.mp h1 j (List.mem_range.mpr hj)
  rw [hf] at h2
  simp only [Bool.and_eq_true, Bool.or_eq_true, Bool.not_eq_true', decide_eq_true_eq] at h2
  obtain ⟨h3, h4, h5⟩ := h2
  refine ⟨fun q => ?_, fun q => ?_, fun q => ?_⟩
  · rcases h3 with h | h
    · rw [q] at h; cases h
    · exact h
  · rcases h4 with h | h
    · rw [q] at h; cases h
    · exact h
  · rcases h5 with h | h
    · rw [q] at h; cases h
    · exact h
theorem cellE_obj {ev : Ev} {M : Mem} {a : Nat} {q : Nat × List (Nat × Nat)} (h : alk fkL a = some q) : cellE ev M a = .inr (q.1, fvs (eA ev) M a 0 q.2) := by
  unfold cellE; rw [h]
theorem cellE_arr0 {ev : Ev} {M : Mem} {a n : Nat} (h : alk akL a = some (0, n)) : cellE ev M a = .inl ((eY ev).1, n, .inl (fun i => Int32.ofInt (M a (i : Int)))) := by
  unfold cellE; rw [(ak_lt _ (alk_mem h)).2.1, h]; rfl
theorem cellE_arr1 {ev : Ev} {M : Mem} {a n : Nat} (h : alk akL a = some (1, n)) : cellE ev M a = .inl ((eY ev).2.1, n, .inl (fun i => Int32.ofInt (M a (i : Int)))) := by
  unfold cellE; rw [(ak_lt _ (alk_mem h)).2.1, h]; rfl
theorem cellE_arr2 {ev : Ev} {M : Mem} {a n : Nat} (h : alk akL a = some (2, n)) : cellE ev M a = .inl ((eY ev).2.2, n, .inr (.inl (fun i => Int64.ofInt (M a (i : Int))))) := by
  unfold cellE; rw [(ak_lt _ (alk_mem h)).2.1, h]; rfl
theorem sk_getf {i : Nat} (wsAll : ∀ (ci : Nat) (q : vw_C), vwCl[ci]? = some q → ∀ w ∈ u_ws q.1 q.2.1 q.2.2, w ∈ lw_big) (hd : decode (mC t) pc = .ok (.getfield i, 3)) (h : wpGet t nx L M i st) (hn : nxOK ev k d t Q nx (pc + 3)) : AW ev k d t Q pc L st M := by
  unfold wpGet at h
  split at h
  · rename_i a st'
    split at h
    · rename_i e' he
      split at h
      · rename_i q hq
        cases hb : Nat.beq q.1 e'.1 with
        | false => rw [hb] at h; exact h.elim
        | true =>
          rw [hb] at h
          have hqe : q.1 = e'.1 := Nat.eq_of_beq_eq_true hb
          replace h : (match nth q.2 e'.2 with | some f => nx L (fAV M a e'.2 f :: st') M | none => False) := h
          split at h
          · rename_i f hf
            rw [nth_eq] at hf
            intro p e s m args below meth c hc H locs ls hP hS hl
            obtain ⟨hlt, r, hr, hrl⟩ := fk_lt _ (alk_mem hq)
            obtain ⟨C, T, N⟩ := r
            obtain ⟨hj, hlink⟩ := hc.2.2.2.2.2.2.2.2.2.1 _ (alk_mem he) (C, T, N) (by rw [← hqe]; exact hr)
            have hev := hc.2.2.2.2.2.2.2.2.1
            refine va_get (D := eD ev) (cl := vwCl) (tys := tyT ev) (ws := wd ev M) (ref := (T e'.2).1) (C := C) (T := T) (N := N) (ci := q.1) (fs := fvs (eA ev) M a 0 q.2) (v := cv (eA ev) (fAV M a e'.2 f)) hc.1 hc.2.1 hc.2.2.2.2.2.2.1 (wsAll _ _ hr) hc.2.2.2.2.2.1 hev.2.1 hP a (by rw [wd_get ev M hlt, cellE_obj hq]) hr e'.2 hj (hc.2.2.2.2.2.2.1 _ hlink) (fun _ h9 => h9) (by rw [fvs_get, hf, Nat.zero_add]; rfl) hd ?_
            exact hn _ _ _ h p e s m args below meth c hc H locs ls hP hS hl
          · exact h.elim
      · exact h.elim
    · exact h.elim
  · exact h.elim
theorem sk_putf {i : Nat} (wsAll : ∀ (ci : Nat) (q : vw_C), vwCl[ci]? = some q → ∀ w ∈ u_ws q.1 q.2.1 q.2.2, w ∈ lw_big) (hd : decode (mC t) pc = .ok (.putfield i, 3)) (h : wpPut t nx L M i st) (hn : nxOK ev k d t Q nx (pc + 3)) : AW ev k d t Q pc L st M := by
  unfold wpPut at h
  split at h
  · rename_i v a st'
    split at h
    · rename_i e' he
      split at h
      · rename_i q hq
        cases hb : Nat.beq q.1 e'.1 with
        | false => rw [hb] at h; exact h.elim
        | true =>
          rw [hb] at h
          have hqe : q.1 = e'.1 := Nat.eq_of_beq_eq_true hb
          dsimp only [cond] at h
          split at h
          · rename_i f hf
            rw [nth_eq] at hf
            intro p e s m args below meth c hc H locs ls hP hS hl
            obtain ⟨hlt, r, hr, hrl⟩ := fk_lt _ (alk_mem hq)
            have hty := fk_ty _ (alk_mem hq) r hr e'.2 f hf
            obtain ⟨hnm, ty0, hty0⟩ := tyAll _ _ hr
            obtain ⟨C, T, N⟩ := r
            obtain ⟨hj, hlink⟩ := hc.2.2.2.2.2.2.2.2.2.1 _ (alk_mem he) (C, T, N) (by rw [← hqe]; exact hr)
            have hev := hc.2.2.2.2.2.2.2.2.1
            have put : ∀ (x : Int) (ty : FieldType) (w : Value), cv (eA ev) (fAV (upM M a (e'.2 : Int) x) a e'.2 f) = w → (T e'.2).2.2.2 = false → parseFieldDescriptor (T e'.2).2.2.1 = some ty → narrow ty w = w → fits ty w = true → nx L st' (upM M a (e'.2 : Int) x) → W p (eL ev) e (rmOf k d) s m args below meth c H locs 0 0 (vx_MQ below (QcOf ev k Q) (XcOf ev k Q) args s (mcOf k) (msOf k) (eR ev)) (F0 m pc ls (w :: .ref (eA ev a) :: st'.map (cv (eA ev)))) := by
              intro x ty w hw hfin hpd hnar hfit hnx
              refine va_put (D := eD ev) (cl := vwCl) (tys := tyT ev) (ws := wd ev M) (A := eR ev) (ref := (T e'.2).1) (C := C) (T := T) (N := N) (ci := q.1) (fs := fvs (eA ev) M a 0 q.2) (v := w) (ty := ty) hc.1 hc.2.1 hc.2.2.2.2.2.2.1 (wsAll _ _ hr) ty0 hty0 hnm hc.2.2.2.2.2.1 hev.2.1 hP (wd_D hev.1 M) hS a (by rw [wd_get ev M hlt, cellE_obj hq]) hr e'.2 hj (hc.2.2.2.2.2.2.1 _ hlink) (fun _ h9 => h9) hfin hpd hnar hfit (by rw [fvs_len]; exact (List.getElem?_eq_some_iff.mp hf).1) hd (fun H1 locs1 hP1 _ hS1 => ?_)
              refine hn _ _ _ hnx p e s m args below meth c hc H1 locs1 ls ?_ hS1 hl
              show va_P (eD ev) vwCl (wd ev (upM M a (e'.2 : Int) x)) H1
              rw [wd_set, cellE_obj hq, fvs_set (eA ev) M a q.2 e'.2 x hf, hw]
              exact hP1
            split at h
            · rename_i x hf1
              refine put x .int (.int (Int32.ofInt x)) ?_ (hty.1 hf1).1 (hty.1 hf1).2 rfl rfl h
              unfold fAV; rw [hf1]; simp [upM, cv]
            · rename_i x hf1
              obtain ⟨h01, h⟩ := h
              refine put x .boolean (.int (Int32.ofInt x)) ?_ (hty.2.1 hf1).1 (hty.2.1 hf1).2 ?_ ?_ h
              · unfold fAV; rw [hf1]; simp [upM, cv]
              · rcases h01 with rfl | rfl <;> rfl
              · rcases h01 with rfl | rfl <;> rfl
            · rename_i x hf1
              refine put x .long (.long (Int64.ofInt x)) ?_ (hty.2.2 hf1).1 (hty.2.2 hf1).2 rfl rfl h
              unfold fAV; rw [hf1]; simp [upM, cv]
            · exact h.elim
          · exact h.elim
      · exact h.elim
    · exact h.elim
  · exact h.elim
theorem sk_iald (hd : decode (mC t) pc = .ok (.iaload, 1)) (h : wpAld nx L M 0 st) (hn : nxOK ev k d t Q nx (pc + 1)) : AW ev k d t Q pc L st M := by
  unfold wpAld at h
  split at h
  · rename_i i a st'
    split at h
    · rename_i q hq
      obtain ⟨q1, n⟩ := q
      cases hb : Nat.beq q1 0 with
      | false => rw [hb] at h; exact h.elim
      | true =>
        rw [hb] at h
        have hqe : q1 = 0 := Nat.eq_of_beq_eq_true hb
        subst hqe
        replace h : (0 ≤ i ∧ i < (n : Int)) ∧ nx L (vI (M a i) :: st') M := h
        obtain ⟨⟨h0, h1⟩, h⟩ := h
        obtain ⟨hlt, -, hsm⟩ := ak_lt _ (alk_mem hq)
        replace hsm : n < 2147483648 := hsm
        intro p e s m args below meth c hc H locs ls hP hS hl
        have hev := hc.2.2.2.2.2.2.2.2.1
        refine va_iald (D := eD ev) (cl := vwCl) (tys := tyT ev) (ws := wd ev M) (i := Int32.ofInt i) (n := n) hc.1 hc.2.1 hev.2.1 hP a 0 (by rw [wd_get ev M hlt, cellE_arr0 hq]) rfl (oI_in h0 h1 hsm) hd ?_
        rw [oI_cl h0 (by omega)]
        have hi : ((i.toNat : Nat) : Int) = i := by omega
        rw [hi]
        exact hn _ _ _ h p e s m args below meth c hc H locs ls hP hS hl
    · exact h.elim
  · exact h.elim
theorem sk_zald (hd : decode (mC t) pc = .ok (.baload, 1)) (h : wpAld nx L M 1 st) (hn : nxOK ev k d t Q nx (pc + 1)) : AW ev k d t Q pc L st M := by
  unfold wpAld at h
  split at h
  · rename_i i a st'
    split at h
    · rename_i q hq
      obtain ⟨q1, n⟩ := q
      cases hb : Nat.beq q1 1 with
      | false => rw [hb] at h; exact h.elim
      | true =>
        rw [hb] at h
        have hqe : q1 = 1 := Nat.eq_of_beq_eq_true hb
        subst hqe
        replace h : (0 ≤ i ∧ i < (n : Int)) ∧ nx L (vI (M a i) :: st') M := h
        obtain ⟨⟨h0, h1⟩, h⟩ := h
        obtain ⟨hlt, -, hsm⟩ := ak_lt _ (alk_mem hq)
        replace hsm : n < 2147483648 := hsm
        intro p e s m args below meth c hc H locs ls hP hS hl
        have hev := hc.2.2.2.2.2.2.2.2.1
        refine va_zald (D := eD ev) (cl := vwCl) (tys := tyT ev) (ws := wd ev M) (i := Int32.ofInt i) (n := n) hc.1 hc.2.1 hev.2.1 hP a 1 (by rw [wd_get ev M hlt, cellE_arr1 hq]) rfl (oI_in h0 h1 hsm) hd ?_
        rw [oI_cl h0 (by omega)]
        have hi : ((i.toNat : Nat) : Int) = i := by omega
        rw [hi]
        exact hn _ _ _ h p e s m args below meth c hc H locs ls hP hS hl
    · exact h.elim
  · exact h.elim
theorem sk_iast (hd : decode (mC t) pc = .ok (.iastore, 1)) (h : wpAst nx L M 0 st) (hn : nxOK ev k d t Q nx (pc + 1)) : AW ev k d t Q pc L st M := by
  unfold wpAst at h
  split at h
  · rename_i x i a st'
    split at h
    · rename_i q hq
      obtain ⟨q1, n⟩ := q
      cases hb : Nat.beq q1 0 with
      | false => rw [hb] at h; exact h.elim
      | true =>
        rw [hb] at h
        have hqe : q1 = 0 := Nat.eq_of_beq_eq_true hb
        subst hqe
        replace h : ((0 ≤ i ∧ i < (n : Int)) ∧ ((0 : Nat) = 0 ∨ x = 0 ∨ x = 1)) ∧ nx L st' (upM M a i x) := h
        obtain ⟨⟨⟨h0, h1⟩, hx⟩, h⟩ := h
        obtain ⟨hlt, -, hsm⟩ := ak_lt _ (alk_mem hq)
        replace hsm : n < 2147483648 := hsm
        intro p e s m args below meth c hc H locs ls hP hS hl
        have hev := hc.2.2.2.2.2.2.2.2.1
        refine va_iast (D := eD ev) (cl := vwCl) (tys := tyT ev) (ws := wd ev M) (A := eR ev) (i := Int32.ofInt i) (x := Int32.ofInt x) (n := n) hc.1 hc.2.1 hev.2.1 hP (wd_D hev.1 M) hS a 0 (by rw [wd_get ev M hlt, cellE_arr0 hq]) rfl (oI_in h0 h1 hsm) hd (fun H1 locs1 hP1 _ hS1 => ?_)
        refine hn _ _ _ h p e s m args below meth c hc H1 locs1 ls ?_ hS1 hl
        · show va_P (eD ev) vwCl (wd ev (upM M a i x)) H1
          rw [oI_cl h0 (by omega)] at hP1
          rw [wd_set, cellE_arr0 hq]
          have he : (fun j : Nat => Int32.ofInt (upM M a i x a (j : Int))) = upd (fun j : Nat => Int32.ofInt (M a (j : Int))) i.toNat (Int32.ofInt x) := by
            funext j
            unfold upM upd
            by_cases hj : j = i.toNat
            · rw [if_pos ⟨rfl, by omega⟩, if_pos hj]
            · rw [if_neg (fun r => hj (by have := r.2; omega)), if_neg hj]
          rw [he]
          exact hP1
    · exact h.elim
  · exact h.elim
theorem sk_zast (hd : decode (mC t) pc = .ok (.bastore, 1)) (h : wpAst nx L M 1 st) (hn : nxOK ev k d t Q nx (pc + 1)) : AW ev k d t Q pc L st M := by
  unfold wpAst at h
  split at h
  · rename_i x i a st'
    split at h
    · rename_i q hq
      obtain ⟨q1, n⟩ := q
      cases hb : Nat.beq q1 1 with
      | false => rw [hb] at h; exact h.elim
      | true =>
        rw [hb] at h
        have hqe : q1 = 1 := Nat.eq_of_beq_eq_true hb
        subst hqe
        replace h : ((0 ≤ i ∧ i < (n : Int)) ∧ ((1 : Nat) = 0 ∨ x = 0 ∨ x = 1)) ∧ nx L st' (upM M a i x) := h
        obtain ⟨⟨⟨h0, h1⟩, hx⟩, h⟩ := h
        obtain ⟨hlt, -, hsm⟩ := ak_lt _ (alk_mem hq)
        replace hsm : n < 2147483648 := hsm
        intro p e s m args below meth c hc H locs ls hP hS hl
        have hev := hc.2.2.2.2.2.2.2.2.1
        refine va_zast (D := eD ev) (cl := vwCl) (tys := tyT ev) (ws := wd ev M) (A := eR ev) (i := Int32.ofInt i) (x := Int32.ofInt x) (n := n) hc.1 hc.2.1 hev.2.1 hP (wd_D hev.1 M) hS a 1 (by rw [wd_get ev M hlt, cellE_arr1 hq]) rfl (oI_in h0 h1 hsm) hd (fun H1 locs1 hP1 _ hS1 => ?_)
        refine hn _ _ _ h p e s m args below meth c hc H1 locs1 ls ?_ hS1 hl
        · show va_P (eD ev) vwCl (wd ev (upM M a i x)) H1
          have hnar : vp_nar .boolean (Int32.ofInt x) = Int32.ofInt x := by rcases hx with hx | rfl | rfl <;> first | rfl | cases hx
          rw [hnar] at hP1
          rw [oI_cl h0 (by omega)] at hP1
          rw [wd_set, cellE_arr1 hq]
          have he : (fun j : Nat => Int32.ofInt (upM M a i x a (j : Int))) = upd (fun j : Nat => Int32.ofInt (M a (j : Int))) i.toNat (Int32.ofInt x) := by
            funext j
            unfold upM upd
            by_cases hj : j = i.toNat
            · rw [if_pos ⟨rfl, by omega⟩, if_pos hj]
            · rw [if_neg (fun r => hj (by have := r.2; omega)), if_neg hj]
          rw [he]
          exact hP1
    · exact h.elim
  · exact h.elim
theorem sk_alen (hd : decode (mC t) pc = .ok (.arraylength, 1)) (h : wpLen nx L M st) (hn : nxOK ev k d t Q nx (pc + 1)) : AW ev k d t Q pc L st M := by
  unfold wpLen at h
  split at h
  · rename_i a st'
    split at h
    · rename_i n hq
      obtain ⟨hlt, -, hsm⟩ := ak_lt _ (alk_mem hq)
      intro p e s m args below meth c hc H locs ls hP hS hl
      have hev := hc.2.2.2.2.2.2.2.2.1
      exact va_alen (D := eD ev) (cl := vwCl) (tys := tyT ev) (ws := wd ev M) (x := (n, .inl (fun i => Int32.ofInt (M a (i : Int))))) hc.1 hc.2.1 hev.2.1 hP a 0 (by rw [wd_get ev M hlt, cellE_arr0 hq]) (ty := .int) rfl rfl hd (hn _ _ _ h p e s m args below meth c hc H locs ls hP hS hl)
    · exact h.elim
  · exact h.elim
theorem sk_ldc {i : Nat} (hd : decode (mC t) pc = .ok (.ldc i, 2)) (h : wpLdc t nx L M i st) (hn : nxOK ev k d t Q nx (pc + 2)) : AW ev k d t Q pc L st M := by
  unfold wpLdc at h
  split at h
  · rename_i v hv
    intro p e s m args below meth c hc H locs ls hP hS hl
    exact lv_ldc (v := Int32.ofInt v) hc.1 hc.2.1 hc.2.2.2.2.2.1 (hc.2.2.2.2.2.2.1 _ ((hc.2.2.2.2.2.2.2.2.2.2 _ (alk_mem hv)).1 rfl)) hd (hn _ _ _ h p e s m args below meth c hc H locs ls hP hS hl)
  · exact h.elim
theorem sk_ldcw {i : Nat} (hd : decode (mC t) pc = .ok (.ldc_w i, 3)) (h : wpLdc t nx L M i st) (hn : nxOK ev k d t Q nx (pc + 3)) : AW ev k d t Q pc L st M := by
  unfold wpLdc at h
  split at h
  · rename_i v hv
    intro p e s m args below meth c hc H locs ls hP hS hl
    exact lv_ldcw (v := Int32.ofInt v) hc.1 hc.2.1 hc.2.2.2.2.2.1 (hc.2.2.2.2.2.2.1 _ ((hc.2.2.2.2.2.2.2.2.2.2 _ (alk_mem hv)).1 rfl)) hd (hn _ _ _ h p e s m args below meth c hc H locs ls hP hS hl)
  · exact h.elim
theorem sk_ldc2 {i : Nat} (hd : decode (mC t) pc = .ok (.ldc2_w i, 3)) (h : wpLdc2 t nx L M i st) (hn : nxOK ev k d t Q nx (pc + 3)) : AW ev k d t Q pc L st M := by
  unfold wpLdc2 at h
  split at h
  · rename_i v hv
    intro p e s m args below meth c hc H locs ls hP hS hl
    exact lv_ldc2 (v := Int64.ofInt v) hc.1 hc.2.1 hc.2.2.2.2.2.1 (hc.2.2.2.2.2.2.1 _ ((hc.2.2.2.2.2.2.2.2.2.2 _ (alk_mem hv)).2 rfl)) hd (hn _ _ _ h p e s m args below meth c hc H locs ls hP hS hl)
  · exact h.elim
theorem sk_dup (hd : decode (mC t) pc = .ok (.dup, 1)) (h : wpDup nx L M st) (hn : nxOK ev k d t Q nx (pc + 1)) : AW ev k d t Q pc L st M := by
  unfold wpDup at h
  split at h
  · intro p e s m args below meth c hc H locs ls hP hS hl
    exact lv_dup hc.1 hc.2.1 hd rfl (hn _ _ _ h p e s m args below meth c hc H locs ls hP hS hl)
  · intro p e s m args below meth c hc H locs ls hP hS hl
    exact lv_dup hc.1 hc.2.1 hd rfl (hn _ _ _ h p e s m args below meth c hc H locs ls hP hS hl)
  · exact h.elim
theorem sk_dup2 (hd : decode (mC t) pc = .ok (.dup2, 1)) (h : wpDup2 nx L M st) (hn : nxOK ev k d t Q nx (pc + 1)) : AW ev k d t Q pc L st M := by
  unfold wpDup2 at h
  split at h
  · intro p e s m args below meth c hc H locs ls hP hS hl
    exact lv_dup2_11 hc.1 hc.2.1 hd rfl rfl (hn _ _ _ h p e s m args below meth c hc H locs ls hP hS hl)
  · exact h.elim
theorem sk_pop (hd : decode (mC t) pc = .ok (.pop, 1)) (h : wpPop nx L M st) (hn : nxOK ev k d t Q nx (pc + 1)) : AW ev k d t Q pc L st M := by
  unfold wpPop at h
  split at h
  · intro p e s m args below meth c hc H locs ls hP hS hl
    exact lv_pop hc.1 hc.2.1 hd rfl (hn _ _ _ h p e s m args below meth c hc H locs ls hP hS hl)
  · exact h.elim
theorem sk_i2d (hd : decode (mC t) pc = .ok (.i2d, 1)) (h : wpI2d nx L M st) (hn : nxOK ev k d t Q nx (pc + 1)) : AW ev k d t Q pc L st M := by
  unfold wpI2d at h
  split at h
  · intro p e s m args below meth c hc H locs ls hP hS hl
    exact lv_i2d hc.1 hc.2.1 hd (hn _ _ _ h p e s m args below meth c hc H locs ls hP hS hl)
  · exact h.elim
theorem sk_ddiv (hd : decode (mC t) pc = .ok (.ddiv, 1)) (h : wpBinD nx L M FP.ddiv st) (hn : nxOK ev k d t Q nx (pc + 1)) : AW ev k d t Q pc L st M := by
  unfold wpBinD at h
  split at h
  · intro p e s m args below meth c hc H locs ls hP hS hl
    exact lv_ddiv hc.1 hc.2.1 hd h.1 (hn _ _ _ h.2 p e s m args below meth c hc H locs ls hP hS hl)
  · exact h.elim
theorem sk_dmul (hd : decode (mC t) pc = .ok (.dmul, 1)) (h : wpBinD nx L M FP.dmul st) (hn : nxOK ev k d t Q nx (pc + 1)) : AW ev k d t Q pc L st M := by
  unfold wpBinD at h
  split at h
  · intro p e s m args below meth c hc H locs ls hP hS hl
    exact lv_dmul hc.1 hc.2.1 hd h.1 (hn _ _ _ h.2 p e s m args below meth c hc H locs ls hP hS hl)
  · exact h.elim
theorem sk_dconst {n : Fin 2} (hd : decode (mC t) pc = .ok (.dconst n, 1)) (h : nx L (vD (bif Nat.beq n.val 0 then FP.dconst0 else FP.dconst1) :: st) M) (hn : nxOK ev k d t Q nx (pc + 1)) : AW ev k d t Q pc L st M := by
  intro p e s m args below meth c hc H locs ls hP hS hl
  match n, hd, h with
  | 0, hd, h => exact lv_dconst0 hc.1 hc.2.1 hd (hn _ _ _ h p e s m args below meth c hc H locs ls hP hS hl)
  | 1, hd, h => exact lv_dconst1 hc.1 hc.2.1 hd (hn _ _ _ h p e s m args below meth c hc H locs ls hP hS hl)
theorem sk_ireturn (hd : decode (mC t) pc = .ok (.ireturn, 1)) (h : wpRet k t Q M st) : AW ev k d t Q pc L st M := by
  unfold wpRet at h
  split at h
  · rename_i x
    split at h
    · rename_i hr
      obtain ⟨rfl, h⟩ := h
      intro p e s m args below meth c hc H locs ls hP hS hl
      exact vx_ret (W.zret (ty := .int) (v := Int32.ofInt x) hc.1 hc.2.1 (hc.2.2.2.1.trans hr) rfl (fun u hu hW => ⟨(some (vI x)), M, rfl, rfl, h, by rw [hu]; exact hP, hS.F hu⟩) hS.2.2 hd hc.2.2.2.2.1)
    · rename_i hr
      obtain ⟨rfl, h01, h⟩ := h
      intro p e s m args below meth c hc H locs ls hP hS hl
      exact vx_ret (W.zret (ty := .boolean) (v := Int32.ofInt x) hc.1 hc.2.1 (hc.2.2.2.1.trans hr) (by rcases h01 with rfl | rfl <;> rfl) (fun u hu hW => ⟨(some (vI x)), M, rfl, rfl, h, by rw [hu]; exact hP, hS.F hu⟩) hS.2.2 hd hc.2.2.2.2.1)
    · exact h.elim
  · exact h.elim
theorem sk_return (hd : decode (mC t) pc = .ok (.return_, 1)) (h : wpRetV k t Q M st) : AW ev k d t Q pc L st M := by
  unfold wpRetV at h
  split at h
  · split at h
    · rename_i hr
      obtain ⟨rfl, h⟩ := h
      intro p e s m args below meth c hc H locs ls hP hS hl
      exact vx_ret (W.vret hc.1 hc.2.1 (hc.2.2.2.1.trans hr) (fun u hu hW => ⟨none, M, rfl, rfl, h, by rw [hu]; exact hP, hS.F hu⟩) hS.2.2 hd hc.2.2.2.2.1)
    · exact h.elim
  · exact h.elim
theorem sk_lreturn (hd : decode (mC t) pc = .ok (.lreturn, 1)) (h : wpRetL k t Q M st) : AW ev k d t Q pc L st M := by
  unfold wpRetL at h
  split at h
  · rename_i x
    split at h
    · rename_i hr
      obtain ⟨rfl, h⟩ := h
      intro p e s m args below meth c hc H locs ls hP hS hl
      exact vx_ret (W.lret (v := Int64.ofInt x) hc.1 hc.2.1 (hc.2.2.2.1.trans hr) (fun u hu hW => ⟨(some (vL x)), M, rfl, rfl, h, by rw [hu]; exact hP, hS.F hu⟩) hS.2.2 hd hc.2.2.2.2.1)
    · exact h.elim
  · exact h.elim
theorem sk_dreturn (hd : decode (mC t) pc = .ok (.dreturn, 1)) (h : wpRetD k t Q M st) : AW ev k d t Q pc L st M := by
  unfold wpRetD at h
  split at h
  · rename_i x
    split at h
    · rename_i hr
      obtain ⟨rfl, h⟩ := h
      intro p e s m args below meth c hc H locs ls hP hS hl
      exact vx_ret (W.dret (v := x) hc.1 hc.2.1 (hc.2.2.2.1.trans hr) (fun u hu hW => ⟨(some (vD x)), M, rfl, rfl, h, by rw [hu]; exact hP, hS.F hu⟩) hS.2.2 hd hc.2.2.2.2.1)
    · exact h.elim
  · exact h.elim
end SND
