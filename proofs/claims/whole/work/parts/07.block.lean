/-! blocks, calls, throws -/
theorem wsAll : ∀ (ci : Nat) (q : vw_C), vwCl[ci]? = some q → ∀ w ∈ u_ws q.1 q.2.1 q.2.2, w ∈ lw_big := by
  have h : (vwCl.all fun q => (u_ws q.1 q.2.1 q.2.2).all fun w => decide (w ∈ lw_big)) = true := by decide +kernel
  intro ci q hq w hw
  exact of_decide_eq_true (List.all_eq_true.mp (List.all_eq_true.mp h q (List.mem_of_getElem? hq)) w hw)
theorem blen {a b : Nat} (h : Nat.beq a b = true) : a = b := Nat.eq_of_beq_eq_true h
def okS : Instr → Bool
  | .tableswitch _ lo hi o => decide (hi - lo < o.size)
  | _ => true
theorem stp_ok {ev : Ev} {k : Bool} {d : Nat} {t : MT} {Q : Out → Mem → Prop} {K : Nat → Lo → List AV → Mem → Prop} {nx : Lo → List AV → Mem → Prop} {pc : Nat} {L : Lo} {M : Mem} {st : List AV} {i : Instr} {len : Nat}
    (hd : decode (mC t) pc = .ok (i, len)) (h1 : okI i len = true) (h2 : okT pc i = true) (h3 : okS i = true) (h : stp k t Q K nx pc L M st i) (hn : nxOK ev k d t Q nx (pc + len)) (hK : kOK ev k d t Q K) : AW ev k d t Q pc L st M := by
  cases i with
  | iconst n => cases blen h1; exact sk_iconst hd h hn
  | bipush n =>
    simp only [okI, Bool.and_eq_true, decide_eq_true_eq] at h1
    cases blen h1.2; exact sk_bipush h1.1.1 h1.1.2 hd h hn
  | sipush n =>
    simp only [okI, Bool.and_eq_true, decide_eq_true_eq] at h1
    cases blen h1.2; exact sk_sipush h1.1.1 h1.1.2 hd h hn
  | dconst n => cases blen h1; exact sk_dconst hd h hn
  | iload_n i => cases blen h1; exact sk_iload_n hd h hn
  | iload i => cases blen h1; exact sk_iload hd h hn
  | aload_n i => cases blen h1; exact sk_aload_n hd h hn
  | aload i => cases blen h1; exact sk_aload hd h hn
  | lload_n i => cases blen h1; exact sk_lload_n hd h hn
  | lload i => cases blen h1; exact sk_lload hd h hn
  | istore_n i => cases blen h1; exact sk_istore_n hd h hn
  | istore i => cases blen h1; exact sk_istore hd h hn
  | lstore_n i => cases blen h1; exact sk_lstore_n hd h hn
  | lstore i => cases blen h1; exact sk_lstore hd h hn
  | iinc i n => cases blen h1; exact sk_iinc hd h hn
  | iadd => cases blen h1; exact sk_iadd hd h hn
  | isub => cases blen h1; exact sk_isub hd h hn
  | imul => cases blen h1; exact sk_imul hd h hn
  | iand => cases blen h1; exact sk_iand hd h hn
  | ior => cases blen h1; exact sk_ior hd h hn
  | ishl => cases blen h1; exact sk_ishl hd h hn
  | ishr => cases blen h1; exact sk_ishr hd h hn
  | iushr => cases blen h1; exact sk_iushr hd h hn
  | idiv => cases blen h1; exact sk_idiv hd h hn
  | irem => cases blen h1; exact sk_irem hd h hn
  | ineg => cases blen h1; exact sk_ineg hd h hn
  | ladd => cases blen h1; exact sk_ladd hd h hn
  | lmul => cases blen h1; exact sk_lmul hd h hn
  | i2l => cases blen h1; exact sk_i2l hd h hn
  | if_icmp c off =>
    cases blen h1
    have ho : 0 ≤ (pc : Int) + off := of_decide_eq_true h2
    cases c
    · exact sk_icmp_eq ho hd h hn hK
    · exact sk_icmp_ne ho hd h hn hK
    · exact sk_icmp_lt ho hd h hn hK
    · exact sk_icmp_ge ho hd h hn hK
    · exact sk_icmp_gt ho hd h hn hK
    · exact sk_icmp_le ho hd h hn hK
  | ifCond c off =>
    cases blen h1
    have ho : 0 ≤ (pc : Int) + off := of_decide_eq_true h2
    cases c
    · exact sk_if_eq ho hd h hn hK
    · exact sk_if_ne ho hd h hn hK
    · exact sk_if_lt ho hd h hn hK
    · exact sk_if_ge ho hd h hn hK
    · exact sk_if_gt ho hd h hn hK
    · exact sk_if_le ho hd h hn hK
  | goto off => cases blen h1; exact sk_goto (of_decide_eq_true h2) hd h hK
  | tableswitch a lo hi o =>
    simp only [okT, Bool.and_eq_true, decide_eq_true_eq] at h2
    exact sk_sw h2.1 (fun q hq => of_decide_eq_true (List.all_eq_true.mp h2.2 q hq)) hd (of_decide_eq_true h3) h hK
  | getfield i => cases blen h1; exact sk_getf wsAll hd h hn
  | putfield i => cases blen h1; exact sk_putf wsAll hd h hn
  | iaload => cases blen h1; exact sk_iald hd h hn
  | baload => cases blen h1; exact sk_zald hd h hn
  | iastore => cases blen h1; exact sk_iast hd h hn
  | bastore => cases blen h1; exact sk_zast hd h hn
  | arraylength => cases blen h1; exact sk_alen hd h hn
  | ldc i => cases blen h1; exact sk_ldc hd h hn
  | ldc_w i => cases blen h1; exact sk_ldcw hd h hn
  | ldc2_w i => cases blen h1; exact sk_ldc2 hd h hn
  | dup => cases blen h1; exact sk_dup hd h hn
  | dup2 => cases blen h1; exact sk_dup2 hd h hn
  | pop => cases blen h1; exact sk_pop hd h hn
  | i2d => cases blen h1; exact sk_i2d hd h hn
  | ddiv => cases blen h1; exact sk_ddiv hd h hn
  | dmul => cases blen h1; exact sk_dmul hd h hn
  | ireturn => cases blen h1; exact sk_ireturn hd h
  | return_ => cases blen h1; exact sk_return hd h
  | lreturn => cases blen h1; exact sk_lreturn hd h
  | dreturn => cases blen h1; exact sk_dreturn hd h
  | invokestatic _ => exact hK _ _ _ _ h
  | invokevirtual _ => exact hK _ _ _ _ h
  | new _ => exact hK _ _ _ _ h
  | _ => exact h.elim
abbrev Pg : Type := List (Nat × Instr × Nat)
/-- a stretch of instructions -/
def wpB (k : Bool) (t : MT) (Q : Out → Mem → Prop) (K : Nat → Lo → List AV → Mem → Prop) : Pg → Lo → List AV → Mem → Prop
  | [], _, _, _ => False
  | e :: r, L, st, M => match r with
    | [] => stp k t Q K (fun L st M => K (e.1 + e.2.2) L st M) e.1 L M st e.2.1
    | e' :: _ => stp k t Q K (fun L st M => bif Nat.beq (e.1 + e.2.2) e'.1 then wpB k t Q K r L st M else False) e.1 L M st e.2.1
def okE (c : ByteArray) (e : Nat × Instr × Nat) : Bool := decide (decode c e.1 = .ok (e.2.1, e.2.2)) && (okI e.2.1 e.2.2 && (okT e.1 e.2.1 && okS e.2.1))
def okP (c : ByteArray) (pg : Pg) : Prop := ∀ e ∈ pg, okE c e = true
theorem okP_of {c : ByteArray} {pg : Pg} (h : pg.all (okE c) = true) : okP c pg := List.all_eq_true.mp h
theorem wpB_ok {ev : Ev} {k : Bool} {d : Nat} {t : MT} {Q : Out → Mem → Prop} {K : Nat → Lo → List AV → Mem → Prop} (hK : kOK ev k d t Q K) :
    ∀ (pg : Pg), okP (mC t) pg → ∀ (e : Nat × Instr × Nat) (r : Pg), pg = e :: r → ∀ (L : Lo) (st : List AV) (M : Mem), wpB k t Q K pg L st M → AW ev k d t Q e.1 L st M := by
  intro pg
  induction pg with
  | nil => intro _ e r h; cases h
  | cons e0 r0 ih =>
    intro hok e r he L st M h
    injection he with h4 h5
    subst h4; subst h5
    have h0 := hok e0 List.mem_cons_self
    simp only [okE, Bool.and_eq_true, decide_eq_true_eq] at h0
    obtain ⟨hd, h1, h2, h3⟩ := h0
    cases r0 with
    | nil => exact stp_ok (nx := fun L st M => K (e0.1 + e0.2.2) L st M) hd h1 h2 h3 h (fun _ _ _ q => hK _ _ _ _ q) hK
    | cons e' r' =>
      refine stp_ok (nx := fun L st M => bif Nat.beq (e0.1 + e0.2.2) e'.1 then wpB k t Q K (e' :: r') L st M else False) hd h1 h2 h3 h (fun L st M q => ?_) hK
      cases hb : Nat.beq (e0.1 + e0.2.2) e'.1 with
      | false => rw [hb] at q; exact q.elim
      | true =>
        rw [hb] at q
        rw [Nat.eq_of_beq_eq_true hb]
        exact ih (fun x hx => hok x (List.mem_cons_of_mem _ hx)) e' r' rfl L st M q
/-- go on at a place of the program, n instructions -/
theorem AW.go {ev : Ev} {k : Bool} {d : Nat} {t : MT} {Q : Out → Mem → Prop} {pg : Pg} (hok : okP (mC t) pg) (i n : Nat) {e : Nat × Instr × Nat} {r : Pg} (he : (pg.drop i).take n = e :: r) {pc : Nat} (hpc : e.1 = pc) {L : Lo} {st : List AV} {M : Mem} (h : wpB k t Q (AW ev k d t Q) (e :: r) L st M) : AW ev k d t Q pc L st M :=
  hpc ▸ wpB_ok (fun _ _ _ _ q => q) (e :: r) (fun x hx => hok x (List.mem_of_mem_drop (List.mem_of_mem_take (by rw [he]; exact hx)))) e r rfl L st M h
theorem okP_at {c : ByteArray} {pg : Pg} (h : okP c pg) (i : Nat) {e : Nat × Instr × Nat} (he : pg[i]? = some e) : decode c e.1 = .ok (e.2.1, e.2.2) := by
  have h0 := h e (List.mem_of_getElem? he)
  simp only [okE, Bool.and_eq_true, decide_eq_true_eq] at h0
  exact h0.1
/-! calls -/
def ctn (ev : Ev) (k : Bool) (d : Nat) (t : MT) (Q : Out → Mem → Prop) (pc : Nat) (L : Lo) (rest : List AV) : Out → Mem → Prop := fun o M => match o with
  | .inl v => AW ev k d t Q pc L (v.toList ++ rest) M
  | .inr _ => False
theorem call_go {ev : Ev} {k : Bool} {d : Nat} {t : MT} {Q : Out → Mem → Prop} {pc : Nat} {L : Lo} {st rest : List AV} {p : Program} {e : Env} {s : State} {m : MethodId} {args : Array Value} {below : List Frame} {meth : Method} {c : Code} {H : Heap} {locs : List Loc} {ls : Array Slot} {a : Array Value}
    (hc : Cx ev t p s m args meth c) (hS : va_S (eR ev) s.heap H locs) (hl : LH (eA ev) ls (mL t) L)
    (hr : vx_Run p (eL ev) e (rmOf k d) s m args below meth c H locs 0 0 0 0 (F0 m pc ls (st.map (cv (eA ev)))) (rest.map (cv (eA ev))) (QcOf ev false (ctn ev k d t Q (pc + 3) L rest) a) (XcOf ev false (ctn ev k d t Q (pc + 3) L rest)) (eR ev)) :
    W p (eL ev) e (rmOf k d) s m args below meth c H locs 0 0 (vx_MQ below (QcOf ev k Q) (XcOf ev k Q) args s (mcOf k) (msOf k) (eR ev)) (F0 m pc ls (st.map (cv (eA ev)))) := by
  intro T hT X
  rcases hr T hT X with ⟨v, st₀, t', T', L', h0, X', hL, e1, e2, ⟨v', M', hv, -, hQ, hP, hF⟩, sg⟩ | ⟨q, st₀, t', T', L', E, ce, h0, X', hL, e1, e2, ⟨M', hk, -⟩, hce, hcv, hcl, sg⟩
  · cases hv
    obtain ⟨k1, k2, k3⟩ := vx_keep (A1 := eR ev) h0 e1 hS (fun _ _ q => q) (fun _ q => q) hL hF
    have hAW : AW ev k d t Q (pc + 3) L (v'.toList ++ rest) M' := hQ
    obtain ⟨t2, a1, b1⟩ := hAW p e s m args below meth c hc T'.heap (locs ++ L') ls (by rw [e1]; exact hP) k3 hl T' rfl X'
    refine ⟨t2, sg t2 ?_, b1⟩
    have he : (Option.map (cv (eA ev)) v').toList ++ rest.map (cv (eA ev)) = (v'.toList ++ rest).map (cv (eA ev)) := by
      cases v' <;> simp
    rw [he]
    exact a1
  · cases hk
/-- a call that throws, not caught here -/
theorem call_thr {ev : Ev} {d : Nat} {t : MT} {Q : Out → Mem → Prop} {pc : Nat} {st rest : List AV} {p : Program} {e : Env} {s : State} {m : MethodId} {args : Array Value} {below : List Frame} {meth : Method} {c : Code} {H : Heap} {locs : List Loc} {ls : Array Slot} {a : Array Value}
    (hc : Cx ev t p s m args meth c) (hS : va_S (eR ev) s.heap H locs)
    (hr : vx_Run p (eL ev) e (rmOf true d) s m args below meth c H locs 0 0 1 6 (F0 m pc ls (st.map (cv (eA ev)))) (rest.map (cv (eA ev))) (QcOf ev true Q a) (XcOf ev true Q) (eR ev)) :
    W p (eL ev) e (rmOf true d) s m args below meth c H locs 0 0 (vx_MQ below (QcOf ev true Q) (XcOf ev true Q) args s (mcOf true) (msOf true) (eR ev)) (F0 m pc ls (st.map (cv (eA ev)))) := by
  intro T hT X
  rcases hr T hT X with ⟨v, st₀, t', T', L', h0, X', hL, e1, e2, ⟨v', M', hv, hk, -⟩, sg⟩ | ⟨q, st₀, t', T', L', E, ce, h0, X', hL, e1, e2, ⟨M', -, hQ, hP, hF⟩, hce, hcv, hcl, sg⟩
  · cases hk
  · obtain ⟨k1, k2, k3⟩ := vx_keep (A1 := eR ev) h0 e1 hS (fun _ _ q => q) (fun _ q => q) hL hF
    have hw := vx_out (p := p) (l := eL ev) (e := e) (R := rmOf true d) (s := s) (m := m) (args := args) (below := below) (meth := meth) (c := c) (H := T'.heap) (locs := locs ++ L') (cells := 0 + 1) (slots := 0 + 6) (ls := ls) (rest := rest.map (cv (eA ev))) (Qc := QcOf ev true Q) (XC := XcOf ev true Q) (free := eR ev) (pc := pc) (E := E) (ce := ce) (q := q) (mc := mcOf true) (ms := msOf true)
      (fun x hx => (hc.2.2.2.2.2.2.2.1 x hx).elim) hc.2.2.2.2.1 (by rw [e1]; exact hce) hcv hcl
      (fun u hu hA => ⟨M', rfl, hQ, by rw [hu, e1]; exact hP, by rw [← hu] at k3; exact k3.F rfl⟩) k3.2.2 (Nat.le_refl _) (Nat.le_refl _)
    obtain ⟨t2, a1, b1⟩ := hw T' rfl X'
    exact ⟨t2, sg.trans a1, b1⟩
theorem pcB (ev : Ev) (as : List AV) (M : Mem) : FrameBlind (va_Pc (as.map (cv (eA ev))) (fun U => evAt ev U ∧ PW ev M U.heap)) := fun _ _ _ _ q => ⟨q.1, q.2.1.blind, q.2.2⟩
/-- what a static method's tables say: arity n -/
def SMok (t : MT) (n : Nat) : Prop := Cond.static (mN t) ∈ lw_big ∧ Cond.initialized (mN t).cls ∈ lw_big ∧ Cond.code (mN t) (mC t) (mL t) (mR t) ∈ lw_big ∧ ((mN t).cls ≠ "java/lang/invoke/MethodHandle" ∧ (mN t).cls ≠ "java/lang/invoke/VarHandle" ∧ (parseMethodDescriptor (mN t).desc).map (fun d => d.parameters.length) = some n) ∧ mL t ≤ 19
def VMok (t : MT) (n ci : Nat) : Prop := (∃ q, vwCl[ci]? = some q ∧ q.1 = (mN t).cls) ∧ Cond.instanceMethod (mN t) ∈ lw_big ∧ Cond.selects (mN t).cls (mN t) (mN t) ∈ lw_big ∧ Cond.initialized (mN t).cls ∈ lw_big ∧ Cond.code (mN t) (mC t) (mL t) (mR t) ∈ lw_big ∧ ((mN t).cls ≠ "java/lang/invoke/MethodHandle" ∧ (mN t).cls ≠ "java/lang/invoke/VarHandle" ∧ (parseMethodDescriptor (mN t).desc).map (fun d => d.parameters.length) = some n) ∧ mL t ≤ 19
theorem ws_good {t : MT} (h : Cond.code (mN t) (mC t) (mL t) (mR t) ∈ lw_big) : GoodIn lw_big (wsOf t) := fun w hw => (List.mem_cons.mp hw).elim (fun e => e ▸ big_good _ h) (fun h => big_good w h)
theorem good_cons {w : Jvm.Cond} {l : List Cond} (h : w ∈ lw_big) (hl : GoodIn lw_big l) : GoodIn lw_big (w :: l) := fun x hx => (List.mem_cons.mp hx).elim (fun e => e ▸ big_good _ h) (fun h => hl x h)
def catS (rest : List AV) : Nat := (rest.map fun v => bif lwide (some v) then 2 else 1).sum
theorem catS_ok (ad : Nat → Nat) (rest : List AV) (h : catS rest ≤ 8) : ((rest.map (cv ad)).map fun v => v.category).sum ≤ 8 := by
  have : ((rest.map (cv ad)).map fun v => v.category) = rest.map fun v => bif lwide (some v) then 2 else 1 := by
    rw [List.map_map]
    apply List.map_congr_left
    intro v _
    rcases v with x | k | x | d <;> rfl
  rw [this]; exact h
theorem rmR {k : Bool} {d d' maxL : Nat} (hd : d' < d) (hm : maxL ≤ 19) (k' : Bool) : (rmOf k' d').frames + 1 ≤ (rmOf k d).frames ∧ 8 + (maxL + 11) + (rmOf k' d').locals ≤ (rmOf k d).locals := by
  constructor
  · exact hd
  · show 8 + (maxL + 11) + 38 * d' ≤ 38 * d
    omega
theorem AW.callS {ev : Ev} {k : Bool} {d : Nat} {t : MT} {Q : Out → Mem → Prop} {pc : Nat} {L : Lo} {M : Mem} {t' : MT} {n d' idx : Nat} (as rest : List AV) (hs : SMok t' n) (hl' : Cond.methodLink (mN t).cls idx (mN t') ∈ lw_big) (hdec : decode (mC t) pc = .ok (.invokestatic idx, 3)) (hd : d' < d) (hn : as.length = n) (hcat : catS rest ≤ 8)
    (h : AM ev false d' t' as M (ctn ev k d t Q (pc + 3) L rest)) : AW ev k d t Q pc L (as.reverse ++ rest) M := by
  intro p e s m args below meth c hc H locs ls hP hS hl
  refine call_go (rest := rest) (a := (as.map (cv (eA ev))).toArray) hc hS hl ?_
  have hts := hc.2.2.2.2.2.2.1
  refine vx_runS (Ts := lw_big) (own := (mN t).cls) (nL := mL t) (cc := mC t) (n := n) (bytes := mC t') (maxL := mL t') (ret := mR t') (index := idx) (As := as.map (cv (eA ev))) ⟨hc.1, hc.2.1, hc.2.2.1, hc.2.2.2.2.2.1, hts⟩ h
    (va_cwS n hts (good_cons hl' (good_cons hs.1 (good_cons hs.2.1 (ws_good hs.2.2.1)))) rfl rfl rfl hs.2.2.2.1 (rmR hd hs.2.2.2.2 false)) ⟨pcB ev as M, fun U hU hW => ⟨rfl, hc.2.2.2.2.2.2.2.2.1.go hS hU hW, by rw [hU]; exact hP⟩⟩ rfl (by rw [List.length_map]; exact hn) hl.1 (by rw [List.map_append, List.map_reverse]) (by show 2 * 0 + _ ≤ 8; rw [Nat.mul_zero, Nat.zero_add]; exact catS_ok _ _ hcat) hdec ⟨by show 0 + 0 ≤ _; exact Nat.zero_le _, by show 0 + 0 ≤ _; exact Nat.zero_le _⟩
theorem AW.callST {ev : Ev} {d : Nat} {t : MT} {Q : Out → Mem → Prop} {pc : Nat} {L : Lo} {M : Mem} {t' : MT} {n d' idx : Nat} (as rest : List AV) (hs : SMok t' n) (hl' : Cond.methodLink (mN t).cls idx (mN t') ∈ lw_big) (hdec : decode (mC t) pc = .ok (.invokestatic idx, 3)) (hd : d' < d) (hn : as.length = n) (hcat : catS rest ≤ 8)
    (h : AM ev true d' t' as M Q) : AW ev true d t Q pc L (as.reverse ++ rest) M := by
  intro p e s m args below meth c hc H locs ls hP hS hl
  refine call_thr (rest := rest) (a := (as.map (cv (eA ev))).toArray) hc hS ?_
  have hts := hc.2.2.2.2.2.2.1
  refine vx_runS (Ts := lw_big) (own := (mN t).cls) (nL := mL t) (cc := mC t) (n := n) (bytes := mC t') (maxL := mL t') (ret := mR t') (index := idx) (As := as.map (cv (eA ev))) ⟨hc.1, hc.2.1, hc.2.2.1, hc.2.2.2.2.2.1, hts⟩ h
    (va_cwS n hts (good_cons hl' (good_cons hs.1 (good_cons hs.2.1 (ws_good hs.2.2.1)))) rfl rfl rfl hs.2.2.2.1 (rmR hd hs.2.2.2.2 true)) ⟨pcB ev as M, fun U hU hW => ⟨rfl, hc.2.2.2.2.2.2.2.2.1.go hS hU hW, by rw [hU]; exact hP⟩⟩ rfl (by rw [List.length_map]; exact hn) hl.1 (by rw [List.map_append, List.map_reverse]) (by show 2 * 0 + _ ≤ 8; rw [Nat.mul_zero, Nat.zero_add]; exact catS_ok _ _ hcat) hdec ⟨by show 0 + 1 ≤ 1; omega, by show 0 + 6 ≤ 6; omega⟩
theorem AW.callV {ev : Ev} {k : Bool} {d : Nat} {t : MT} {Q : Out → Mem → Prop} {pc : Nat} {L : Lo} {M : Mem} {t' : MT} {n d' idx ci b : Nat} {fs : List (Nat × Nat)} (as rest : List AV) (hs : VMok t' n ci) (hb : alk fkL b = some (ci, fs)) (hl' : Cond.methodLink (mN t).cls idx (mN t') ∈ lw_big) (hdec : decode (mC t) pc = .ok (.invokevirtual idx, 3)) (hd : d' < d) (hn : as.length = n) (hcat : catS rest ≤ 8)
    (h : AM ev false d' t' (vR b :: as) M (ctn ev k d t Q (pc + 3) L rest)) : AW ev k d t Q pc L (as.reverse ++ vR b :: rest) M := by
  intro p e s m args below meth c hc H locs ls hP hS hl
  refine call_go (rest := rest) (a := ((vR b :: as).map (cv (eA ev))).toArray) hc hS hl ?_
  have hts := hc.2.2.2.2.2.2.1
  obtain ⟨⟨q, hq, hqn⟩, hs1, hs2, hs3, hs4, hs5, hs6⟩ := hs
  have hlt := (fk_lt _ (alk_mem hb)).1
  have hrecv := va_recv hc.2.2.2.2.2.2.2.2.1.2.1 hP hq (q0 := b) (by rw [wd_get ev M hlt, cellE_obj hb])
  rw [hqn] at hrecv
  refine vx_runV (Ts := lw_big) (own := (mN t).cls) (C := (mN t').cls) (nL := mL t) (cc := mC t) (n := n) (bytes := mC t') (maxL := mL t') (ret := mR t') (index := idx) (b := eA ev b) (As := as.map (cv (eA ev))) ⟨hc.1, hc.2.1, hc.2.2.1, hc.2.2.2.2.2.1, hts⟩ h
    (cwV n hts (good_cons hl' (good_cons hs1 (good_cons hs2 (good_cons hs3 (ws_good hs4))))) rfl rfl rfl ⟨rfl, hs5⟩ (rmR hd hs6 false)) ⟨pcB ev (vR b :: as) M, hrecv, fun U hU hW => ⟨rfl, hc.2.2.2.2.2.2.2.2.1.go hS hU hW, by rw [hU]; exact hP⟩⟩ rfl (by rw [List.length_map]; exact hn) hl.1 (by rw [List.map_append, List.map_reverse]; rfl) (by show 2 * 0 + _ ≤ 8; rw [Nat.mul_zero, Nat.zero_add]; exact catS_ok _ _ hcat) hdec ⟨by show 0 + 0 ≤ _; exact Nat.zero_le _, by show 0 + 0 ≤ _; exact Nat.zero_le _⟩
theorem AW.callVT {ev : Ev} {d : Nat} {t : MT} {Q : Out → Mem → Prop} {pc : Nat} {L : Lo} {M : Mem} {t' : MT} {n d' idx ci b : Nat} {fs : List (Nat × Nat)} (as rest : List AV) (hs : VMok t' n ci) (hb : alk fkL b = some (ci, fs)) (hl' : Cond.methodLink (mN t).cls idx (mN t') ∈ lw_big) (hdec : decode (mC t) pc = .ok (.invokevirtual idx, 3)) (hd : d' < d) (hn : as.length = n) (hcat : catS rest ≤ 8)
    (h : AM ev true d' t' (vR b :: as) M Q) : AW ev true d t Q pc L (as.reverse ++ vR b :: rest) M := by
  intro p e s m args below meth c hc H locs ls hP hS hl
  refine call_thr (rest := rest) (a := ((vR b :: as).map (cv (eA ev))).toArray) hc hS ?_
  have hts := hc.2.2.2.2.2.2.1
  obtain ⟨⟨q, hq, hqn⟩, hs1, hs2, hs3, hs4, hs5, hs6⟩ := hs
  have hlt := (fk_lt _ (alk_mem hb)).1
  have hrecv := va_recv hc.2.2.2.2.2.2.2.2.1.2.1 hP hq (q0 := b) (by rw [wd_get ev M hlt, cellE_obj hb])
  rw [hqn] at hrecv
  refine vx_runV (Ts := lw_big) (own := (mN t).cls) (C := (mN t').cls) (nL := mL t) (cc := mC t) (n := n) (bytes := mC t') (maxL := mL t') (ret := mR t') (index := idx) (b := eA ev b) (As := as.map (cv (eA ev))) ⟨hc.1, hc.2.1, hc.2.2.1, hc.2.2.2.2.2.1, hts⟩ h
    (cwV n hts (good_cons hl' (good_cons hs1 (good_cons hs2 (good_cons hs3 (ws_good hs4))))) rfl rfl rfl ⟨rfl, hs5⟩ (rmR hd hs6 true)) ⟨pcB ev (vR b :: as) M, hrecv, fun U hU hW => ⟨rfl, hc.2.2.2.2.2.2.2.2.1.go hS hU hW, by rw [hU]; exact hP⟩⟩ rfl (by rw [List.length_map]; exact hn) hl.1 (by rw [List.map_append, List.map_reverse]; rfl) (by show 2 * 0 + _ ≤ 8; rw [Nat.mul_zero, Nat.zero_add]; exact catS_ok _ _ hcat) hdec ⟨by show 0 + 1 ≤ 1; omega, by show 0 + 6 ≤ 6; omega⟩
