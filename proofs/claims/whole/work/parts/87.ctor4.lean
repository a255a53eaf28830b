section IWD
variable {l : Launch} {D : va_G} {y : YT} {A : Nat → Prop} {cls : String} {cc : ByteArray} {nL : Nat} {g : GT} {n k pc : Nat} {ls : Array Slot} {st : List Value} {ws : va_W}
theorem iw_icn (hc : IC D y A cls cc nL g) {x : Int} {v : Int32} (hv : Int32.ofInt x = v) (hd : decode cc pc = .ok (.iconst x, 1)) (h : IW l D A g n k (pc + 1) ls (.int v :: st) ws) : IW l D A g n k pc ls st ws :=
  fun H locs hP hD hS => lv_iconst hc.1 hc.2.1 hd hv (h H locs hP hD hS)
def DNok (yn : MethodName) (ccn : ByteArray) (mL nn : Nat) : Prop := Cond.initialized yn.cls ∈ lw_big ∧ Cond.instanceMethod yn ∈ lw_big ∧ Cond.code yn ccn mL none ∈ lw_big ∧ yn.name = "<init>" ∧ (yn.cls ≠ "java/lang/invoke/MethodHandle" ∧ yn.cls ≠ "java/lang/invoke/VarHandle" ∧ (parseMethodDescriptor yn.desc).map (fun d => d.parameters.length) = some nn)
theorem iw_callIN (hc : IC D y A cls cc nL g) {lr : List (Nat × Value)} (hl : lv_has ls nL lr) {yn : MethodName} {ccn : ByteArray} {mLn nn idx b : Nat} {host : String} {rm : Room} {As' rest : List Value} {Post : va_W → Prop} {wc wr : va_W} (hw : DNok yn ccn mLn nn) (hlk : va_Nw (.methodLinkNest cls idx yn host) (gS g)) (hM : CM l D y yn ccn mLn rm (.ref b :: As') wc Post) (isC isR : List Nat) (hC : isC.map (fun i => ws[i]?) = wc.map some) (hCn : va_nd isC = true) (hR : isR.map (fun i => ws[i]?) = wr.map some) (hRn : va_nd isR = true) (hdis : ∀ i ∈ isR, i ∉ isC)
    (hroom : rm.frames + 1 ≤ (gR g).frames ∧ 8 + (mLn + 11) + rm.locals ≤ (gR g).locals) (hn : As'.length = nn) (hcat : 2 * 0 + (rest.map fun v => v.category).sum ≤ 8) (hf : n + rm.cells ≤ (gR g).cells ∧ k + rm.slots ≤ (gR g).slots) (hd : decode cc pc = .ok (.invokespecial idx, 3))
    (h : ∀ w1, Post w1 → IW l D A g (n + rm.cells) (k + rm.slots) (pc + 3) ls rest (wr ++ w1)) : IW l D A g n k pc ls (As'.reverse ++ .ref b :: rest) ws := fun H locs hP hD hS => by
  obtain ⟨w1, w3, w4, w5, w6⟩ := hw
  have hts := hc.2.2.2.2.1
  have hK := hc.2.2.2.2.2.1
  have hPc := va_pick hP isC hC
  have hDc := hD.sub isC hCn hC
  have hFc := va_free (wc := wc) hD hS hc.2.2.2.2.2.2 isC hC
  refine va_callv (va_runIN (nL := nL) (As := As') (rest := rest) (Ts := lw_big) ⟨hc.1, hc.2.1, hc.2.2.1, hc.2.2.2.1, hts⟩ (hM H.size) ⟨va_cnB nn hts (cm_good w4) rfl rfl rfl hlk (hts _ w1) w6 hroom, w5, hts _ w3⟩ ⟨fun a U g mk q => by obtain ⟨q0, q1, qP, qK, qD⟩ := q; exact ⟨q0, q1, qP, va_K.moved (u := U) (U := U.calling g mk a) (Vm.Alike.refl U.vm) qK, qD⟩, fun U hU hW => ⟨rfl, by rw [hU], by rw [hU]; exact hPc, va_K.moved hW.alike hK, hDc.weaken (fun _ _ _ _ => trivial)⟩⟩ rfl hn hl.1 rfl hcat hd hf) hS (fun q _ z => hFc q z) hFc (fun u t H1 locs1 ht hvm hpost hB hsz hk1 hS1 => ?_)
  obtain ⟨hP1, hD1⟩ := hB
  rw [ht] at hP1
  obtain ⟨hP2, hD2⟩ := va_join (wr := wr) (w1 := u) hP hD isC isR hC hR hRn hdis hk1 hFc hP1 hD1
  exact h u hpost H1 locs1 hP2 hD2 hS1
theorem iw_fill (hc : IC D y A RX6 cc nL g) {lr : List (Nat × Value)} (hl : lv_has ls nL lr) {b : Nat} {v : Int32} {f : Nat → Int32} {rest : List Value} {wr : va_W} (isC isR : List Nat) (hC : isC.map (fun i => ws[i]?) = [(b, (.inl (y.1, 576, .inl f) : va_E))].map some) (hCn : va_nd isC = true) (hR : isR.map (fun i => ws[i]?) = wr.map some) (hRn : va_nd isR = true) (hdis : ∀ i ∈ isR, i ∉ isC)
    (hroom : 1 ≤ (gR g).frames ∧ 23 ≤ (gR g).locals) (hcat : 2 * 0 + (rest.map fun v => v.category).sum ≤ 8) (hf : n + 0 ≤ (gR g).cells ∧ k + 0 ≤ (gR g).slots) (hd : decode cc pc = .ok (.invokestatic 18, 3))
    (h : ∀ f' : Nat → Int32, (∀ j, j < 576 → f' j = v) → IW l D A g n k (pc + 3) ls rest (wr ++ [(b, .inl (y.1, 576, .inl f'))])) : IW l D A g n k pc ls (.int v :: .ref b :: rest) ws := fun H locs hP hD hS => by
  obtain ⟨s1, s3, s4, s5, s6⟩ := sm_J7_fill_53178
  have hts := hc.2.2.2.2.1
  have hK := hc.2.2.2.2.2.1
  have hPc := va_pick hP isC hC
  have hDc := hD.sub isC hCn hC
  have hFc := va_free (wc := [(b, (.inl (y.1, 576, .inl f) : va_E))]) hD hS hc.2.2.2.2.2.2 isC hC
  refine va_callv (va_runS (nL := nL) (As := [.ref b, .int v]) (rest := rest) (Ts := lw_big) (n := 2) ⟨hc.1, hc.2.1, hc.2.2.1, hc.2.2.2.1, hts⟩ (ct_fill (l := l) (D := D) (y := y) (q := b) (v := v) (f := f) H.size) (va_cwS 2 hts (good_cons hX6_18 (good_cons s1 (good_cons s3 (cm_good s4)))) rfl rfl rfl s5 hroom) ⟨fun a U g mk q => by obtain ⟨q0, q1, qP, qK, qD⟩ := q; exact ⟨q0, q1, qP, va_K.moved (u := U) (U := U.calling g mk a) (Vm.Alike.refl U.vm) qK, qD⟩, fun U hU hW => ⟨rfl, by rw [hU], by rw [hU]; exact hPc, va_K.moved hW.alike hK, hDc.weaken (fun _ _ _ _ => trivial)⟩⟩ rfl rfl hl.1 rfl hcat hd hf) hS (fun q _ z => hFc q z) hFc (fun u t H1 locs1 ht hvm hpost hB hsz hk1 hS1 => ?_)
  obtain ⟨hP1, hD1⟩ := hB
  rw [ht] at hP1
  obtain ⟨hP2, hD2⟩ := va_join (wr := wr) (w1 := [(b, .inl (y.1, 576, .inl u))]) hP hD isC isR hC hR hRn hdis hk1 hFc hP1 hD1
  exact h u hpost H1 locs1 hP2 hD2 hS1
end IWD
/-- the words of the nest that MirrorTelegraph's constructor wants -/
def nsL : List Cond := [.methodLinkNest RX7 11 yX5_init RX7, .methodLinkNest RX7 18 yX1_init RX7, .methodLinkNest RX7 25 yX4_init RX7, .methodLinkNest RX7 32 yX0_init RX7]
def nsAt (U : State) : Prop := ∀ w ∈ nsL, va_Nw w U
theorem nsAt.warm {s U : State} (h : nsAt s) (hW : s.WarmedH U.vm) : nsAt U := by
  intro w hw
  have h1 := h w hw
  simp only [nsL, List.mem_cons, List.not_mem_nil, or_false] at hw
  rcases hw with rfl | rfl | rfl | rfl <;> exact va_Nw.warmM hW h1
theorem nsAt.same {s U : State} (h : nsAt s) (e : s.vm = U.vm) : nsAt U := by
  intro w hw
  have h1 := h w hw
  simp only [nsL, List.mem_cons, List.not_mem_nil, or_false] at hw
  rcases hw with rfl | rfl | rfl | rfl <;> exact va_Nw.same rfl e h1
def CM7 (l : Launch) (D : va_G) (y : YT) (yn : MethodName) (cc : ByteArray) (maxL : Nat) (rm : Room) (As : List Value) (ws0 : va_W) (Post : va_W → Prop) : Prop :=
  ∀ sz : Nat, Met l yn (Cond.code yn cc maxL none :: lw_big) rm (va_Pc As (fun U => U.heap.size = sz ∧ va_P D vwCl ws0 U.heap ∧ va_K D vwCl (tyY y) U ∧ va_D (fun _ => True) ws0 ∧ nsAt U)) (va_Qv (fun u : va_W => Post u) (fun u t => va_P D vwCl u t.heap ∧ va_D (va_A ws0 sz) u) (va_A ws0 sz)) rm.cells rm.slots (va_A ws0 sz)
theorem CM7.of {l : Launch} {D : va_G} {y : YT} {yn : MethodName} {cc : ByteArray} {maxL : Nat} {rm : Room} {As : List Value} {ws0 : va_W} {Post : va_W → Prop} (hp : plainName yn.cls = true) (hnm : yn.name = "<init>") (hlen : (lg_sl As).length ≤ maxL)
    (h : ∀ (A : Nat → Prop) (g : GT) (ls : Array Slot), IC D y A yn.cls cc maxL g → (gH g).name = "<init>" → gR g = rm → nsAt (gS g) → lv_has ls maxL (lv_args 0 As) → (∀ pc ws, decode cc pc = .ok (.return_, 1) → Post ws → IW l D A g rm.cells rm.slots pc ls [] ws) → IW l D A g 0 0 0 ls [] ws0) : CM7 l D y yn cc maxL rm As ws0 Post := by
  intro sz
  refine Met.ofW (cc := cc) (maxL := maxL) (ret := none) hp rfl ?_
  intro p e s m args below meth c s₁ B hml hv
  obtain ⟨rfl, hsz, hP, hK, hD0, hns⟩ := hv
  have hts := atoms_spec (ws := Cond.code yn cc maxL none :: lw_big) B.pre
  have hin : meth.name = "<init>" := (name_of_methodNamed B.named B.method).1.trans hnm
  subst hsz
  have hD := hD0.self (sz := s.heap.size)
  have hl := lv_entry As (n := maxL) hlen
  rw [lg_entry_eq]
  refine h (va_A ws0 s.heap.size) (p, e, rm, s, m, _, below, meth, c, _) _ ⟨B.exec, B.bytes, hml, findClass_of_methodNamed B.named, fun w hw => hts w (List.mem_cons_of_mem _ hw), hK, fun q hq => Or.inr hq⟩ hin rfl hns hl (fun pc ws hd hpost H locs hP1 hD1 hS1 => ?_) s.heap [] hP hD va_S.rf
  exact W.vret B.exec B.bytes B.returns (fun t ht hW => ⟨⟨ws, rfl, hpost, by rw [ht]; exact hP1, hD1⟩, hS1.F ht⟩) hS1.2.2 hd B.notSynchronized
section IWE
variable {l : Launch} {D : va_G} {y : YT} {A : Nat → Prop} {cls : String} {cc : ByteArray} {nL : Nat} {g : GT} {n k pc : Nat} {ls : Array Slot} {st : List Value} {ws : va_W}
theorem iw_callI7 (hc : IC D y A cls cc nL g) {lr : List (Nat × Value)} (hl : lv_has ls nL lr) (hns : nsAt (gS g)) {yn : MethodName} {ccn : ByteArray} {mLn nn idx b : Nat} {rm : Room} {As' rest : List Value} {Post : va_W → Prop} {wc wr : va_W} (hw : CIok cls idx yn ccn mLn nn) (hM : CM7 l D y yn ccn mLn rm (.ref b :: As') wc Post) (isC isR : List Nat) (hC : isC.map (fun i => ws[i]?) = wc.map some) (hCn : va_nd isC = true) (hR : isR.map (fun i => ws[i]?) = wr.map some) (hRn : va_nd isR = true) (hdis : ∀ i ∈ isR, i ∉ isC)
    (hroom : rm.frames + 1 ≤ (gR g).frames ∧ 8 + (mLn + 11) + rm.locals ≤ (gR g).locals) (hn : As'.length = nn) (hcat : 2 * 0 + (rest.map fun v => v.category).sum ≤ 8) (hf : n + rm.cells ≤ (gR g).cells ∧ k + rm.slots ≤ (gR g).slots) (hd : decode cc pc = .ok (.invokespecial idx, 3))
    (h : ∀ w1, Post w1 → IW l D A g (n + rm.cells) (k + rm.slots) (pc + 3) ls rest (wr ++ w1)) : IW l D A g n k pc ls (As'.reverse ++ .ref b :: rest) ws := fun H locs hP hD hS => by
  obtain ⟨w1, w2, w3, w4, w5, w6⟩ := hw
  have hts := hc.2.2.2.2.1
  have hK := hc.2.2.2.2.2.1
  have hPc := va_pick hP isC hC
  have hDc := hD.sub isC hCn hC
  have hFc := va_free (wc := wc) hD hS hc.2.2.2.2.2.2 isC hC
  refine va_callv (va_runI (nL := nL) (As := As') (rest := rest) (Ts := lw_big) ⟨hc.1, hc.2.1, hc.2.2.1, hc.2.2.2.1, hts⟩ (hM H.size) (cwI nn hts (cm_good w4) rfl rfl rfl (hts _ w1) (hts _ w2) (hts _ w3) w5 w6 hroom) ⟨fun a U g mk q => by obtain ⟨q0, q1, qP, qK, qD, qN⟩ := q; exact ⟨q0, q1, qP, va_K.moved (u := U) (U := U.calling g mk a) (Vm.Alike.refl U.vm) qK, qD, nsAt.same (s := U) qN rfl⟩, fun U hU hW => ⟨rfl, by rw [hU], by rw [hU]; exact hPc, va_K.moved hW.alike hK, hDc.weaken (fun _ _ _ _ => trivial), hns.warm hW⟩⟩ rfl hn hl.1 rfl hcat hd hf) hS (fun q _ z => hFc q z) hFc (fun u t H1 locs1 ht hvm hpost hB hsz hk1 hS1 => ?_)
  obtain ⟨hP1, hD1⟩ := hB
  rw [ht] at hP1
  obtain ⟨hP2, hD2⟩ := va_join (wr := wr) (w1 := u) hP hD isC isR hC hR hRn hdis hk1 hFc hP1 hD1
  exact h u hpost H1 locs1 hP2 hD2 hS1
end IWE
