/-! constructors that call -/
section IWC
variable {l : Launch} {D : va_G} {y : YT} {A : Nat → Prop} {cls : String} {cc : ByteArray} {nL : Nat} {g : GT} {n k pc : Nat} {ls : Array Slot} {st : List Value} {ws : va_W}
theorem va_pick {ws wc : va_W} {H : Heap} (hP : va_P D vwCl ws H) (isC : List Nat) (hC : isC.map (fun i => ws[i]?) = wc.map some) : va_P D vwCl wc H := fun k q hk => by
  have h1 : (isC.map (fun i => ws[i]?))[k]? = some (some q) := by rw [hC, List.getElem?_map, hk]; rfl
  rw [List.getElem?_map] at h1
  cases hi : isC[k]? with
  | none => rw [hi] at h1; cases h1
  | some i => rw [hi] at h1; exact hP i q (Option.some.inj h1)
theorem cm_good {yn : MethodName} {ccn : ByteArray} {mL : Nat} (h : Cond.code yn ccn mL none ∈ lw_big) : GoodIn lw_big (Cond.code yn ccn mL none :: lw_big) := fun w hw => (List.mem_cons.mp hw).elim (fun e => e ▸ big_good _ h) (fun h => big_good w h)
def CIok (own : String) (idx : Nat) (yn : MethodName) (ccn : ByteArray) (mL nn : Nat) : Prop := Cond.initialized yn.cls ∈ lw_big ∧ Cond.methodLink own idx yn ∈ lw_big ∧ Cond.instanceMethod yn ∈ lw_big ∧ Cond.code yn ccn mL none ∈ lw_big ∧ yn.name = "<init>" ∧ (yn.cls ≠ "java/lang/invoke/MethodHandle" ∧ yn.cls ≠ "java/lang/invoke/VarHandle" ∧ (parseMethodDescriptor yn.desc).map (fun d => d.parameters.length) = some nn)
theorem iw_callI (hc : IC D y A cls cc nL g) {lr : List (Nat × Value)} (hl : lv_has ls nL lr) {yn : MethodName} {ccn : ByteArray} {mLn nn idx b : Nat} {rm : Room} {As' rest : List Value} {Post : va_W → Prop} {wc wr : va_W} (hw : CIok cls idx yn ccn mLn nn) (hM : CM l D y yn ccn mLn rm (.ref b :: As') wc Post) (isC isR : List Nat) (hC : isC.map (fun i => ws[i]?) = wc.map some) (hCn : va_nd isC = true) (hR : isR.map (fun i => ws[i]?) = wr.map some) (hRn : va_nd isR = true) (hdis : ∀ i ∈ isR, i ∉ isC)
    (hroom : rm.frames + 1 ≤ (gR g).frames ∧ 8 + (mLn + 11) + rm.locals ≤ (gR g).locals) (hn : As'.length = nn) (hcat : 2 * 0 + (rest.map fun v => v.category).sum ≤ 8) (hf : n + rm.cells ≤ (gR g).cells ∧ k + rm.slots ≤ (gR g).slots) (hd : decode cc pc = .ok (.invokespecial idx, 3))
    (h : ∀ w1, Post w1 → IW l D A g (n + rm.cells) (k + rm.slots) (pc + 3) ls rest (wr ++ w1)) : IW l D A g n k pc ls (As'.reverse ++ .ref b :: rest) ws := fun H locs hP hD hS => by
  obtain ⟨w1, w2, w3, w4, w5, w6⟩ := hw
  have hts := hc.2.2.2.2.1
  have hK := hc.2.2.2.2.2.1
  have hPc := va_pick hP isC hC
  have hDc := hD.sub isC hCn hC
  have hFc := va_free (wc := wc) hD hS hc.2.2.2.2.2.2 isC hC
  refine va_callv (va_runI (nL := nL) (As := As') (rest := rest) (Ts := lw_big) ⟨hc.1, hc.2.1, hc.2.2.1, hc.2.2.2.1, hts⟩ (hM H.size) (cwI nn hts (cm_good w4) rfl rfl rfl (hts _ w1) (hts _ w2) (hts _ w3) w5 w6 hroom) ⟨fun a U g mk q => by obtain ⟨q0, q1, qP, qK, qD⟩ := q; exact ⟨q0, q1, qP, va_K.moved (u := U) (U := U.calling g mk a) (Vm.Alike.refl U.vm) qK, qD⟩, fun U hU hW => ⟨rfl, by rw [hU], by rw [hU]; exact hPc, va_K.moved hW.alike hK, hDc.weaken (fun _ _ _ _ => trivial)⟩⟩ rfl hn hl.1 rfl hcat hd hf) hS (fun q _ z => hFc q z) hFc (fun u t H1 locs1 ht hvm hpost hB hsz hk1 hS1 => ?_)
  obtain ⟨hP1, hD1⟩ := hB
  rw [ht] at hP1
  obtain ⟨hP2, hD2⟩ := va_join (wr := wr) (w1 := u) hP hD isC isR hC hR hRn hdis hk1 hFc hP1 hD1
  exact h u hpost H1 locs1 hP2 hD2 hS1
end IWC
