/-! constructors: a world that grows -/
abbrev YT : Type := ClassId × ClassId × ClassId
def tyY (y : YT) : List (ClassId × FieldType) := [(y.1, .int), (y.2.1, .boolean), (y.2.2, .long)]
def IC (D : va_G) (y : YT) (A : Nat → Prop) (cls : String) (cc : ByteArray) (nL : Nat) (g : GT) : Prop :=
  (gP g).tables.exec = Jvm.exec ∧ (gC g).code = cc ∧ (gC g).maxLocals = nL ∧ (gS g).vm.findClass cls = some (gM g).cls ∧ (∀ w ∈ lw_big, w.before (gA g) (gS g) = true) ∧ va_K D vwCl (tyY y) (gS g) ∧ (∀ q, (gS g).heap.size ≤ q → A q)
def IW (l : Launch) (D : va_G) (A : Nat → Prop) (g : GT) (n k pc : Nat) (ls : Array Slot) (st : List Value) (ws : va_W) : Prop :=
  ∀ (H : Heap) (locs : List Loc), va_P D vwCl ws H → va_D A ws → va_S A (gS g).heap H locs → W (gP g) l (gE g) (gR g) (gS g) (gM g) (gA g) (gB g) (gH g) (gC g) H locs n k (gZ g) (F0 (gM g) pc ls st)
section IWR
variable {l : Launch} {D : va_G} {y : YT} {A : Nat → Prop} {cls : String} {cc : ByteArray} {nL : Nat} {g : GT} {n k pc : Nat} {ls : Array Slot} {st : List Value} {ws : va_W}
theorem iw_wid {n' k' : Nat} (h1 : n ≤ n') (h2 : k ≤ k') (h : IW l D A g n' k' pc ls st ws) : IW l D A g n k pc ls st ws := fun H locs hP hD hS => W.widen h1 h2 (h H locs hP hD hS)
theorem iw_aload (hc : IC D y A cls cc nL g) {lr : List (Nat × Value)} (hl : lv_has ls nL lr) {i : Fin 4} (kx : Nat) {q : Nat} (hk : lr[kx]? = some (i.val, .ref q)) (hd : decode cc pc = .ok (.aload_n i, 1)) (h : IW l D A g n k (pc + 1) ls (.ref q :: st) ws) : IW l D A g n k pc ls st ws :=
  fun H locs hP hD hS => lv_aload_n hc.1 hc.2.1 hd rfl (lv_at hl kx hk) (h H locs hP hD hS)
theorem iw_bip (hc : IC D y A cls cc nL g) {x : Int} {v : Int32} (hv : (Int8.ofInt x).toInt32 = v) (hd : decode cc pc = .ok (.bipush x, 2)) (h : IW l D A g n k (pc + 2) ls (.int v :: st) ws) : IW l D A g n k pc ls st ws :=
  fun H locs hP hD hS => lv_bipush hc.1 hc.2.1 hd hv (h H locs hP hD hS)
theorem iw_sip (hc : IC D y A cls cc nL g) {x : Int} {v : Int32} (hv : (Int16.ofInt x).toInt32 = v) (hd : decode cc pc = .ok (.sipush x, 3)) (h : IW l D A g n k (pc + 3) ls (.int v :: st) ws) : IW l D A g n k pc ls st ws :=
  fun H locs hP hD hS => lv_sipush hc.1 hc.2.1 hd hv (h H locs hP hD hS)
theorem iw_dup (hc : IC D y A cls cc nL g) {q : Nat} (hd : decode cc pc = .ok (.dup, 1)) (h : IW l D A g n k (pc + 1) ls (.ref q :: .ref q :: st) ws) : IW l D A g n k pc ls (.ref q :: st) ws :=
  fun H locs hP hD hS => lv_dup hc.1 hc.2.1 hd rfl (h H locs hP hD hS)
theorem iw_newa (hc : IC D y A cls cc nL g) {atype : ArrayType} {ty : FieldType} {cY : ClassId} (hty : newarray.typeOf atype = ty) (t0 : Nat) (ht : (tyY y)[t0]? = some (cY, ty)) (hra : ∀ cA, va_RA (gS g) cA ty = ((gS g).vm.findClass ("[" ++ ty.toString) = some cA)) (harr : Cond.arrayClass ty ∈ lw_big) {nn : Int32} {N : Nat} {a0 : vp_A} (ha : ∀ cA : ClassId, vp_cell cA a0 = arrV cA N (fun _ => defaultValue ty)) (hn : ¬ nn < 0) (hN : nn.toNatClampNeg = N) (hbytes : N * componentBytes ty ≤ 536870912) (hcells : n + 1 ≤ (gR g).cells) (hslots : k + N ≤ (gR g).slots) (hd : decode cc pc = .ok (.newarray atype, 2))
    (h : ∀ q, IW l D A g (n + 1) (k + N) (pc + 2) ls (.ref q :: st) (ws ++ [(q, .inl (cY, a0))])) : IW l D A g n k pc ls (.int nn :: st) ws := fun H locs hP hD hS => by
  have hK := hc.2.2.2.2.2.1
  refine va_newa (D := D) (cl := vwCl) (tys := tyY y) (A := A) hc.1 hc.2.1 (hty ▸ hc.2.2.2.2.1 _ harr) hty hK hP hD hS hc.2.2.2.2.2.2 ha hn hN hbytes hcells hslots hd (fun q cA H1 hK1 hP1 hD1 hS1 => ?_)
  have e1 := (hK1.2 3 (cA, ty) rfl).2
  have e2 := (hK.2 t0 (cY, ty) ht).2
  rw [hra] at e1 e2
  have e : cA = cY := Option.some.inj (e1.symm.trans e2)
  rw [e] at hP1 hD1
  exact h q H1 locs hP1 hD1 hS1
theorem iw_new (hc : IC D y A cls cc nL g) {C : String} {T : u_T} {N ci idx : Nat} (hcl : vwCl[ci]? = some (C, T, N)) (ty : Nat → FieldType) (hty : ∀ j, j < N → parseFieldDescriptor (T j).2.2.1 = some (ty j)) (hlk : Cond.classLink cls idx C ∈ lw_big) (hin : Cond.instantiable C N ∈ lw_big) (hini : Cond.initialized C ∈ lw_big) {fs : List Value} (hfs : ∀ j, j < N → defaultValue (ty j) = vp_V fs j) (hcells : n + 1 ≤ (gR g).cells) (hslots : k + N ≤ (gR g).slots) (hd : decode cc pc = .ok (.new idx, 3))
    (h : ∀ q, IW l D A g (n + 1) (k + N) (pc + 3) ls (.ref q :: st) (ws ++ [(q, .inr (ci, fs))])) : IW l D A g n k pc ls st ws := fun H locs hP hD hS =>
  va_new (D := D) (cl := vwCl) (tys := tyY y) (A := A) (C := C) (T := T) (N := N) (ci := ci) hc.1 hc.2.1 hc.2.2.2.2.1 (wsAll _ _ hcl) ty hty hc.2.2.2.1 (hc.2.2.2.2.1 _ hlk) (hc.2.2.2.2.1 _ hin) (hc.2.2.2.2.1 _ hini) hc.2.2.2.2.2.1 hP hD hS hc.2.2.2.2.2.2 hcl hfs hcells hslots hd (fun q H1 hP1 hD1 hS1 => h q H1 locs hP1 hD1 hS1)
theorem iw_putF (hc : IC D y A cls cc nL g) (hin : (gH g).name = "<init>") (q0 : Nat) {a ci N idx : Nat} {C : String} {T : u_T} {fs : List Value} (hcl : vwCl[ci]? = some (C, T, N)) (hw : ws[q0]? = some (a, .inr (ci, fs))) (kf : Nat) (hk : kf < N) (hlink : Cond.fieldLink cls idx (T kf).1 (T kf).2.1 (T kf).2.2.1 ∈ lw_big) (hfin : (T kf).2.2.2 = true) (hdecl : (T kf).1 = cls) {ty : FieldType} {v : Value} (hpd : parseFieldDescriptor (T kf).2.2.1 = some ty) (hn : narrow ty v = v) (hfit : fits ty v = true) (hl : kf < fs.length) (hd : decode cc pc = .ok (.putfield idx, 3))
    (h : IW l D A g n k (pc + 3) ls st (ws.set q0 (a, .inr (ci, fs.set kf v)))) : IW l D A g n k pc ls (v :: .ref a :: st) ws := fun H locs hP hD hS => by
  obtain ⟨hnm, ty0, hty0⟩ := tyAll _ _ hcl
  exact va_putF (D := D) (cl := vwCl) (tys := tyY y) (A := A) (ref := (T kf).1) (C := C) (T := T) (N := N) (ci := ci) hc.1 hc.2.1 hc.2.2.2.2.1 (wsAll _ _ hcl) ty0 hty0 hnm hc.2.2.2.1 hc.2.2.2.2.2.1 hP hD hS q0 hw hcl kf hk (hc.2.2.2.2.1 _ hlink) (fun _ h9 => h9) hfin hin hdecl hpd hn hfit hl hd (fun H1 locs1 hP1 hD1 hS1 => h H1 locs1 hP1 hD1 hS1)
theorem iw_get (hc : IC D y A cls cc nL g) (q0 : Nat) {a ci N idx : Nat} {C : String} {T : u_T} {fs : List Value} (hcl : vwCl[ci]? = some (C, T, N)) (hw : ws[q0]? = some (a, .inr (ci, fs))) (kf : Nat) (hk : kf < N) (hlink : Cond.fieldLink cls idx (T kf).1 (T kf).2.1 (T kf).2.2.1 ∈ lw_big) {v : Value} (hv : fs[kf]? = some v) (hd : decode cc pc = .ok (.getfield idx, 3))
    (h : IW l D A g n k (pc + 3) ls (v :: st) ws) : IW l D A g n k pc ls (.ref a :: st) ws := fun H locs hP hD hS =>
  va_get (D := D) (cl := vwCl) (tys := tyY y) (ref := (T kf).1) (C := C) (T := T) (N := N) (ci := ci) hc.1 hc.2.1 hc.2.2.2.2.1 (wsAll _ _ hcl) hc.2.2.2.1 hc.2.2.2.2.2.1 hP q0 hw hcl kf hk (hc.2.2.2.2.1 _ hlink) (fun _ h9 => h9) hv hd (h H locs hP hD hS)
theorem ow_obj : Cond.instanceMethod Lib.objectInit ∈ lw_big := bm 93 _ (by decide +kernel) (by decide +kernel)
theorem ow_code : Cond.code Lib.objectInit ⟨#[0xb1]⟩ 1 none ∈ lw_big := bm 94 _ (by decide +kernel) (by decide +kernel)
theorem iw_obj (hc : IC D y A cls cc nL g) {lr : List (Nat × Value)} (hl : lv_has ls nL lr) {q idx : Nat} (hlink : Cond.methodLink cls idx Lib.objectInit ∈ lw_big) (hd : decode cc pc = .ok (.invokespecial idx, 3)) (hf : 1 ≤ (gR g).frames) (hlo : 12 ≤ (gR g).locals) (h : IW l D A g n k (pc + 3) ls [] ws) : IW l D A g n k pc ls [.ref q] ws := fun H locs hP hD hS =>
  W.objInit hc.1 hc.2.1 hc.2.2.2.1 (hc.2.2.2.2.1 _ hlink) (hc.2.2.2.2.1 _ ow_obj) (hc.2.2.2.2.1 _ ow_code) rfl (by rw [hc.2.2.1]; exact hl.1) rfl hd hf (by show 2 * 0 + 0 + 12 ≤ _; exact hlo) (W.eq (g2 := F0 (gM g) (pc + 3) ls []) rfl (h H locs hP hD hS))
end IWR
/-- a constructor's contract -/
def CM (l : Launch) (D : va_G) (y : YT) (yn : MethodName) (cc : ByteArray) (maxL : Nat) (rm : Room) (As : List Value) (ws0 : va_W) (Post : va_W → Prop) : Prop :=
  ∀ sz : Nat, Met l yn (Cond.code yn cc maxL none :: lw_big) rm (va_Pc As (fun U => U.heap.size = sz ∧ va_P D vwCl ws0 U.heap ∧ va_K D vwCl (tyY y) U ∧ va_D (fun _ => True) ws0)) (va_Qv (fun u : va_W => Post u) (fun u t => va_P D vwCl u t.heap ∧ va_D (va_A ws0 sz) u) (va_A ws0 sz)) rm.cells rm.slots (va_A ws0 sz)
theorem CM.of {l : Launch} {D : va_G} {y : YT} {yn : MethodName} {cc : ByteArray} {maxL : Nat} {rm : Room} {As : List Value} {ws0 : va_W} {Post : va_W → Prop} (hp : plainName yn.cls = true) (hnm : yn.name = "<init>") (hlen : (lg_sl As).length ≤ maxL)
    (h : ∀ (A : Nat → Prop) (g : GT) (ls : Array Slot), IC D y A yn.cls cc maxL g → (gH g).name = "<init>" → gR g = rm → lv_has ls maxL (lv_args 0 As) → (∀ pc ws, decode cc pc = .ok (.return_, 1) → Post ws → IW l D A g rm.cells rm.slots pc ls [] ws) → IW l D A g 0 0 0 ls [] ws0) : CM l D y yn cc maxL rm As ws0 Post := by
  intro sz
  refine Met.ofW (cc := cc) (maxL := maxL) (ret := none) hp rfl ?_
  intro p e s m args below meth c s₁ B hml hv
  obtain ⟨rfl, hsz, hP, hK, hD0⟩ := hv
  have hts := atoms_spec (ws := Cond.code yn cc maxL none :: lw_big) B.pre
  have hin : meth.name = "<init>" := (name_of_methodNamed B.named B.method).1.trans hnm
  subst hsz
  have hD := hD0.self (sz := s.heap.size)
  have hl := lv_entry As (n := maxL) hlen
  rw [lg_entry_eq]
  refine h (va_A ws0 s.heap.size) (p, e, rm, s, m, _, below, meth, c, _) _ ⟨B.exec, B.bytes, hml, findClass_of_methodNamed B.named, fun w hw => hts w (List.mem_cons_of_mem _ hw), hK, fun q hq => Or.inr hq⟩ hin rfl hl (fun pc ws hd hpost H locs hP1 hD1 hS1 => ?_) s.heap [] hP hD va_S.rf
  exact W.vret B.exec B.bytes B.returns (fun t ht hW => ⟨⟨ws, rfl, hpost, by rw [ht]; exact hP1, hD1⟩, hS1.F ht⟩) hS1.2.2 hd B.notSynchronized
