/-! the law's own code, and its helpers: rows by places, in a context that stands fast -/
abbrev GT : Type := Program × Env × Room × State × MethodId × Array Value × List Frame × Method × Code × (State → Prop)
abbrev gP (g : GT) : Program := g.1
abbrev gE (g : GT) : Env := g.2.1
abbrev gR (g : GT) : Room := g.2.2.1
abbrev gS (g : GT) : State := g.2.2.2.1
abbrev gM (g : GT) : MethodId := g.2.2.2.2.1
abbrev gA (g : GT) : Array Value := g.2.2.2.2.2.1
abbrev gB (g : GT) : List Frame := g.2.2.2.2.2.2.1
abbrev gH (g : GT) : Method := g.2.2.2.2.2.2.2.1
abbrev gC (g : GT) : Code := g.2.2.2.2.2.2.2.2.1
abbrev gZ (g : GT) : State → Prop := g.2.2.2.2.2.2.2.2.2
def ncAt (U : State) : Prop := va_Nc "java/lang/IllegalArgumentException" "java/lang/IndexOutOfBoundsException" U ∧ va_Nc "java/lang/IllegalStateException" "java/lang/IndexOutOfBoundsException" U ∧ va_Nc "java/lang/IllegalStateException" "java/lang/IllegalArgumentException" U
theorem ncAt.go {u U : State} (hvm : u.vm.Alike U.vm) (h : ncAt u) : ncAt U := ⟨h.1.moved hvm, h.2.1.moved hvm, h.2.2.moved hvm⟩
def GC (ev : Ev) (t : MT) (g : GT) : Prop := (gP g).tables.exec = Jvm.exec ∧ (gC g).code = mC t ∧ (gC g).maxLocals = mL t ∧ (gS g).vm.findClass (mN t).cls = some (gM g).cls ∧ (∀ w ∈ lw_big, w.before (gA g) (gS g) = true) ∧ evAt ev (gS g) ∧ ncAt (gS g)
def GW (ev : Ev) (t : MT) (g : GT) (n k : Nat) (pc : Nat) (L : Lo) (st : List AV) (M : Mem) : Prop :=
  ∀ (H : Heap) (locs : List Loc) (ls : Array Slot), PW ev M H → va_S (eR ev) (gS g).heap H locs → LH (eA ev) ls (mL t) L →
    W (gP g) (eL ev) (gE g) (gR g) (gS g) (gM g) (gA g) (gB g) (gH g) (gC g) H locs n k (gZ g) (F0 (gM g) pc ls (st.map (cv (eA ev))))
section GWR
variable {ev : Ev} {t : MT} {g : GT} {n k pc : Nat} {L : Lo} {M : Mem} {st : List AV}
theorem GW.sub (L' : Lo) (hs : lsub L' L) (h : GW ev t g n k pc L' st M) : GW ev t g n k pc L st M := fun H locs ls hP hS hl => h H locs ls hP hS (hl.sub hs)
theorem GW.mem {M' : Mem} (h : M = M') (hk : GW ev t g n k pc L st M') : GW ev t g n k pc L st M := h ▸ hk
theorem GW.wid {n' k' : Nat} (h1 : n ≤ n') (h2 : k ≤ k') (h : GW ev t g n' k' pc L st M) : GW ev t g n k pc L st M := fun H locs ls hP hS hl => W.widen h1 h2 (h H locs ls hP hS hl)
theorem gw_iconst (hc : GC ev t g) {x : Int} (hd : decode (mC t) pc = .ok (.iconst x, 1)) (h : GW ev t g n k (pc + 1) L (vI x :: st) M) : GW ev t g n k pc L st M :=
  fun H locs ls hP hS hl => lv_iconst (v := Int32.ofInt x) hc.1 hc.2.1 hd rfl (h H locs ls hP hS hl)
theorem gw_bipush (hc : GC ev t g) {x : Int} (h0 : -128 ≤ x) (h1 : x < 128) (hd : decode (mC t) pc = .ok (.bipush x, 2)) (h : GW ev t g n k (pc + 2) L (vI x :: st) M) : GW ev t g n k pc L st M :=
  fun H locs ls hP hS hl => lv_bipush (v := Int32.ofInt x) hc.1 hc.2.1 hd (ob8 h0 h1) (h H locs ls hP hS hl)
theorem gw_iload_n (hc : GC ev t g) {i : Fin 4} {x : Int} (hd : decode (mC t) pc = .ok (.iload_n i, 1)) (hg : lget L i.val = some (vI x)) (h : GW ev t g n k (pc + 1) L (vI x :: st) M) : GW ev t g n k pc L st M :=
  fun H locs ls hP hS hl => lv_iload_n hc.1 hc.2.1 hd rfl (hl.at hg) (h H locs ls hP hS hl)
theorem gw_iload (hc : GC ev t g) {i : Nat} {x : Int} (hd : decode (mC t) pc = .ok (.iload i, 2)) (hg : lget L i = some (vI x)) (h : GW ev t g n k (pc + 2) L (vI x :: st) M) : GW ev t g n k pc L st M :=
  fun H locs ls hP hS hl => lv_iload hc.1 hc.2.1 hd (hl.at hg) (h H locs ls hP hS hl)
theorem gw_aload_n (hc : GC ev t g) {i : Fin 4} {x : Nat} (hd : decode (mC t) pc = .ok (.aload_n i, 1)) (hg : lget L i.val = some (vR x)) (h : GW ev t g n k (pc + 1) L (vR x :: st) M) : GW ev t g n k pc L st M :=
  fun H locs ls hP hS hl => lv_aload_n hc.1 hc.2.1 hd rfl (hl.at hg) (h H locs ls hP hS hl)
theorem gw_aload (hc : GC ev t g) {i : Nat} {x : Nat} (hd : decode (mC t) pc = .ok (.aload i, 2)) (hg : lget L i = some (vR x)) (h : GW ev t g n k (pc + 2) L (vR x :: st) M) : GW ev t g n k pc L st M :=
  fun H locs ls hP hS hl => lv_aload hc.1 hc.2.1 hd (hl.at hg) (h H locs ls hP hS hl)
theorem gw_dload (hc : GC ev t g) {i : Nat} {x : UInt64} (hd : decode (mC t) pc = .ok (.dload i, 2)) (hg : lget L i = some (vD x)) (h : GW ev t g n k (pc + 2) L (vD x :: st) M) : GW ev t g n k pc L st M :=
  fun H locs ls hP hS hl => lv_dload hc.1 hc.2.1 hd (hl.at hg) (h H locs ls hP hS hl)
theorem gw_istore (hc : GC ev t g) {i : Nat} {x : Int} (hi : i < mL t) (hd : decode (mC t) pc = .ok (.istore i, 2)) (h : GW ev t g n k (pc + 2) (sto1 L i (vI x)) st M) : GW ev t g n k pc L (vI x :: st) M :=
  fun H locs ls hP hS hl => lv_istore (x := Int32.ofInt x) hc.1 hc.2.1 hd hl hi rfl (fun ls' hl' => h H locs ls' hP hS (LH.st1 (v := vI x) hl'))
theorem gw_dstore (hc : GC ev t g) {i : Nat} {x : UInt64} (hi : i + 1 < mL t) (hd : decode (mC t) pc = .ok (.dstore i, 2)) (h : GW ev t g n k (pc + 2) (sto2 L i (vD x)) st M) : GW ev t g n k pc L (vD x :: st) M :=
  fun H locs ls hP hS hl => lv_dstore (x := x) hc.1 hc.2.1 hd hl hi rfl (fun ls' hl' => h H locs ls' hP hS (LH.st2 (v := vD x) hl'))
theorem gw_iadd (hc : GC ev t g) {x y : Int} (hd : decode (mC t) pc = .ok (.iadd, 1)) (h : GW ev t g n k (pc + 1) L (vI (x + y) :: st) M) : GW ev t g n k pc L (vI y :: vI x :: st) M := fun H locs ls hP hS hl => by
  refine lv_iadd (x := Int32.ofInt x) (y := Int32.ofInt y) hc.1 hc.2.1 hd ?_
  rw [← Int32.ofInt_add]
  exact h H locs ls hP hS hl
theorem gw_isub (hc : GC ev t g) {x y : Int} (hd : decode (mC t) pc = .ok (.isub, 1)) (h : GW ev t g n k (pc + 1) L (vI (x - y) :: st) M) : GW ev t g n k pc L (vI y :: vI x :: st) M := fun H locs ls hP hS hl => by
  refine lv_isub (x := Int32.ofInt x) (y := Int32.ofInt y) hc.1 hc.2.1 hd ?_
  rw [← Int32.ofInt_sub]
  exact h H locs ls hP hS hl
theorem gw_iand (hc : GC ev t g) {x y : Int} (hd : decode (mC t) pc = .ok (.iand, 1)) (h : GW ev t g n k (pc + 1) L (vI (iandI x y) :: st) M) : GW ev t g n k pc L (vI y :: vI x :: st) M := fun H locs ls hP hS hl => by
  refine lv_iand (x := Int32.ofInt x) (y := Int32.ofInt y) hc.1 hc.2.1 hd ?_
  rw [← Int32.ofInt_toInt (Int32.ofInt x &&& Int32.ofInt y)]
  exact h H locs ls hP hS hl
theorem gw_iinc (hc : GC ev t g) {i : Nat} {x y : Int} (hi : i < mL t) (hd : decode (mC t) pc = .ok (.iinc i y, 3)) (hg : lget L i = some (vI x)) (h : GW ev t g n k (pc + 3) (sto1 L i (vI (x + y))) st M) : GW ev t g n k pc L st M := fun H locs ls hP hS hl => by
  obtain ⟨q, hq⟩ := List.getElem?_of_mem ((asc_mem (eA ev) L 0 (i, .int (Int32.ofInt x))).mpr ⟨i, vI x, hg, by rw [Nat.zero_add]; rfl⟩)
  refine lv_iinc (v := Int32.ofInt (x + y)) (k := q) hc.1 hc.2.1 hd hl hq (by rw [Int32.ofInt_add]) hi rfl (fun ls' hl' => ?_)
  exact h H locs ls' hP hS (LH.st1 (v := vI (x + y)) hl')
theorem gw_i2l (hc : GC ev t g) {x : Int} (hx : Inr x) (hd : decode (mC t) pc = .ok (.i2l, 1)) (h : GW ev t g n k (pc + 1) L (vL x :: st) M) : GW ev t g n k pc L (vI x :: st) M :=
  fun H locs ls hP hS hl => lv_i2l (x := Int32.ofInt x) (v := Int64.ofInt x) hc.1 hc.2.1 hd (oI_l hx) (h H locs ls hP hS hl)
theorem gw_goto (hc : GC ev t g) {off : Int} {to : Nat} (ht : (pc : Int) + off = (to : Int)) (hd : decode (mC t) pc = .ok (.goto off, 3)) (h : GW ev t g n k to L st M) : GW ev t g n k pc L st M :=
  fun H locs ls hP hS hl => lv_goto (tgt := to) hc.1 hc.2.1 hd ht (h H locs ls hP hS hl)
theorem gw_icmp_eq (hc : GC ev t g) {off : Int} {to : Nat} {x y : Int} (hx : Inr x) (hy : Inr y) (ht : (pc : Int) + off = (to : Int)) (hd : decode (mC t) pc = .ok (.if_icmp .eq off, 3)) (h1 : x = y → GW ev t g n k to L st M) (h2 : x ≠ y → GW ev t g n k (pc + 3) L st M) : GW ev t g n k pc L (vI y :: vI x :: st) M :=
  fun H locs ls hP hS hl => lv_icmp_eq (x := Int32.ofInt x) (y := Int32.ofInt y) (tgt := to) hc.1 hc.2.1 hd ht (fun q => h1 ((oI_eq hx hy).mp q) H locs ls hP hS hl) (fun q => h2 (fun r => q ((oI_eq hx hy).mpr r)) H locs ls hP hS hl)
theorem gw_icmp_gt (hc : GC ev t g) {off : Int} {to : Nat} {x y : Int} (hx : Inr x) (hy : Inr y) (ht : (pc : Int) + off = (to : Int)) (hd : decode (mC t) pc = .ok (.if_icmp .gt off, 3)) (h1 : y < x → GW ev t g n k to L st M) (h2 : ¬ y < x → GW ev t g n k (pc + 3) L st M) : GW ev t g n k pc L (vI y :: vI x :: st) M :=
  fun H locs ls hP hS hl => lv_icmp_gt (x := Int32.ofInt x) (y := Int32.ofInt y) (tgt := to) hc.1 hc.2.1 hd ht (fun q => h1 ((oI_lt hy hx).mp q) H locs ls hP hS hl) (fun q => h2 (fun r => q ((oI_lt hy hx).mpr r)) H locs ls hP hS hl)
theorem gw_if_eq (hc : GC ev t g) {off : Int} {to : Nat} {x : Int} (hx : Inr x) (ht : (pc : Int) + off = (to : Int)) (hd : decode (mC t) pc = .ok (.ifCond .eq off, 3)) (h1 : x = 0 → GW ev t g n k to L st M) (h2 : x ≠ 0 → GW ev t g n k (pc + 3) L st M) : GW ev t g n k pc L (vI x :: st) M :=
  fun H locs ls hP hS hl => lv_if_eq (x := Int32.ofInt x) (tgt := to) hc.1 hc.2.1 hd ht (fun q => h1 ((oI_eq hx ⟨by omega, by omega⟩).mp q) H locs ls hP hS hl) (fun q => h2 (fun r => q ((oI_eq hx ⟨by omega, by omega⟩).mpr r)) H locs ls hP hS hl)
theorem gw_if_ne (hc : GC ev t g) {off : Int} {to : Nat} {x : Int} (hx : Inr x) (ht : (pc : Int) + off = (to : Int)) (hd : decode (mC t) pc = .ok (.ifCond .ne off, 3)) (h1 : x ≠ 0 → GW ev t g n k to L st M) (h2 : x = 0 → GW ev t g n k (pc + 3) L st M) : GW ev t g n k pc L (vI x :: st) M :=
  fun H locs ls hP hS hl => lv_if_ne (x := Int32.ofInt x) (tgt := to) hc.1 hc.2.1 hd ht (fun q => h1 (fun r => q ((oI_eq hx ⟨by omega, by omega⟩).mpr r)) H locs ls hP hS hl) (fun q => h2 ((oI_eq hx ⟨by omega, by omega⟩).mp q) H locs ls hP hS hl)
/-- two longs that are the same -/
theorem gw_lcmp (hc : GC ev t g) {x y : Int} (hxy : x = y) (hd : decode (mC t) pc = .ok (.lcmp, 1)) (h : GW ev t g n k (pc + 1) L (vI 0 :: st) M) : GW ev t g n k pc L (vL y :: vL x :: st) M := fun H locs ls hP hS hl => by
  subst hxy
  refine W.lcmp (x := Int64.ofInt x) (y := Int64.ofInt x) hc.1 hc.2.1 hd ?_
  have e : lg_cmp (Int64.ofInt x) (Int64.ofInt x) = Int32.ofInt 0 := by
    unfold lg_cmp
    simp
  rw [e]
  exact h H locs ls hP hS hl
theorem gw_dcmp (hc : GC ev t g) {op : CmpOp} {x y : UInt64} {r : Int} (hr : Op.cmpValue (FP.dcmp x y) op = Int32.ofInt r) (hd : decode (mC t) pc = .ok (.dcmp op, 1)) (h : GW ev t g n k (pc + 1) L (vI r :: st) M) : GW ev t g n k pc L (vD y :: vD x :: st) M := fun H locs ls hP hS hl => by
  refine lv_dcmp (x := x) (y := y) hc.1 hc.2.1 hd ?_
  rw [hr]
  exact h H locs ls hP hS hl
theorem gw_lald (hc : GC ev t g) (hd : decode (mC t) pc = .ok (.laload, 1)) (h : GW ev t g n k (pc + 1) L (vL (M 46 0) :: st) M) : GW ev t g n k pc L (vI 0 :: vR 46 :: st) M := fun H locs ls hP hS hl => by
  have hev := hc.2.2.2.2.2.1
  refine va_lald (D := eD ev) (cl := vwCl) (tys := tyT ev) (ws := wd ev M) (i := Int32.ofInt 0) (n := 1) hc.1 hc.2.1 hev.2.1 hP 46 2 (by rw [wd_get ev M (by decide), cellE_arr2 (n := 1) rfl]) rfl (oI_in (by omega) (by omega) (by omega)) hd ?_
  exact h H locs ls hP hS hl
theorem gw_last (hc : GC ev t g) {x : Int} (hd : decode (mC t) pc = .ok (.lastore, 1)) (h : GW ev t g n k (pc + 1) L st (upM M 46 0 x)) : GW ev t g n k pc L (vL x :: vI 0 :: vR 46 :: st) M := fun H locs ls hP hS hl => by
  have hev := hc.2.2.2.2.2.1
  refine va_last (D := eD ev) (cl := vwCl) (tys := tyT ev) (ws := wd ev M) (A := eR ev) (i := Int32.ofInt 0) (x := Int64.ofInt x) (n := 1) hc.1 hc.2.1 hev.2.1 hP (wd_D hev.1 M) hS 46 2 (by rw [wd_get ev M (by decide), cellE_arr2 (n := 1) rfl]) rfl (oI_in (by omega) (by omega) (by omega)) hd (fun H1 locs1 hP1 _ hS1 => ?_)
  refine h H1 locs1 ls ?_ hS1 hl
  show va_P (eD ev) vwCl (wd ev (upM M 46 0 x)) H1
  rw [wd_set, cellE_arr2 (n := 1) rfl]
  have he : (fun j : Nat => Int64.ofInt (upM M 46 0 x 46 (j : Int))) = vp_updL (fun j : Nat => Int64.ofInt (M 46 (j : Int))) (Int32.ofInt 0).toNatClampNeg (Int64.ofInt x) := by
    funext j
    show _ = if j = (0 : Nat) then _ else _
    unfold upM
    by_cases hj : j = 0
    · rw [if_pos hj, if_pos ⟨rfl, by omega⟩]
    · rw [if_neg hj, if_neg (fun q => hj (by have := q.2; omega))]
  rw [he]
  exact hP1
theorem gw_tswIn (hc : GC ev t g) {df lo hi : Int} {offs : Array Int} {len to : Nat} {x off : Int} (hx : Inr x) (h0 : lo ≤ x) (h1 : x ≤ hi) (ho : offs[(x - lo).toNat]? = some off) (ht : (pc : Int) + off = (to : Int)) (hd : decode (mC t) pc = .ok (.tableswitch df lo hi offs, len)) (h : GW ev t g n k to L st M) : GW ev t g n k pc L (vI x :: st) M := fun H locs ls hP hS hl => by
  have e : (Int32.ofInt x).toInt = x := Int32.toInt_ofInt_of_le hx.1 hx.2
  exact lv_tableIn (x := Int32.ofInt x) (off := off) (tgt := to) hc.1 hc.2.1 hd (by rw [e]; omega) (by rw [e]; omega) (by rw [e]; exact ho) ht (h H locs ls hP hS hl)
theorem gw_tswOut (hc : GC ev t g) {df lo hi : Int} {offs : Array Int} {len to : Nat} {x : Int} (hx : Inr x) (h0 : x < lo ∨ hi < x) (ht : (pc : Int) + df = (to : Int)) (hd : decode (mC t) pc = .ok (.tableswitch df lo hi offs, len)) (h : GW ev t g n k to L st M) : GW ev t g n k pc L (vI x :: st) M := fun H locs ls hP hS hl => by
  have e : (Int32.ofInt x).toInt = x := Int32.toInt_ofInt_of_le hx.1 hx.2
  exact lv_tableOut (x := Int32.ofInt x) (tgt := to) hc.1 hc.2.1 hd (by rw [e]; exact h0) ht (h H locs ls hP hS hl)
/-- the script: its cell is place 47 -/
def GX (ev : Ev) (g : GT) (N : Nat) (xs : Nat → Int32) : Prop := va_X (eA ev 47) N xs (gS g) (gS g).heap ∧ eA ev 47 < (gS g).heap.size ∧ eB ev = (gS g).heap.size ∧ N ≤ 2560
theorem gw_sld (hc : GC ev t g) {N : Nat} {xs : Nat → Int32} (hX : GX ev g N xs) {i : Int} (h0 : 0 ≤ i) (h1 : i < N) (hd : decode (mC t) pc = .ok (.iaload, 1)) (h : GW ev t g n k (pc + 1) L (vI (xs i.toNat).toInt :: st) M) : GW ev t g n k pc L (vI i :: vR 47 :: st) M := fun H locs ls hP hS hl => by
  obtain ⟨x1, x2, x3, x4⟩ := hX
  refine va_sld (A := eR ev) (i := Int32.ofInt i) hc.1 hc.2.1 x1 x2 (by show ¬ eB ev ≤ _; omega) hS (oI_in h0 h1 (by omega)) hd ?_
  rw [oI_cl h0 (by omega), ← Int32.ofInt_toInt (xs i.toNat)]
  exact h H locs ls hP hS hl
theorem gw_slen (hc : GC ev t g) {N : Nat} {xs : Nat → Int32} (hX : GX ev g N xs) (hd : decode (mC t) pc = .ok (.arraylength, 1)) (h : GW ev t g n k (pc + 1) L (vI (N : Int) :: st) M) : GW ev t g n k pc L (vR 47 :: st) M := fun H locs ls hP hS hl => by
  obtain ⟨x1, x2, x3, x4⟩ := hX
  refine va_slen (A := eR ev) hc.1 hc.2.1 x1 x2 (by show ¬ eB ev ≤ _; omega) hS hd ?_
  rw [show Int32.ofNat N = Int32.ofInt (N : Int) from by rw [Int32.ofInt_eq_ofNat] <;> rfl]
  exact h H locs ls hP hS hl
/-! calls -/
def ctG (ev : Ev) (t : MT) (g : GT) (n k : Nat) (pc : Nat) (L : Lo) (rest : List AV) : Out → Mem → Prop := fun o M => match o with
  | .inl v => GW ev t g n k pc L (v.toList ++ rest) M
  | .inr _ => False
theorem gw_callV (hc : GC ev t g) {t' : MT} {nn d' idx ci b : Nat} {fs : List (Nat × Nat)} (as rest : List AV) (hs : VMok t' nn ci) (hb : alk fkL b = some (ci, fs)) (hl' : Cond.methodLink (mN t).cls idx (mN t') ∈ lw_big) (hdec : decode (mC t) pc = .ok (.invokevirtual idx, 3)) (hd : d' + 1 ≤ (gR g).frames ∧ 38 * d' + 38 ≤ (gR g).locals) (hroom : n ≤ (gR g).cells ∧ k ≤ (gR g).slots) (hn : as.length = nn) (hcat : catS rest ≤ 8)
    (h : AM ev false d' t' (vR b :: as) M (ctG ev t g n k (pc + 3) L rest)) : GW ev t g n k pc L (as.reverse ++ vR b :: rest) M := by
  intro H locs ls hP hS hl
  have hts := hc.2.2.2.2.1
  have hev := hc.2.2.2.2.2.1
  obtain ⟨⟨q, hq, hqn⟩, hs1, hs2, hs3, hs4, hs5, hs6⟩ := hs
  have hlt := (fk_lt _ (alk_mem hb)).1
  have hrecv := va_recv hev.2.1 hP hq (q0 := b) (by rw [wd_get ev M hlt, cellE_obj hb])
  rw [hqn] at hrecv
  have hr := vx_runV (p := gP g) (e := gE g) (R := gR g) (m := gM g) (below := gB g) (meth := gH g) (c := gC g) (H := H) (locs := locs) (cells := n) (slots := k) (g := F0 (gM g) pc ls ((as.reverse ++ vR b :: rest).map (cv (eA ev)))) (rest := rest.map (cv (eA ev))) (Ts := lw_big) (own := (mN t).cls) (C := (mN t').cls) (nL := mL t) (cc := mC t) (n := nn) (bytes := mC t') (maxL := mL t') (ret := mR t') (index := idx) (b := eA ev b) (As := as.map (cv (eA ev))) ⟨hc.1, hc.2.1, hc.2.2.1, hc.2.2.2.1, hts⟩ h
    (cwV nn hts (good_cons hl' (good_cons hs1 (good_cons hs2 (good_cons hs3 (ws_good hs4))))) rfl rfl rfl ⟨rfl, hs5⟩ ⟨hd.1, by show 8 + (mL t' + 11) + 38 * d' ≤ _; omega⟩) ⟨pcB ev (vR b :: as) M, hrecv, fun U hU hW => ⟨rfl, hev.go hS hU hW, by rw [hU]; exact hP⟩⟩ rfl (by rw [List.length_map]; exact hn) hl.1 (by rw [List.map_append, List.map_reverse]; rfl) (by show 2 * 0 + _ ≤ 8; rw [Nat.mul_zero, Nat.zero_add]; exact catS_ok _ _ hcat) hdec ⟨by show n + 0 ≤ _; exact hroom.1, by show k + 0 ≤ _; exact hroom.2⟩
  intro T hT X
  rcases hr T hT X with ⟨v, st₀, t1, T', L', h0, X', hL, e1, e2, ⟨v', M', hv, -, hQ, hP', hF⟩, sg⟩ | ⟨q, st₀, t1, T', L', E, ce, h0, X', hL, e1, e2, ⟨M', hk, -⟩, hce, hcv, hcl, sg⟩
  · cases hv
    obtain ⟨k1, k2, k3⟩ := vx_keep (A1 := eR ev) h0 e1 hS (fun _ _ q => q) (fun _ q => q) hL hF
    have hGW : GW ev t g n k (pc + 3) L (v'.toList ++ rest) M' := hQ
    obtain ⟨t2, a1, b1⟩ := hGW T'.heap (locs ++ L') ls (by rw [e1]; exact hP') k3 hl T' rfl X'
    refine ⟨t2, sg t2 ?_, b1⟩
    have he : (Option.map (cv (eA ev)) v').toList ++ rest.map (cv (eA ev)) = (v'.toList ++ rest).map (cv (eA ev)) := by
      cases v' <;> simp
    rw [he]
    exact a1
  · cases hk
end GWR
