/-! the world, the judgements AW (at an instruction) and AM (a whole method), by places -/
def lw_big : List Cond := lw_tbl.filter goodWord
theorem bm (i : Nat) (w : Jvm.Cond) (h : lw_tbl[i]? = some w) (g : goodWord w = true) : w ∈ lw_big := List.mem_filter.mpr ⟨List.mem_of_getElem? h, g⟩
theorem big_good : GoodIn lw_big lw_big := fun w h => ⟨h, good_of_word (List.mem_filter.mp h).2⟩
/-- the texts of the throws: owner, constant, text -/
def stT : List (String × Nat × String) := [("MirrorTelegraph", 290, "no such cell"), ("MirrorTelegraph", 302, "an argument is out of range"), ("MirrorTelegraph", 99, "the buffer is full"), ("MirrorTelegraph", 117, "the buffer is not a complete text"), ("MirrorTelegraph", 123, "there are not so many cells"), ("MirrorTelegraph", 133, "there is a station on the cell"), ("MirrorTelegraph", 135, "there are 8 stations"), ("MirrorTelegraph", 295, "no such station"), ("MirrorTelegraph", 151, "no mirror to give, or no place for it"), ("MirrorTelegraph", 160, "there are 6 clouds"), ("MirrorTelegraph", 297, "both stations are the same"), ("MirrorTelegraph", 169, "there are 20 messages"), ("MirrorTelegraph", 300, "no such message"), ("MirrorTelegraph", 219, "no such transmission")]
/-- words of the throws that the tables decide -/
def nwT : List Jvm.Cond := [.castable "java/lang/IndexOutOfBoundsException" "java/lang/IndexOutOfBoundsException", .declares (⟨"java/lang/RuntimeException","<init>","()V"⟩ : MethodName), .declares (⟨"java/lang/RuntimeException","<init>","(Ljava/lang/String;)V"⟩ : MethodName), .declares (⟨"java/lang/Exception","<init>","()V"⟩ : MethodName), .declares (⟨"java/lang/Exception","<init>","(Ljava/lang/String;)V"⟩ : MethodName), .declares (⟨"java/lang/Throwable","<init>","()V"⟩ : MethodName), .declares (⟨"java/lang/Throwable","<init>","(Ljava/lang/String;)V"⟩ : MethodName), .castable "java/lang/IllegalArgumentException" "java/lang/IllegalArgumentException", .castable "java/lang/IllegalStateException" "java/lang/IllegalStateException"]
def isNw : Jvm.Cond → Bool
  | .declares _ => true
  | .castable _ _ => true
  | _ => false
theorem nw_warm {w : Jvm.Cond} (hw : isNw w = true) {s U : State} (hW : s.WarmedH U.vm) (h : va_Nw w s) : va_Nw w U := by
  cases w <;> first | exact va_Nw.warmD hW h | exact va_Nw.warmC hW h | cases hw
theorem nwT_is : ∀ w ∈ nwT, isNw w = true := by decide +kernel
theorem nwT_on {w : Jvm.Cond} (hw : isNw w = true) : w.onTables = true := by
  cases w <;> first | rfl | cases hw
abbrev eR (ev : Ev) : Nat → Prop := fun q => eB ev ≤ q
def tyT (ev : Ev) : List (ClassId × FieldType) := [((eY ev).1, .int), ((eY ev).2.1, .boolean), ((eY ev).2.2, .long)]
def evS (ev : Ev) : Prop := (∀ i j, i < 47 → j < 47 → eA ev i = eA ev j → i = j) ∧ (∀ i, i < 47 → eB ev ≤ eA ev i) ∧ (eL ev).stackTraces = false
def evAt (ev : Ev) (U : State) : Prop := evS ev ∧ va_K (eD ev) vwCl (tyT ev) U ∧ vx_Zq Bundle.tN "UNASSIGNED_STACK" Bundle.steD (eR ev) U U.heap ∧ vx_Zq Bundle.tN "SUPPRESSED_SENTINEL" Bundle.listD (eR ev) U U.heap ∧ eB ev ≤ U.heap.size ∧
  (∀ i, i < 14 → ∀ q, stT[i]? = some q → vk_R q.1 q.2.1 q.2.2 (eS ev i) U) ∧ ∀ w ∈ nwT, va_Nw w U
abbrev PW (ev : Ev) (M : Mem) (H : Heap) : Prop := va_P (eD ev) vwCl (wd ev M) H
theorem wd_D {ev : Ev} (h : evS ev) (M : Mem) : va_D (eR ev) (wd ev M) := by
  have key : ∀ (i : Nat) (p : Nat × va_E), (wd ev M)[i]? = some p → i < 47 ∧ p.1 = eA ev i := by
    intro i p hp
    have hlt : i < 47 := by
      have := (List.getElem?_eq_some_iff.mp hp).1
      simpa [wd] using this
    rw [wd_get ev M hlt] at hp
    cases hp
    exact ⟨hlt, rfl⟩
  refine ⟨fun i j p q hp hq he => ?_, fun k q hq => ?_⟩
  · obtain ⟨h1, e1⟩ := key i p hp
    obtain ⟨h2, e2⟩ := key j q hq
    exact h.1 i j h1 h2 (by rw [← e1, ← e2]; exact he)
  · obtain ⟨h1, e1⟩ := key k q hq
    show eB ev ≤ q.1
    rw [e1]
    exact h.2.1 k h1
theorem evAt.go {ev : Ev} {s U : State} {H : Heap} {locs : List Loc} (h : evAt ev s) (hS : va_S (eR ev) s.heap H locs) (hU : U.heap = H) (hW : s.WarmedH U.vm) : evAt ev U := by
  obtain ⟨h1, h2, h3, h4, h5, h6, h7⟩ := h
  refine ⟨h1, va_K.moved hW.alike h2, ?_, ?_, ?_, fun i hi q hq => vk_R.warm hW (h6 i hi q hq), fun w hw => nw_warm (nwT_is w hw) hW (h7 w hw)⟩
  · rw [hU]; exact vx_Zq.moved hW.alike (h3.kept hS.2.1)
  · rw [hU]; exact vx_Zq.moved hW.alike (h4.kept hS.2.1)
  · rw [hU]; exact Nat.le_trans h5 hS.1
theorem evAt.blind {ev : Ev} {U : State} {g : JFrame} {mk : MethodId} {a : Array Value} (h : evAt ev U) : evAt ev (U.calling g mk a) := by
  obtain ⟨h1, h2, h3, h4, h5, h6, h7⟩ := h
  exact ⟨h1, va_K.moved (u := U) (U := U.calling g mk a) (Vm.Alike.refl U.vm) h2, vx_Zq.moved (u := U) (U := U.calling g mk a) (Vm.Alike.refl U.vm) h3, vx_Zq.moved (u := U) (U := U.calling g mk a) (Vm.Alike.refl U.vm) h4, h5, fun i hi q hq => vk_R.same (u := U) rfl (h6 i hi q hq), fun w hw => va_Nw.same (nwT_on (nwT_is w hw)) (u := U) rfl (h7 w hw)⟩
def rmOf (k : Bool) (d : Nat) : Room := { frames := d, cells := bif k then 1 else 0, slots := bif k then 6 else 0, locals := 38 * d }
def mcOf (k : Bool) : Nat := bif k then 1 else 0
def msOf (k : Bool) : Nat := bif k then 6 else 0
def wsOf (t : MT) : List Cond := Cond.code (mN t) (mC t) (mL t) (mR t) :: lw_big
def QcOf (ev : Ev) (k : Bool) (Q : Out → Mem → Prop) : Array Value → State → Outcome → State → Prop := fun _ st oc t =>
  ∃ (v : Option AV) (M : Mem), oc = .returned (v.map (cv (eA ev))) ∧ k = false ∧ Q (.inl v) M ∧ PW ev M t.heap ∧ va_F (eR ev) st t
def XcOf (ev : Ev) (k : Bool) (Q : Out → Mem → Prop) : String → State → State → Prop := fun E st t =>
  ∃ M : Mem, k = true ∧ Q (.inr E) M ∧ PW ev M t.heap ∧ va_F (eR ev) st t
def AM (ev : Ev) (k : Bool) (d : Nat) (t : MT) (as : List AV) (M : Mem) (Q : Out → Mem → Prop) : Prop :=
  vx_Met (eL ev) (mN t) (wsOf t) (rmOf k d) (va_Pc (as.map (cv (eA ev))) (fun U => evAt ev U ∧ PW ev M U.heap)) (QcOf ev k Q) (XcOf ev k Q) (mcOf k) (msOf k) (eR ev)
def FTok (t : MT) : Prop := ∀ e ∈ mF t, ∀ q, vwCl[e.2.1]? = some q → e.2.2 < q.2.2 ∧ Cond.fieldLink (mN t).cls e.1 (q.2.1 e.2.2).1 (q.2.1 e.2.2).2.1 (q.2.1 e.2.2).2.2.1 ∈ lw_big
def CTok (t : MT) : Prop := ∀ e ∈ mK t, (e.2.1 = 0 → Cond.constant (mN t).cls e.1 (Int32.ofInt e.2.2) ∈ lw_big) ∧ (e.2.1 = 1 → Cond.constantLong (mN t).cls e.1 (Int64.ofInt e.2.2) ∈ lw_big)
def Cx (ev : Ev) (t : MT) (p : Program) (s : State) (m : MethodId) (args : Array Value) (meth : Method) (c : Code) : Prop :=
  p.tables.exec = Jvm.exec ∧ c.code = mC t ∧ c.maxLocals = mL t ∧ meth.sig.returnType = mR t ∧ meth.locks = false ∧ s.vm.findClass (mN t).cls = some m.cls ∧ (∀ w ∈ lw_big, w.before args s = true) ∧ (∀ x ∈ c.exceptionTable.toList, False) ∧ evAt ev s ∧ FTok t ∧ CTok t
def AW (ev : Ev) (k : Bool) (d : Nat) (t : MT) (Q : Out → Mem → Prop) (pc : Nat) (L : Lo) (st : List AV) (M : Mem) : Prop :=
  ∀ (p : Program) (e : Env) (s : State) (m : MethodId) (args : Array Value) (below : List Frame) (meth : Method) (c : Code), Cx ev t p s m args meth c →
    ∀ (H : Heap) (locs : List Loc) (ls : Array Slot), PW ev M H → va_S (eR ev) s.heap H locs → LH (eA ev) ls (mL t) L →
      W p (eL ev) e (rmOf k d) s m args below meth c H locs 0 0 (vx_MQ below (QcOf ev k Q) (XcOf ev k Q) args s (mcOf k) (msOf k) (eR ev)) (F0 m pc ls (st.map (cv (eA ev))))
theorem AW.sub {ev : Ev} {k : Bool} {d : Nat} {t : MT} {Q : Out → Mem → Prop} {pc : Nat} {L : Lo} (L' : Lo) {st : List AV} {M : Mem} (hs : lsub L' L) (h : AW ev k d t Q pc L' st M) : AW ev k d t Q pc L st M :=
  fun p e s m args below meth c hc H locs ls hP hS hl => h p e s m args below meth c hc H locs ls hP hS (hl.sub hs)
/-- a method's contract out of its body -/
def MTok (t : MT) : Prop := plainName (mN t).cls = true ∧ FTok t ∧ CTok t
def ent0 (t : MT) (as : List AV) : Lo := let l := ent as; l ++ List.replicate (mL t - l.length) none
theorem lget_app : ∀ (a : Lo) (n j : Nat) (w : AV), lget (a ++ List.replicate n none) j = some w → lget a j = some w
  | [], 0, _, _, h => by cases h
  | [], n + 1, 0, _, h => by cases h
  | [], n + 1, j + 1, w, h => by
    have := lget_app [] n j w h
    cases this
  | o :: r, n, 0, w, h => h
  | o :: r, n, j + 1, w, h => lget_app r n j w h
theorem AM.of {ev : Ev} {k : Bool} {d : Nat} {t : MT} {as : List AV} {M : Mem} {Q : Out → Mem → Prop} (ht : MTok t) (hlen : (ent as).length ≤ mL t) (h : AW ev k d t Q 0 (ent0 t as) [] M) : AM ev k d t as M Q := by
  refine vx_ofW (cc := mC t) (maxL := mL t) (ret := mR t) ht.1 rfl ?_
  intro p e s m args below meth c s₁ B hml hno hv
  obtain ⟨rfl, hev, hP⟩ := hv
  have hts := atoms_spec (ws := wsOf t) B.pre
  have hlen2 : ∀ l : List AV, (lg_sl (l.map (cv (eA ev)))).length = (ent l).length := by
    intro l
    induction l with
    | nil => rfl
    | cons v r ih =>
      rw [List.map_cons]
      unfold ent
      unfold lg_sl at ih ⊢
      rw [List.flatMap_cons, List.length_append, ih]
      by_cases hw : lwide (some v) = true
      · rw [if_pos ((cv_cat _ v).mpr hw), hw]; simp; omega
      · rw [if_neg (fun q => hw ((cv_cat _ v).mp q))]
        rw [Bool.not_eq_true] at hw
        rw [hw]; simp; omega
  have hl := lv_entry (as.map (cv (eA ev))) (n := mL t) (by rw [hlen2]; exact hlen)
  rw [lg_entry_eq]
  refine h p e s m _ below meth c ⟨B.exec, B.bytes, hml, B.returns, B.notSynchronized, findClass_of_methodNamed B.named, fun w hw => hts w (List.mem_cons_of_mem _ hw), hno, hev, ht.2.1, ht.2.2⟩ s.heap [] _ hP va_S.rf (LH.of hl fun j w hg => ?_)
  have := ent_mem (eA ev) as 0 j w (lget_app _ _ _ _ hg)
  rw [Nat.zero_add] at this
  exact this
