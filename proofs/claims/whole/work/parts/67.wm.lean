/-! the law's helpers: a call that may throw, caught -/
theorem LH.stN {ad : Nat → Nat} {ls : Array Slot} {n : Nat} {L : Lo} {i : Nat} {v : Value}
    (h : lv_has ls n ((i, v) :: (asc ad 0 L).filter (fun q => !(q.1 == i) && !(q.1 + 1 == i && q.2.category == 2)))) : LH ad ls n (lset (lkill L i) i none) := by
  refine LH.of h fun j w hg => ?_
  rcases lget_lset _ _ _ _ _ hg with ⟨h1, h2⟩ | ⟨h1, h2⟩
  · cases h2
  · obtain ⟨h3, h4⟩ := lget_lkill h2
    refine List.mem_cons_of_mem _ (List.mem_filter.mpr ⟨(asc_mem ad L 0 _).mpr ⟨j, w, h3, by rw [Nat.zero_add]⟩, ?_⟩)
    have h5 : (cv ad w).category = 2 → ¬ j + 1 = i := fun q r => by
      have := (cv_cat ad w).mp q
      rw [h4 r] at this
      cases this
    by_cases hc : (cv ad w).category = 2
    · simp [h1, h5 hc]
    · simp [h1, hc]
def QcW (ev : Ev) (Q : Int → Mem → Prop) : Array Value → State → Outcome → State → Prop := fun _ st oc t => ∃ (v : Int) (M : Mem), oc = .returned (some (.int (Int32.ofInt v))) ∧ Q v M ∧ PW ev M t.heap ∧ va_F (eR ev) st t
def wsW (t : MT) (hh : List (Nat × Nat × Nat × Nat)) : List Cond := Cond.codeWith (mN t) (mC t) (mL t) (mR t) hh :: lw_big
def WM (ev : Ev) (k : Bool) (d : Nat) (t : MT) (hh : List (Nat × Nat × Nat × Nat)) (as : List AV) (M : Mem) (Q : Int → Mem → Prop) : Prop :=
  vx_Met (eL ev) (mN t) (wsW t hh) (rmOf k d) (va_Pc (as.map (cv (eA ev))) (fun U => evAt ev U ∧ ncAt U ∧ PW ev M U.heap)) (QcW ev Q) (fun _ _ _ => False) (mcOf k) (msOf k) (eR ev)
def WC (ev : Ev) (t : MT) (k : Bool) (d : Nat) (hh : List (Nat × Nat × Nat × Nat)) (Q : Int → Mem → Prop) (g : GT) : Prop :=
  gR g = rmOf k d ∧ (gC g).exceptionTable.toList = tableOf hh ∧ (gH g).sig.returnType = mR t ∧ (gH g).locks = false ∧ gZ g = vx_MQ (gB g) (QcW ev Q) (fun _ _ _ => False) (gA g) (gS g) (mcOf k) (msOf k) (eR ev)
theorem WM.of {ev : Ev} {k : Bool} {d : Nat} {t : MT} {hh : List (Nat × Nat × Nat × Nat)} {as : List AV} {M : Mem} {Q : Int → Mem → Prop} (hp : plainName (mN t).cls = true) (hlen : (ent as).length ≤ mL t) (h : ∀ g : GT, GC ev t g → WC ev t k d hh Q g → GW ev t g 0 0 0 (ent0 t as) [] M) : WM ev k d t hh as M Q := by
  refine vx_ofWH (cc := mC t) (maxL := mL t) (ret := mR t) (hh := hh) hp rfl ?_
  intro p e s m args below meth c s₁ B hml hv
  obtain ⟨rfl, hev, hnc, hP⟩ := hv
  have hts := atoms_spec (ws := wsW t hh) B.pre
  have htab := vx_table (x := mN t) B (hts _ List.mem_cons_self)
  have hlen2 : ∀ l : List AV, (lg_sl (l.map (cv (eA ev)))).length = (ent l).length := by
    intro l
    induction l with
    | nil => rfl
    | cons v r ih =>
      rw [List.map_cons]
      unfold ent
      unfold lg_sl at ih ⊢
      rw [List.flatMap_cons, List.length_append, ih]
      by_cases hw : lwide (some v) = true
      · rw [if_pos ((cv_cat _ v).mpr hw), hw]; simp; omega
      · rw [if_neg (fun q => hw ((cv_cat _ v).mp q))]
        rw [Bool.not_eq_true] at hw
        rw [hw]; simp; omega
  have hl := lv_entry (as.map (cv (eA ev))) (n := mL t) (by rw [hlen2]; exact hlen)
  rw [lg_entry_eq]
  refine h (p, e, rmOf k d, s, m, _, below, meth, c, _) ⟨B.exec, B.bytes, hml, findClass_of_methodNamed B.named, fun w hw => hts w (List.mem_cons_of_mem _ hw), hev, hnc⟩ ⟨rfl, htab, B.returns, B.notSynchronized, rfl⟩ s.heap [] _ hP va_S.rf (LH.of hl fun j w hg => ?_)
  have := ent_mem (eA ev) as 0 j w (lget_app _ _ _ _ hg)
  rw [Nat.zero_add] at this
  exact this
section WMR
variable {ev : Ev} {t : MT} {g : GT} {pc : Nat} {L : Lo} {M : Mem} {kb : Bool} {d : Nat} {hh : List (Nat × Nat × Nat × Nat)} {Q : Int → Mem → Prop}
theorem gw_iret (hc : GC ev t g) (hw : WC ev t kb d hh Q g) (hr : mR t = some .int) {v : Int} (hq : Q v M) (hd : decode (mC t) pc = .ok (.ireturn, 1)) : GW ev t g (mcOf kb) (msOf kb) pc L [vI v] M := fun H locs ls hP hS hl => by
  rw [hw.2.2.2.2]
  exact vx_ret (W.iret (v := Int32.ofInt v) hc.1 hc.2.1 (hw.2.2.1.trans hr) (fun u hu hW => ⟨v, M, rfl, hq, by rw [hu]; exact hP, by rw [← hu] at hS; exact hS.F rfl⟩) hS.2.2 hd hw.2.2.2.1)
def ASt (ev : Ev) (t : MT) (g : GT) (n k hpc len : Nat) (L L' : Lo) : Prop := ∀ (H : Heap) (locs : List Loc) (ls : Array Slot) (q : Addr), LH (eA ev) ls (mL t) L →
  (∀ ls', LH (eA ev) ls' (mL t) L' → W (gP g) (eL ev) (gE g) (gR g) (gS g) (gM g) (gA g) (gB g) (gH g) (gC g) H locs n k (gZ g) (F0 (gM g) (hpc + len) ls' [])) →
  W (gP g) (eL ev) (gE g) (gR g) (gS g) (gM g) (gA g) (gB g) (gH g) (gC g) H locs n k (gZ g) (F0 (gM g) hpc ls [.ref q])
theorem gw_ast (hc : GC ev t g) {n k hpc i : Nat} (hi : i < mL t) (hd : decode (mC t) hpc = .ok (.astore i, 2)) : ASt ev t g n k hpc 2 L (lset (lkill L i) i none) :=
  fun H locs ls q hl kk => lv_astore (x := q) hc.1 hc.2.1 hd hl hi rfl (fun ls' hl' => kk ls' (LH.stN hl'))
theorem gw_astn (hc : GC ev t g) {n k hpc : Nat} {i : Fin 4} (hi : i.val < mL t) (hd : decode (mC t) hpc = .ok (.astore_n i, 1)) : ASt ev t g n k hpc 1 L (lset (lkill L i.val) i.val none) :=
  fun H locs ls q hl kk => lv_astore_n (x := q) hc.1 hc.2.1 hd rfl hl hi rfl (fun ls' hl' => kk ls' (LH.stN hl'))
theorem gw_callVT (hc : GC ev t g) (hw : WC ev t true d hh Q g) {t' : MT} {nn d' idx ci b len : Nat} {fs : List (Nat × Nat)} {L' : Lo} (as rest : List AV) (E : String) (hs : VMok t' nn ci) (hb : alk fkL b = some (ci, fs)) (hl' : Cond.methodLink (mN t).cls idx (mN t') ∈ lw_big) (hdec : decode (mC t) pc = .ok (.invokevirtual idx, 3)) (hd : d' < d) (hn : as.length = nn) (hcat : catS rest ≤ 8)
    (pre : List ExceptionTableEntry) (x : ExceptionTableEntry) (suf : List ExceptionTableEntry) (hsplit : tableOf hh = pre ++ x :: suf) (hpass : ∀ z ∈ pre, z.catchType ≠ 0 ∧ ∃ nm : String, Cond.classLink (mN t).cls z.catchType nm ∈ lw_big ∧ va_Nc E nm (gS g)) (hx : covers x pc = true) (h0 : x.catchType ≠ 0) (hlink : Cond.classLink (mN t).cls x.catchType E ∈ lw_big) (hcast : Cond.castable E E ∈ nwT)
    (hst : ASt ev t g 1 6 x.handlerPc len L L')
    (h : AM ev true d' t' (vR b :: as) M (fun o M' => o = .inr E ∧ GW ev t g 1 6 (x.handlerPc + len) L' [] M')) : GW ev t g 0 0 pc L (as.reverse ++ vR b :: rest) M := by
  intro H locs ls hP hS hl
  have hts := hc.2.2.2.2.1
  have hev := hc.2.2.2.2.2.1
  have hR := hw.1
  obtain ⟨⟨q, hq, hqn⟩, hs1, hs2, hs3, hs4, hs5, hs6⟩ := hs
  have hlt := (fk_lt _ (alk_mem hb)).1
  have hrecv := va_recv hev.2.1 hP hq (q0 := b) (by rw [wd_get ev M hlt, cellE_obj hb])
  rw [hqn] at hrecv
  have hr := vx_runV (p := gP g) (e := gE g) (R := gR g) (m := gM g) (below := gB g) (meth := gH g) (c := gC g) (H := H) (locs := locs) (cells := 0) (slots := 0) (g := F0 (gM g) pc ls ((as.reverse ++ vR b :: rest).map (cv (eA ev)))) (rest := rest.map (cv (eA ev))) (Ts := lw_big) (own := (mN t).cls) (C := (mN t').cls) (nL := mL t) (cc := mC t) (n := nn) (bytes := mC t') (maxL := mL t') (ret := mR t') (index := idx) (b := eA ev b) (As := as.map (cv (eA ev))) ⟨hc.1, hc.2.1, hc.2.2.1, hc.2.2.2.1, hts⟩ h
    (cwV nn hts (good_cons hl' (good_cons hs1 (good_cons hs2 (good_cons hs3 (ws_good hs4))))) rfl rfl rfl ⟨rfl, hs5⟩ (by rw [hR]; exact rmR hd hs6 true)) ⟨pcB ev (vR b :: as) M, hrecv, fun U hU hW => ⟨rfl, hev.go hS hU hW, by rw [hU]; exact hP⟩⟩ rfl (by rw [List.length_map]; exact hn) hl.1 (by rw [List.map_append, List.map_reverse]; rfl) (by show 2 * 0 + _ ≤ 8; rw [Nat.mul_zero, Nat.zero_add]; exact catS_ok _ _ hcat) hdec (by rw [hR]; exact ⟨Nat.le_refl _, Nat.le_refl _⟩)
  intro T hT X
  rcases hr T hT X with ⟨v, st₀, t1, T', L1, h1, X', hL, e1, e2, ⟨v', M', hv, hk, -⟩, sg⟩ | ⟨q, st₀, t1, T', L1, E', ce, h1, X', hL, e1, e2, ⟨M', -, ⟨hE, hG⟩, hP', hF⟩, hce, hcv, hcl, sg⟩
  · cases hk
  · cases hE
    obtain ⟨k1, k2, k3⟩ := vx_keep (A1 := eR ev) h1 e1 hS (fun _ _ q => q) (fun _ q => q) hL hF
    have hw2 := vx_catch (p := gP g) (l := eL ev) (e := gE g) (R := gR g) (s := gS g) (m := gM g) (args := gA g) (below := gB g) (meth := gH g) (c := gC g) (H := T'.heap) (locs := locs ++ L1) (cells := 0 + 1) (slots := 0 + 6) (Q := gZ g) (ls := ls) (rest := rest.map (cv (eA ev))) (pc := pc) (own := (mN t).cls) (name := E) (E := E) (ce := ce) (q := q) hc.2.2.2.1 pre x suf (hw.2.1.trans hsplit)
      (fun z hz => Or.inr ⟨(hpass z hz).1, (hpass z hz).2.choose, hts _ (hpass z hz).2.choose_spec.1, (hpass z hz).2.choose_spec.2⟩) hx h0 (hts _ hlink) (va_Nw.use rfl (hev.2.2.2.2.2.2 _ hcast)) (by rw [e1]; exact hce) hcv hcl
      (hst T'.heap (locs ++ L1) ls q hl (fun ls' hl' => hG T'.heap (locs ++ L1) ls' (by rw [e1]; exact hP') k3 hl'))
    obtain ⟨t2, a1, b1⟩ := hw2 T' rfl X'
    exact ⟨t2, sg.trans a1, b1⟩
/-- a helper called by the law -/
def SWok (t : MT) (hh : List (Nat × Nat × Nat × Nat)) (n : Nat) : Prop := Cond.static (mN t) ∈ lw_big ∧ Cond.initialized (mN t).cls ∈ lw_big ∧ Cond.codeWith (mN t) (mC t) (mL t) (mR t) hh ∈ lw_big ∧ ((mN t).cls ≠ "java/lang/invoke/MethodHandle" ∧ (mN t).cls ≠ "java/lang/invoke/VarHandle" ∧ (parseMethodDescriptor (mN t).desc).map (fun d => d.parameters.length) = some n) ∧ mL t ≤ 19
theorem gw_callW (hc : GC ev t g) {n k : Nat} {t' : MT} {hh' : List (Nat × Nat × Nat × Nat)} {nn d' idx : Nat} (as rest : List AV) (hs : SWok t' hh' nn) (hl' : Cond.methodLink (mN t).cls idx (mN t') ∈ lw_big) (hdec : decode (mC t) pc = .ok (.invokestatic idx, 3)) (hd : d' + 1 ≤ (gR g).frames ∧ 38 * d' + 38 ≤ (gR g).locals) (hroom : n + mcOf kb ≤ (gR g).cells ∧ k + msOf kb ≤ (gR g).slots) (hn : as.length = nn) (hcat : catS rest ≤ 8)
    (h : WM ev kb d' t' hh' as M (fun v M' => GW ev t g (n + mcOf kb) (k + msOf kb) (pc + 3) L (vI v :: rest) M')) : GW ev t g n k pc L (as.reverse ++ rest) M := by
  intro H locs ls hP hS hl
  have hts := hc.2.2.2.2.1
  have hev := hc.2.2.2.2.2.1
  have hnc := hc.2.2.2.2.2.2
  obtain ⟨hs1, hs3, hs4, hs5, hs6⟩ := hs
  have hgood : GoodIn lw_big (wsW t' hh') := fun w hw => (List.mem_cons.mp hw).elim (fun e => e ▸ big_good _ hs4) (fun h => big_good w h)
  have hbl : FrameBlind (va_Pc (as.map (cv (eA ev))) (fun U => evAt ev U ∧ ncAt U ∧ PW ev M U.heap)) := fun _ U _ _ q => ⟨q.1, q.2.1.blind, ncAt.go (u := U) (Vm.Alike.refl _) q.2.2.1, q.2.2.2⟩
  have hr := vx_runSX (p := gP g) (e := gE g) (R := gR g) (m := gM g) (below := gB g) (meth := gH g) (c := gC g) (H := H) (locs := locs) (cells := n) (slots := k) (g := F0 (gM g) pc ls ((as.reverse ++ rest).map (cv (eA ev)))) (rest := rest.map (cv (eA ev))) (Ts := lw_big) (own := (mN t).cls) (nL := mL t) (cc := mC t) (n := nn) (hh := hh') (bytes := mC t') (maxL := mL t') (ret := mR t') (index := idx) (As := as.map (cv (eA ev))) ⟨hc.1, hc.2.1, hc.2.2.1, hc.2.2.2.1, hts⟩ h
    (vx_cwSW nn hts (good_cons hl' (good_cons hs1 (good_cons hs3 hgood))) rfl rfl rfl hs5 ⟨hd.1, by show 8 + (mL t' + 11) + 38 * d' ≤ _; omega⟩) ⟨hbl, fun U hU hW => ⟨rfl, hev.go hS hU hW, hnc.go hW.alike, by rw [hU]; exact hP⟩⟩ rfl (by rw [List.length_map]; exact hn) hl.1 (by rw [List.map_append, List.map_reverse]) (by show 2 * 0 + _ ≤ 8; rw [Nat.mul_zero, Nat.zero_add]; exact catS_ok _ _ hcat) hdec hroom
  intro T hT X
  rcases hr T hT X with ⟨v, st₀, t1, T', L', h0, X', hL, e1, e2, ⟨v', M', hv, hQ, hP', hF⟩, sg⟩ | ⟨q, st₀, t1, T', L', E, ce, h0, X', hL, e1, e2, hk, hce, hcv, hcl, sg⟩
  · cases hv
    obtain ⟨k1, k2, k3⟩ := vx_keep (A1 := eR ev) h0 e1 hS (fun _ _ q => q) (fun _ q => q) hL hF
    obtain ⟨t2, a1, b1⟩ := hQ T'.heap (locs ++ L') ls (by rw [e1]; exact hP') k3 hl T' rfl X'
    exact ⟨t2, sg t2 a1, b1⟩
  · exact hk.elim
end WMR
