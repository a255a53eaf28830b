/-! throws -/
abbrev exN : List String := ["java/lang/RuntimeException", "java/lang/Exception"]
/-- a throw of E at the constant ic: what the tables hold of it -/
def XOK (own : String) (ik ic : Nat) (E : String) : Prop := Bundle.fit E = true ∧ Cond.classLink own ik E ∈ lw_big ∧ Cond.initialized E ∈ lw_big ∧ (∀ w ∈ vx_atS own ic E exN, w ∈ lw_big ∨ w ∈ nwT) ∧ (∀ w ∈ Cond.classLink own ik E :: Cond.initialized E :: vx_atS own ic E exN, vx_ot w = true)
def xokB (own : String) (ik ic : Nat) (E : String) : Bool := Bundle.fit E && (decide (Cond.classLink own ik E ∈ lw_big) && (decide (Cond.initialized E ∈ lw_big) && ((vx_atS own ic E exN).all (fun w => decide (w ∈ lw_big) || decide (w ∈ nwT)) && (Cond.classLink own ik E :: Cond.initialized E :: vx_atS own ic E exN).all vx_ot)))
theorem XOK_of {own : String} {ik ic : Nat} {E : String} (h : xokB own ik ic E = true) : XOK own ik ic E := by
  simp only [xokB, Bool.and_eq_true] at h
  obtain ⟨h1, h2, h3, h4, h5⟩ := h
  refine ⟨h1, of_decide_eq_true h2, of_decide_eq_true h3, fun w hw => ?_, List.all_eq_true.mp h5⟩
  have := List.all_eq_true.mp h4 w hw
  rw [Bool.or_eq_true] at this
  rcases this with h | h
  · exact Or.inl (of_decide_eq_true h)
  · exact Or.inr (of_decide_eq_true h)
theorem exN_fit : ∀ n ∈ exN, Bundle.fit n = true := by decide +kernel
theorem x_7_IOOBE : XOK RX7 217 221 "java/lang/IndexOutOfBoundsException" := XOK_of (by decide +kernel)
theorem x_7_IAE : XOK RX7 115 119 "java/lang/IllegalArgumentException" := XOK_of (by decide +kernel)
theorem x_7_ISE : XOK RX7 97 101 "java/lang/IllegalStateException" := XOK_of (by decide +kernel)
section
variable {ev : Ev} {d : Nat} {t : MT} {Q : Out → Mem → Prop} {pc : Nat} {L : Lo} {M : Mem} {ik ic is : Nat} {E text : String}
theorem AW.thr (i : Nat) (hi : i < 14) (hX : XOK (mN t).cls ik ic E) (hT : stT[i]? = some ((mN t).cls, is, text)) (hd : 5 < d)
    (d0 : decode (mC t) pc = .ok (.new ik, 3)) (d3 : decode (mC t) (pc + 3) = .ok (.dup, 1)) (d4 : decode (mC t) (pc + 4) = .ok (.ldc is, 2)) (d6 : decode (mC t) (pc + 6) = .ok (.invokespecial ic, 3)) (d9 : decode (mC t) (pc + 9) = .ok (.athrow, 1))
    (h : Q (.inr E) M) : AW ev true d t Q pc L [] M := by
  intro p e s m args below meth c hc H locs ls hP hS hl
  obtain ⟨h1, h2, h3, h4, h5⟩ := hX
  have hts := hc.2.2.2.2.2.2.1
  have hev := hc.2.2.2.2.2.2.2.2.1
  refine vx_throwS (A := eR ev) (names := exN) (cls := E) (text := text) (ik := ik) (is := is) (ic := ic) (sa := eS ev i) hc.1 hc.2.1 hev.1.2.2 hc.2.2.2.2.2.1 h1 exN_fit (hts _ h2) (hts _ h3) (hev.2.2.2.2.2.1 i hi _ hT)
    (fun w hw => (h4 w hw).elim (fun q => hts w q) (fun q => (hev.2.2.2.2.2.2 w q).use (nwT_on (nwT_is w q)))) h5 hev.2.2.1 hev.2.2.2.1 hS (hl.1.trans hc.2.2.1.symm) d0 d3 d4 d6 d9 (fun x hx => (hc.2.2.2.2.2.2.2.1 x hx).elim) hd (by show 0 + (13 * 3 + 43) ≤ 38 * d; omega) (by show 0 + 1 ≤ 1; omega) (by show 0 + 6 ≤ 6; omega) hc.2.2.2.2.1
    (fun u hu hz hk => ⟨M, rfl, h, fun k q hq => (hP k q hq).kept (hk _ (hP k q hq).lt), Nat.le_trans hS.1 hz, fun q h1 h2 => ?_⟩) hS.2.2 (by show 0 + 1 ≤ 1; omega) (by show 0 + 6 ≤ 6; omega)
  rw [hk q (Nat.lt_of_lt_of_le h1 hS.1)]
  exact hS.2.1 q h1 h2
theorem AW.thrW (i : Nat) (hi : i < 14) (hX : XOK (mN t).cls ik ic E) (hT : stT[i]? = some ((mN t).cls, is, text)) (hd : 5 < d)
    (d0 : decode (mC t) pc = .ok (.new ik, 3)) (d3 : decode (mC t) (pc + 3) = .ok (.dup, 1)) (d4 : decode (mC t) (pc + 4) = .ok (.ldc_w is, 3)) (d7 : decode (mC t) (pc + 7) = .ok (.invokespecial ic, 3)) (d10 : decode (mC t) (pc + 10) = .ok (.athrow, 1))
    (h : Q (.inr E) M) : AW ev true d t Q pc L [] M := by
  intro p e s m args below meth c hc H locs ls hP hS hl
  obtain ⟨h1, h2, h3, h4, h5⟩ := hX
  have hts := hc.2.2.2.2.2.2.1
  have hev := hc.2.2.2.2.2.2.2.2.1
  refine vx_throwSW (A := eR ev) (names := exN) (cls := E) (text := text) (ik := ik) (is := is) (ic := ic) (sa := eS ev i) hc.1 hc.2.1 hev.1.2.2 hc.2.2.2.2.2.1 h1 exN_fit (hts _ h2) (hts _ h3) (hev.2.2.2.2.2.1 i hi _ hT)
    (fun w hw => (h4 w hw).elim (fun q => hts w q) (fun q => (hev.2.2.2.2.2.2 w q).use (nwT_on (nwT_is w q)))) h5 hev.2.2.1 hev.2.2.2.1 hS (hl.1.trans hc.2.2.1.symm) d0 d3 d4 d7 d10 (fun x hx => (hc.2.2.2.2.2.2.2.1 x hx).elim) hd (by show 0 + (13 * 3 + 43) ≤ 38 * d; omega) (by show 0 + 1 ≤ 1; omega) (by show 0 + 6 ≤ 6; omega) hc.2.2.2.2.1
    (fun u hu hz hk => ⟨M, rfl, h, fun k q hq => (hP k q hq).kept (hk _ (hP k q hq).lt), Nat.le_trans hS.1 hz, fun q h1 h2 => ?_⟩) hS.2.2 (by show 0 + 1 ≤ 1; omega) (by show 0 + 6 ≤ 6; omega)
  rw [hk q (Nat.lt_of_lt_of_le h1 hS.1)]
  exact hS.2.1 q h1 h2
end
