/-! what holds at the law's entry -/
section ST
variable {s : State} {args : Array Value}
theorem st_D (hts : ∀ w ∈ lw_big, w.before args s = true) : ∃ D : va_G, ∀ (c : Nat) (q : vw_C), vwCl[c]? = some q → u_Kn s q.1 q.2.1 q.2.2 (D.1 c) (D.2 c) := by
  obtain ⟨c0, i0, k0⟩ := u_known (C := RX0) (T := TX0) (N := 7) (n := 7) hts (wsAll 0 _ rfl) (hts _ (bm 151 _ (by decide +kernel) (by decide +kernel)))
  obtain ⟨c1, i1, k1⟩ := u_known (C := RX1) (T := TX1) (N := 6) (n := 6) hts (wsAll 1 _ rfl) (hts _ (bm 107 _ (by decide +kernel) (by decide +kernel)))
  obtain ⟨c2, i2, k2⟩ := u_known (C := RX2) (T := TX2) (N := 3) (n := 3) hts (wsAll 2 _ rfl) (hts _ (bm 179 _ (by decide +kernel) (by decide +kernel)))
  obtain ⟨c3, i3, k3⟩ := u_known (C := RX3) (T := TX3) (N := 8) (n := 8) hts (wsAll 3 _ rfl) (hts _ (bm 214 _ (by decide +kernel) (by decide +kernel)))
  obtain ⟨c4, i4, k4⟩ := u_known (C := RX4) (T := TX4) (N := 4) (n := 4) hts (wsAll 4 _ rfl) (hts _ (bm 132 _ (by decide +kernel) (by decide +kernel)))
  obtain ⟨c5, i5, k5⟩ := u_known (C := RX5) (T := TX5) (N := 1) (n := 1) hts (wsAll 5 _ rfl) (hts _ (bm 96 _ (by decide +kernel) (by decide +kernel)))
  obtain ⟨c6, i6, k6⟩ := u_known (C := RX6) (T := TX6) (N := 3) (n := 3) hts (wsAll 6 _ rfl) (hts _ (bm 195 _ (by decide +kernel) (by decide +kernel)))
  obtain ⟨c7, i7, k7⟩ := u_known (C := RX7) (T := TX7) (N := 7) (n := 7) hts (wsAll 7 _ rfl) (hts _ (bm 88 _ (by decide +kernel) (by decide +kernel)))
  obtain ⟨c8, i8, k8⟩ := u_known (C := RX8) (T := TX8) (N := 27) (n := 27) hts (wsAll 8 _ rfl) (hts _ (bm 981 _ (by decide +kernel) (by decide +kernel)))
  refine ⟨(fun i => match i with | 0 => c0 | 1 => c1 | 2 => c2 | 3 => c3 | 4 => c4 | 5 => c5 | 6 => c6 | 7 => c7 | _ => c8, fun i => match i with | 0 => i0 | 1 => i1 | 2 => i2 | 3 => i3 | 4 => i4 | 5 => i5 | 6 => i6 | 7 => i7 | _ => i8), fun c q hq => ?_⟩
  match c, hq with
  | 0, h => cases h; exact k0
  | 1, h => cases h; exact k1
  | 2, h => cases h; exact k2
  | 3, h => cases h; exact k3
  | 4, h => cases h; exact k4
  | 5, h => cases h; exact k5
  | 6, h => cases h; exact k6
  | 7, h => cases h; exact k7
  | 8, h => cases h; exact k8
  | n + 9, h => cases h
theorem st_Y (hts : ∀ w ∈ lw_big, w.before args s = true) : ∃ y : YT, ∀ (k : Nat) (q : ClassId × FieldType), (tyY y)[k]? = some q → ArrOfT s q.1 q.2 ∧ va_RA s q.1 q.2 := by
  obtain ⟨a1, a2, a3, a4, a5, a6⟩ := Cond.arrayClass_spec (hts _ aw_int)
  obtain ⟨b1, b2, b3, b4, b5, b6⟩ := Cond.arrayClass_spec (hts _ aw_boolean)
  obtain ⟨d1, d2, d3, d4, d5, d6⟩ := Cond.arrayClass_spec (hts _ aw_long)
  refine ⟨(a1, b1, d1), fun k q hq => ?_⟩
  match k, hq with
  | 0, h => cases h; exact ⟨fun n z => ⟨fun k h => (by cases h), a2, a5, a3, a6⟩, a4⟩
  | 1, h => cases h; exact ⟨fun n z => ⟨fun k h => (by cases h), b2, b5, b3, b6⟩, b4⟩
  | 2, h => cases h; exact ⟨fun n z => ⟨fun k h => (by cases h), d2, d5, d3, d6⟩, d4⟩
  | n + 3, h => cases h
theorem st_str {own : String} {k : Nat} {tx : String} (h : (Cond.stringRef own k tx).before args s = true) : ∃ a, vk_R own k tx a s := by
  have hcur : ∃ cur, s.vm.findClass own = some cur := by
    have h1 := h
    simp only [Cond.before, Cond.holds, Cond.value] at h1
    cases hc : s.vm.findClass own with
    | none => simp [hc] at h1
    | some cur => exact ⟨cur, rfl⟩
  obtain ⟨cur, hcur⟩ := hcur
  obtain ⟨-, -, -, sa, -, -, -, -, -, hev⟩ := Cond.stringRef_spec hcur h
  exact ⟨sa, vk_R.of h hev⟩
theorem st_in : ∀ q ∈ stT, Cond.stringRef q.1 q.2.1 q.2.2 ∈ lw_tbl := by decide +kernel
theorem nw_in : ∀ w ∈ nwT, w ∈ lw_tbl := by decide +kernel
theorem ns_in : ∀ w ∈ nsL, w ∈ lw_tbl := by decide +kernel
theorem st_S (hts : ∀ w ∈ lw_tbl, w.before args s = true) : ∃ S : Nat → Nat, ∀ i, i < 14 → ∀ q, stT[i]? = some q → vk_R q.1 q.2.1 q.2.2 (S i) s := by
  have h : ∀ i : Nat, ∃ a : Nat, ∀ q, stT[i]? = some q → vk_R q.1 q.2.1 q.2.2 a s := fun i => by
    cases hq : stT[i]? with
    | none => exact ⟨0, fun q h => by cases h⟩
    | some q =>
      obtain ⟨a, ha⟩ := st_str (hts _ (st_in q (List.mem_of_getElem? hq)))
      exact ⟨a, fun q' h => by cases h; exact ha⟩
  exact ⟨fun i => Classical.choose (h i), fun i _ q hq => Classical.choose_spec (h i) q hq⟩
theorem st_nw (hts : ∀ w ∈ lw_tbl, w.before args s = true) : ∀ w ∈ nwT, va_Nw w s := fun w hw => va_Nw.of (nwT_on (nwT_is w hw)) (hts w (nw_in w hw))
theorem st_ns (hts : ∀ w ∈ lw_tbl, w.before args s = true) : nsAt s := fun w hw => by
  have h1 := hts w (ns_in w hw)
  simp only [nsL, List.mem_cons, List.not_mem_nil, or_false] at hw
  rcases hw with rfl | rfl | rfl | rfl <;> exact va_Nw.of rfl h1
theorem st_nc (hgv : (Jvm.Cond.and given_1 narrow_1).before args s = true) : ncAt s := by
  have hs := flat_of_before _ hgv
  exact ⟨va_Nc.of (hs _ (by decide +kernel)), va_Nc.of (hs _ (by decide +kernel)), va_Nc.of (hs _ (by decide +kernel))⟩
theorem st_z1 (hts : ∀ w ∈ lw_tbl, w.before args s = true) (hgv : (Jvm.Cond.and given_1 narrow_1).before args s = true) : vx_Zq Bundle.tN "UNASSIGNED_STACK" Bundle.steD (fun q => s.heap.size ≤ q) s s.heap := vx_Zqof (hts _ (by decide +kernel)) (hts _ (by decide +kernel)) (flat_of_before _ hgv _ (by decide +kernel)) (fun a h1 h2 => Nat.lt_irrefl _ (Nat.lt_of_lt_of_le h1 h2))
theorem st_z2 (hts : ∀ w ∈ lw_tbl, w.before args s = true) (hgv : (Jvm.Cond.and given_1 narrow_1).before args s = true) : vx_Zq Bundle.tN "SUPPRESSED_SENTINEL" Bundle.listD (fun q => s.heap.size ≤ q) s s.heap := vx_Zqof (hts _ (by decide +kernel)) (hts _ (by decide +kernel)) (flat_of_before _ hgv _ (by decide +kernel)) (fun a h1 h2 => Nat.lt_irrefl _ (Nat.lt_of_lt_of_le h1 h2))
end ST
