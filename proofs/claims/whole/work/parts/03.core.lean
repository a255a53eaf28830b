/-! the abstract machine: values, memory by places, the world of a memory -/
abbrev AV : Type := Int ⊕ (Nat ⊕ (Int ⊕ UInt64))
abbrev vI (x : Int) : AV := .inl x
abbrev vR (k : Nat) : AV := .inr (.inl k)
abbrev vL (x : Int) : AV := .inr (.inr (.inl x))
abbrev vD (x : UInt64) : AV := .inr (.inr (.inr x))
abbrev Mem : Type := Nat → Int → Int
abbrev Lo : Type := List (Option AV)
abbrev Out : Type := Option AV ⊕ String
abbrev Ev : Type := Launch × Nat × (Nat → Nat) × va_G × (ClassId × ClassId × ClassId) × (Nat → Nat)
abbrev MT : Type := MethodName × ByteArray × Nat × Option FieldType × List (Nat × Nat × Nat) × List (Nat × Nat × Int)
abbrev eL (ev : Ev) : Launch := ev.1
abbrev eB (ev : Ev) : Nat := ev.2.1
abbrev eA (ev : Ev) : Nat → Nat := ev.2.2.1
abbrev eD (ev : Ev) : va_G := ev.2.2.2.1
abbrev eY (ev : Ev) : ClassId × ClassId × ClassId := ev.2.2.2.2.1
abbrev eS (ev : Ev) : Nat → Nat := ev.2.2.2.2.2
abbrev mN (t : MT) : MethodName := t.1
abbrev mC (t : MT) : ByteArray := t.2.1
abbrev mL (t : MT) : Nat := t.2.2.1
abbrev mR (t : MT) : Option FieldType := t.2.2.2.1
abbrev mF (t : MT) : List (Nat × Nat × Nat) := t.2.2.2.2.1
abbrev mK (t : MT) : List (Nat × Nat × Int) := t.2.2.2.2.2
def cv (ad : Nat → Nat) : AV → Value
  | .inl x => .int (Int32.ofInt x)
  | .inr (.inl k) => .ref (ad k)
  | .inr (.inr (.inl x)) => .long (Int64.ofInt x)
  | .inr (.inr (.inr d)) => .double d
def upM (M : Mem) (k : Nat) (j : Int) (x : Int) : Mem := fun k' i => if k' = k ∧ i = j then x else M k' i
def alk {α : Type} : List (Nat × α) → Nat → Option α
  | [], _ => none
  | e :: r, k => bif Nat.beq e.1 k then some e.2 else alk r k
def nth {α : Type} : List α → Nat → Option α
  | [], _ => none
  | a :: _, 0 => some a
  | _ :: r, n + 1 => nth r n
theorem nth_eq {α : Type} : ∀ (l : List α) (n : Nat), nth l n = l[n]?
  | [], _ => rfl
  | _ :: _, 0 => rfl
  | _ :: r, n + 1 => by rw [List.getElem?_cons_succ]; exact nth_eq r n
theorem alk_mem {α : Type} : ∀ {l : List (Nat × α)} {k : Nat} {a : α}, alk l k = some a → (k, a) ∈ l
  | [], _, _, h => by cases h
  | e :: r, k, a, h => by
    unfold alk at h
    cases hb : Nat.beq e.1 k with
    | true =>
      rw [hb] at h
      have h1 : e.1 = k := Nat.eq_of_beq_eq_true hb
      have h2 : e.2 = a := by simpa using h
      rw [← h1, ← h2]; exact List.mem_cons_self
    | false =>
      rw [hb] at h
      exact List.mem_cons_of_mem _ (alk_mem h)
/-- the objects: place, class, fields (0 int, 1 a place, 2 long, 3 boolean) -/
def fkL : List (Nat × Nat × List (Nat × Nat)) := [
  (0, 7, [(1, 1), (1, 3), (1, 7), (1, 11), (1, 18), (1, 19), (1, 22)]),
  (1, 5, [(1, 2)]),
  (3, 1, [(1, 4), (1, 5), (1, 6), (0, 0), (0, 0), (0, 0)]),
  (7, 4, [(1, 8), (1, 9), (1, 10), (0, 0)]),
  (11, 0, [(1, 12), (1, 13), (1, 14), (1, 15), (1, 16), (1, 17), (0, 0)]),
  (18, 2, [(1, 1), (1, 7), (1, 11)]),
  (19, 6, [(1, 20), (1, 21), (0, 0)]),
  (22, 3, [(1, 7), (1, 18), (1, 19), (1, 23), (1, 24), (1, 25), (1, 26), (0, 0)]),
  (27, 8, [(0, 0), (1, 28), (0, 0), (1, 29), (1, 30), (1, 31), (0, 0), (1, 32), (1, 33), (1, 34), (1, 35), (0, 0), (1, 36), (1, 37), (0, 0), (1, 38), (0, 0), (1, 39), (1, 40), (3, 0), (0, 0), (1, 41), (1, 42), (1, 43), (1, 44), (1, 45), (2, 0)])]
/-- the arrays: place, type (0 int, 1 boolean, 2 long), length -/
def akL : List (Nat × Nat × Nat) := [(2, 0, 144), (4, 0, 40), (5, 0, 20), (6, 0, 20), (8, 0, 8), (9, 0, 8), (10, 0, 8),
  (12, 0, 6), (13, 0, 6), (14, 0, 6), (15, 0, 6), (16, 0, 6), (17, 0, 6), (20, 0, 540), (21, 0, 576), (23, 0, 64), (24, 0, 8), (25, 0, 8), (26, 0, 80),
  (28, 0, 144), (29, 0, 8), (30, 0, 8), (31, 0, 8), (32, 0, 6), (33, 0, 6), (34, 0, 6), (35, 0, 6), (36, 0, 120), (37, 0, 420), (38, 0, 40), (39, 0, 21), (40, 0, 21),
  (41, 0, 576), (42, 1, 768), (43, 0, 8), (44, 0, 8), (45, 0, 80), (46, 2, 1)]
def fAV (M : Mem) (k j : Nat) (e : Nat × Nat) : AV := match e.1 with
  | 1 => vR e.2
  | 2 => vL (M k (j : Int))
  | _ => vI (M k (j : Int))
def fvs (ad : Nat → Nat) (M : Mem) (k : Nat) : Nat → List (Nat × Nat) → List Value
  | _, [] => []
  | j, e :: r => cv ad (fAV M k j e) :: fvs ad M k (j + 1) r
def cellE (ev : Ev) (M : Mem) (k : Nat) : va_E := match alk fkL k with
  | some q => .inr (q.1, fvs (eA ev) M k 0 q.2)
  | none => match alk akL k with
    | some (0, n) => .inl ((eY ev).1, n, .inl (fun i => Int32.ofInt (M k (i : Int))))
    | some (1, n) => .inl ((eY ev).2.1, n, .inl (fun i => Int32.ofInt (M k (i : Int))))
    | some (_, n) => .inl ((eY ev).2.2, n, .inr (.inl (fun i => Int64.ofInt (M k (i : Int)))))
    | none => .inr (0, [])
def wd (ev : Ev) (M : Mem) : va_W := (List.range 47).map (fun k => (eA ev k, cellE ev M k))
theorem wd_get (ev : Ev) (M : Mem) {k : Nat} (h : k < 47) : (wd ev M)[k]? = some (eA ev k, cellE ev M k) := by
  unfold wd
  rw [List.getElem?_map, List.getElem?_range h]; rfl
theorem fvs_congr (ad : Nat → Nat) {M M' : Mem} {k : Nat} (h : ∀ i, M k i = M' k i) : ∀ (l : List (Nat × Nat)) (j : Nat), fvs ad M k j l = fvs ad M' k j l
  | [], _ => rfl
  | e :: r, j => by
    unfold fvs
    rw [fvs_congr ad h r (j + 1)]
    congr 1
    unfold fAV
    rw [h j]
theorem cellE_congr (ev : Ev) {M M' : Mem} {k : Nat} (h : ∀ i, M k i = M' k i) : cellE ev M k = cellE ev M' k := by
  have h2 : M k = M' k := funext h
  unfold cellE
  cases alk fkL k with
  | some q => simp only [fvs_congr (eA ev) h]
  | none => simp only [h2]
theorem upM_ne {M : Mem} {k : Nat} {j x : Int} {k' : Nat} (h : k' ≠ k) (i : Int) : upM M k j x k' i = M k' i := by
  unfold upM; rw [if_neg (fun q => h q.1)]
theorem wd_set (ev : Ev) (M : Mem) (k : Nat) (j x : Int) : wd ev (upM M k j x) = (wd ev M).set k (eA ev k, cellE ev (upM M k j x) k) := by
  apply List.ext_getElem?
  intro i
  rw [List.getElem?_set]
  by_cases hi : i < 47
  · rw [wd_get ev _ hi]
    by_cases hk : k = i
    · subst hk
      rw [if_pos rfl, if_pos (by simp [wd]; exact hi)]
    · rw [if_neg hk, wd_get ev _ hi, cellE_congr ev (fun q => upM_ne (fun h => hk h.symm) q)]
  · have h1 : ∀ M' : Mem, (wd ev M')[i]? = none := fun M' => by
      rw [List.getElem?_eq_none_iff]; simp [wd]; omega
    rw [h1, h1]
    by_cases hk : k = i
    · subst hk
      rw [if_pos rfl, if_neg (by simp [wd]; omega)]
    · rw [if_neg hk]
theorem fvs_get (ad : Nat → Nat) (M : Mem) (k : Nat) : ∀ (l : List (Nat × Nat)) (b j : Nat), (fvs ad M k b l)[j]? = (l[j]?).map (fun e => cv ad (fAV M k (b + j) e))
  | [], _, _ => rfl
  | e :: r, b, 0 => rfl
  | e :: r, b, j + 1 => by
    unfold fvs
    rw [List.getElem?_cons_succ, List.getElem?_cons_succ, fvs_get ad M k r (b + 1) j]
    have : b + 1 + j = b + (j + 1) := by omega
    rw [this]
theorem fvs_len (ad : Nat → Nat) (M : Mem) (k : Nat) : ∀ (l : List (Nat × Nat)) (b : Nat), (fvs ad M k b l).length = l.length
  | [], _ => rfl
  | e :: r, b => by unfold fvs; rw [List.length_cons, List.length_cons, fvs_len ad M k r]
/-- a field that is a number is written -/
theorem fvs_set (ad : Nat → Nat) (M : Mem) (k : Nat) (l : List (Nat × Nat)) (j : Nat) (x : Int) {e : Nat × Nat} (he : l[j]? = some e) :
    fvs ad (upM M k (j : Int) x) k 0 l = (fvs ad M k 0 l).set j (cv ad (fAV (upM M k (j : Int) x) k j e)) := by
  apply List.ext_getElem?
  intro i
  rw [List.getElem?_set, fvs_get, fvs_get, Nat.zero_add]
  by_cases hk : j = i
  · subst hk
    have hlt : j < l.length := (List.getElem?_eq_some_iff.mp he).1
    rw [if_pos rfl, if_pos (by rw [fvs_len]; exact hlt), he]; rfl
  · rw [if_neg hk]
    have h2 : upM M k (j : Int) x k (i : Int) = M k (i : Int) := by unfold upM; rw [if_neg (fun q => hk (by have := q.2; omega))]
    have h3 : ∀ e, fAV (upM M k (j : Int) x) k i e = fAV M k i e := fun e => by unfold fAV; rw [h2]
    congr 1
    funext e
    rw [h3]
/-! locals -/
def lget : Lo → Nat → Option AV
  | [], _ => none
  | o :: _, 0 => o
  | _ :: r, n + 1 => lget r n
def lset : Lo → Nat → Option AV → Lo
  | [], _, _ => []
  | _ :: r, 0, v => v :: r
  | o :: r, n + 1, v => o :: lset r n v
def lwide : Option AV → Bool
  | some (.inr (.inr _)) => true
  | _ => false
def lkill (L : Lo) : Nat → Lo
  | 0 => L
  | n + 1 => bif lwide (lget L n) then lset L n none else L
def sto1 (L : Lo) (i : Nat) (v : AV) : Lo := lset (lkill L i) i (some v)
def sto2 (L : Lo) (i : Nat) (v : AV) : Lo := lset (lset (lkill L i) i (some v)) (i + 1) none
theorem lget_lset : ∀ (L : Lo) (i : Nat) (o : Option AV) (j : Nat) (w : AV), lget (lset L i o) j = some w → (j = i ∧ o = some w) ∨ (j ≠ i ∧ lget L j = some w)
  | [], _, _, _, _, h => by cases h
  | _ :: r, 0, o, 0, w, h => Or.inl ⟨rfl, h⟩
  | _ :: r, 0, o, j + 1, w, h => Or.inr ⟨by omega, h⟩
  | a :: r, i + 1, o, 0, w, h => Or.inr ⟨by omega, h⟩
  | a :: r, i + 1, o, j + 1, w, h => by
    rcases lget_lset r i o j w h with ⟨h1, h2⟩ | ⟨h1, h2⟩
    · exact Or.inl ⟨by omega, h2⟩
    · exact Or.inr ⟨by omega, h2⟩
theorem cv_cat (ad : Nat → Nat) (v : AV) : (cv ad v).category = 2 ↔ lwide (some v) = true := by
  rcases v with x | k | x | d <;> simp [cv, Value.category, lwide]
theorem lget_lkill {L : Lo} {i j : Nat} {w : AV} (h : lget (lkill L i) j = some w) : lget L j = some w ∧ (j + 1 = i → lwide (some w) = false) := by
  cases i with
  | zero => exact ⟨h, fun q => by omega⟩
  | succ n =>
    replace h : lget (bif lwide (lget L n) then lset L n none else L) j = some w := h
    cases hw : lwide (lget L n) with
    | true =>
      rw [hw] at h
      rcases lget_lset L n none j w h with ⟨-, h2⟩ | ⟨h1, h2⟩
      · cases h2
      · exact ⟨h2, fun q => by omega⟩
    | false =>
      rw [hw] at h
      refine ⟨h, fun q => ?_⟩
      have : j = n := by omega
      subst this
      have h' : lget L j = some w := h
      rw [h'] at hw
      exact hw
def asc (ad : Nat → Nat) : Nat → Lo → List (Nat × Value)
  | _, [] => []
  | i, none :: r => asc ad (i + 1) r
  | i, some v :: r => (i, cv ad v) :: asc ad (i + 1) r
theorem asc_mem (ad : Nat → Nat) : ∀ (L : Lo) (b : Nat) (q : Nat × Value), q ∈ asc ad b L ↔ ∃ j w, lget L j = some w ∧ q = (b + j, cv ad w)
  | [], b, q => by
    constructor
    · intro h; cases h
    · rintro ⟨j, w, h, -⟩; cases h
  | none :: r, b, q => by
    show q ∈ asc ad (b + 1) r ↔ _
    rw [asc_mem ad r (b + 1) q]
    constructor
    · rintro ⟨j, w, h, e⟩
      exact ⟨j + 1, w, h, by rw [e]; congr 1; omega⟩
    · rintro ⟨j, w, h, e⟩
      cases j with
      | zero => cases h
      | succ j => exact ⟨j, w, h, by rw [e]; congr 1; omega⟩
  | some v :: r, b, q => by
    show q ∈ (b, cv ad v) :: asc ad (b + 1) r ↔ _
    rw [List.mem_cons, asc_mem ad r (b + 1) q]
    constructor
    · rintro (h | ⟨j, w, h, e⟩)
      · exact ⟨0, v, rfl, h⟩
      · exact ⟨j + 1, w, h, by rw [e]; congr 1; omega⟩
    · rintro ⟨j, w, h, e⟩
      cases j with
      | zero => cases h; exact Or.inl e
      | succ j => exact Or.inr ⟨j, w, h, by rw [e]; congr 1; omega⟩
def LH (ad : Nat → Nat) (ls : Array Slot) (n : Nat) (L : Lo) : Prop := lv_has ls n (asc ad 0 L)
theorem LH.at {ad : Nat → Nat} {ls : Array Slot} {n : Nat} {L : Lo} (h : LH ad ls n L) {i : Nat} {v : AV} (hg : lget L i = some v) : ls[i]? = some (.val (cv ad v)) :=
  h.2.2 (i, cv ad v) ((asc_mem ad L 0 _).mpr ⟨i, v, hg, by rw [Nat.zero_add]⟩)
theorem LH.of {ad : Nat → Nat} {ls : Array Slot} {n : Nat} {lv : List (Nat × Value)} {L : Lo} (h : lv_has ls n lv) (hs : ∀ j w, lget L j = some w → (j, cv ad w) ∈ lv) : LH ad ls n L :=
  ⟨h.1, h.2.1, fun q hq => by
    obtain ⟨j, w, h1, e⟩ := (asc_mem ad L 0 q).mp hq
    rw [e, Nat.zero_add]
    exact h.2.2 _ (hs j w h1)⟩
theorem LH.st1 {ad : Nat → Nat} {ls : Array Slot} {n : Nat} {L : Lo} {i : Nat} {v : AV}
    (h : lv_has ls n ((i, cv ad v) :: (asc ad 0 L).filter (fun q => !(q.1 == i) && !(q.1 + 1 == i && q.2.category == 2)))) : LH ad ls n (sto1 L i v) := by
  refine LH.of h fun j w hg => ?_
  rcases lget_lset _ _ _ _ _ hg with ⟨h1, h2⟩ | ⟨h1, h2⟩
  · cases h2; subst h1; exact List.mem_cons_self
  · obtain ⟨h3, h4⟩ := lget_lkill h2
    refine List.mem_cons_of_mem _ (List.mem_filter.mpr ⟨(asc_mem ad L 0 _).mpr ⟨j, w, h3, by rw [Nat.zero_add]⟩, ?_⟩)
    have h5 : (cv ad w).category = 2 → ¬ j + 1 = i := fun q r => by
      have := (cv_cat ad w).mp q
      rw [h4 r] at this
      cases this
    by_cases hc : (cv ad w).category = 2
    · simp [h1, h5 hc]
    · simp [h1, hc]
theorem LH.st2 {ad : Nat → Nat} {ls : Array Slot} {n : Nat} {L : Lo} {i : Nat} {v : AV}
    (h : lv_has ls n ((i, cv ad v) :: (asc ad 0 L).filter (fun q => !(q.1 == i) && (!(q.1 == i + 1) && !(q.1 + 1 == i && q.2.category == 2))))) : LH ad ls n (sto2 L i v) := by
  refine LH.of h fun j w hg => ?_
  rcases lget_lset _ _ _ _ _ hg with ⟨h1, h2⟩ | ⟨h1, h2⟩
  · cases h2
  · rcases lget_lset _ _ _ _ _ h2 with ⟨h6, h7⟩ | ⟨h6, h7⟩
    · cases h7; subst h6; exact List.mem_cons_self
    · obtain ⟨h3, h4⟩ := lget_lkill h7
      refine List.mem_cons_of_mem _ (List.mem_filter.mpr ⟨(asc_mem ad L 0 _).mpr ⟨j, w, h3, by rw [Nat.zero_add]⟩, ?_⟩)
      have h5 : (cv ad w).category = 2 → ¬ j + 1 = i := fun q r => by
        have := (cv_cat ad w).mp q
        rw [h4 r] at this
        cases this
      by_cases hc : (cv ad w).category = 2
      · simp [h6, h1, h5 hc]
      · simp [h6, h1, hc]
theorem LH.len {ad : Nat → Nat} {ls : Array Slot} {n : Nat} {L : Lo} (h : LH ad ls n L) : ls.size = n := h.1
/-- fewer known locals -/
def lsub : Lo → Lo → Prop
  | [], _ => True
  | none :: r, [] => lsub r []
  | none :: r, _ :: r' => lsub r r'
  | some _ :: _, [] => False
  | some v :: r, o :: r' => o = some v ∧ lsub r r'
theorem lsub_nil : ∀ (r : Lo), lsub r [] → ∀ j w, lget r j = some w → lget [] j = some w
  | [], _, _, _, h => by cases h
  | none :: r, h, 0, _, hg => by cases hg
  | none :: r, h, j + 1, w, hg => by have := lsub_nil r h j w hg; cases this
theorem lsub_get : ∀ (L' L : Lo), lsub L' L → ∀ j w, lget L' j = some w → lget L j = some w
  | [], _, _, _, _, h => by cases h
  | none :: r, [], h, j, w, hg => lsub_nil (none :: r) h j w hg
  | none :: r, _ :: r', h, 0, w, hg => by cases hg
  | none :: r, _ :: r', h, j + 1, w, hg => lsub_get r r' h j w hg
  | some v :: r, [], h, j, w, hg => h.elim
  | some v :: r, o :: r', h, 0, w, hg => by rw [← hg]; exact h.1
  | some v :: r, o :: r', h, j + 1, w, hg => lsub_get r r' h.2 j w hg
theorem LH.sub {ad : Nat → Nat} {ls : Array Slot} {n : Nat} {L L' : Lo} (h : LH ad ls n L) (hs : lsub L' L) : LH ad ls n L' :=
  LH.of h fun j w hg => (asc_mem ad L 0 _).mpr ⟨j, w, lsub_get L' L hs j w hg, by rw [Nat.zero_add]⟩
/-- the locals at a method's entry -/
def ent : List AV → Lo
  | [] => []
  | v :: r => bif lwide (some v) then some v :: none :: ent r else some v :: ent r
theorem ent_mem (ad : Nat → Nat) : ∀ (as : List AV) (b j : Nat) (w : AV), lget (ent as) j = some w → (b + j, cv ad w) ∈ lv_args b (as.map (cv ad))
  | [], _, _, _, h => by cases h
  | v :: r, b, j, w, h => by
    unfold ent at h
    rw [List.map_cons]
    unfold lv_args
    cases hw : lwide (some v) with
    | true =>
      rw [hw] at h
      rw [if_pos ((cv_cat ad v).mpr hw)]
      match j, h with
      | 0, h => cases h; exact List.mem_cons_self
      | 1, h => cases h
      | j + 2, h =>
        have := ent_mem ad r (b + 2) j w h
        refine List.mem_cons_of_mem _ ?_
        have e : b + (j + 2) = b + 2 + j := by omega
        rw [e]; exact this
    | false =>
      rw [hw] at h
      rw [if_neg (fun q => by have := (cv_cat ad v).mp q; rw [hw] at this; cases this)]
      match j, h with
      | 0, h => cases h; exact List.mem_cons_self
      | j + 1, h =>
        have := ent_mem ad r (b + 1) j w h
        refine List.mem_cons_of_mem _ ?_
        have e : b + (j + 1) = b + 1 + j := by omega
        rw [e]; exact this
