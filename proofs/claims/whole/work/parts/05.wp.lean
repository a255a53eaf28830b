/-! numbers: Int for Int32 -/
def Inr (x : Int) : Prop := -2147483648 ≤ x ∧ x < 2147483648
theorem oI_toInt {x : Int} (h : Inr x) : (Int32.ofInt x).toInt = x := Int32.toInt_ofInt_of_le (by have := h.1; omega) (by have := h.2; omega)
theorem oI_lt {x y : Int} (hx : Inr x) (hy : Inr y) : Int32.ofInt x < Int32.ofInt y ↔ x < y := by rw [Int32.lt_iff_toInt_lt, oI_toInt hx, oI_toInt hy]
theorem oI_le {x y : Int} (hx : Inr x) (hy : Inr y) : Int32.ofInt x ≤ Int32.ofInt y ↔ x ≤ y := by rw [Int32.le_iff_toInt_le, oI_toInt hx, oI_toInt hy]
theorem oI_eq {x y : Int} (hx : Inr x) (hy : Inr y) : Int32.ofInt x = Int32.ofInt y ↔ x = y := by
  constructor
  · intro h
    have := congrArg Int32.toInt h
    rwa [oI_toInt hx, oI_toInt hy] at this
  · intro h; rw [h]
theorem oI_nat {x : Int} (h0 : 0 ≤ x) : Int32.ofInt x = nI x.toNat := by
  obtain ⟨n, rfl⟩ := Int.eq_ofNat_of_zero_le h0
  rfl
theorem oI_div {x y : Int} (h0 : 0 ≤ x) (h1 : x < 2147483648) (h2 : 0 < y) (h3 : y < 2147483648) : Int32.ofInt x / Int32.ofInt y = Int32.ofInt (x / y) := by
  obtain ⟨n, rfl⟩ := Int.eq_ofNat_of_zero_le h0
  obtain ⟨m, rfl⟩ := Int.eq_ofNat_of_zero_le (Int.le_of_lt h2)
  rw [← Int.natCast_ediv]
  exact pk_div (by omega) (by omega) (by omega)
theorem oI_rem {x y : Int} (h0 : 0 ≤ x) (h1 : x < 2147483648) (h2 : 0 < y) (h3 : y < 2147483648) : Int32.ofInt x - Int32.ofInt x / Int32.ofInt y * Int32.ofInt y = Int32.ofInt (x % y) := by
  obtain ⟨n, rfl⟩ := Int.eq_ofNat_of_zero_le h0
  obtain ⟨m, rfl⟩ := Int.eq_ofNat_of_zero_le (Int.le_of_lt h2)
  rw [← Int.natCast_emod]
  exact pk_rem (by omega) (by omega) (by omega)
theorem oI_in {i : Int} {n : Nat} (h0 : 0 ≤ i) (h1 : i < n) (hn : n < 2147483648) : vp_in (Int32.ofInt i) n := by
  rw [vp_in_iff, oI_toInt ⟨by omega, by omega⟩]; exact ⟨h0, h1⟩
theorem oI_cl {i : Int} (h0 : 0 ≤ i) (h1 : i < 2147483648) : (Int32.ofInt i).toNatClampNeg = i.toNat := by
  show (Int32.ofInt i).toInt.toNat = _
  rw [oI_toInt ⟨by omega, by omega⟩]
theorem oI_l {x : Int} (h : Inr x) : (Int32.ofInt x).toInt64 = Int64.ofInt x := by
  apply Int64.toInt_inj.mp
  rw [Int32.toInt_toInt64, oI_toInt h, Int64.toInt_ofInt_of_le (by have := h.1; omega) (by have := h.2; omega)]
def iandI (x y : Int) : Int := (Int32.ofInt x &&& Int32.ofInt y).toInt
def iorI (x y : Int) : Int := (Int32.ofInt x ||| Int32.ofInt y).toInt
def ishlI (x y : Int) : Int := (Int32.ofInt x <<< (Int32.ofInt y &&& 31)).toInt
def ishrI (x y : Int) : Int := (Int32.ofInt x >>> (Int32.ofInt y &&& 31)).toInt
def iushrI (x y : Int) : Int := ((Int32.ofInt x).toUInt32 >>> ((Int32.ofInt y).toUInt32 &&& Int32.toUInt32 31)).toInt32.toInt
def cmpP (c : Jvm.ClassFile.Cond) (x y : Int) : Prop := match c with
  | .eq => x = y
  | .ne => x ≠ y
  | .lt => x < y
  | .ge => y ≤ x
  | .gt => y < x
  | .le => x ≤ y
def tgt (pc : Nat) (off : Int) : Nat := ((pc : Int) + off).toNat
def tsw (dflt lo hi : Int) (offs : Array Int) (x : Int) : Int := if x < lo ∨ hi < x then dflt else (nth offs.toList (x - lo).toNat).getD dflt
/-! one instruction: what must hold so that the goal holds -/
section
variable (ev : Ev) (k : Bool) (t : MT) (Q : Out → Mem → Prop) (K : Nat → Lo → List AV → Mem → Prop) (nx : Lo → List AV → Mem → Prop) (pc : Nat) (L : Lo) (M : Mem)
def wpLd (i : Nat) (st : List AV) : Prop := match lget L i with
  | some v => nx L (v :: st) M
  | none => False
def wpLdI (i : Nat) (st : List AV) : Prop := match lget L i with
  | some (.inl x) => nx L (vI x :: st) M
  | _ => False
def wpLdA (i : Nat) (st : List AV) : Prop := match lget L i with
  | some (.inr (.inl x)) => nx L (vR x :: st) M
  | _ => False
def wpLdL (i : Nat) (st : List AV) : Prop := match lget L i with
  | some (.inr (.inr (.inl x))) => nx L (vL x :: st) M
  | _ => False
def wpStI (i : Nat) (st : List AV) : Prop := match st with
  | .inl x :: st => i < mL t ∧ nx (sto1 L i (vI x)) st M
  | _ => False
def wpStL (i : Nat) (st : List AV) : Prop := match st with
  | .inr (.inr (.inl x)) :: st => i + 1 < mL t ∧ nx (sto2 L i (vL x)) st M
  | _ => False
def wpInc (i : Nat) (n : Int) (st : List AV) : Prop := match lget L i with
  | some (.inl x) => i < mL t ∧ nx (sto1 L i (vI (x + n))) st M
  | _ => False
def wpBin (f : Int → Int → Int) (st : List AV) : Prop := match st with
  | .inl y :: .inl x :: st => nx L (vI (f x y) :: st) M
  | _ => False
def wpDiv (f : Int → Int → Int) (st : List AV) : Prop := match st with
  | .inl y :: .inl x :: st => ((0 ≤ x ∧ x < 2147483648) ∧ 0 < y ∧ y < 2147483648) ∧ nx L (vI (f x y) :: st) M
  | _ => False
def wpNeg (st : List AV) : Prop := match st with
  | .inl x :: st => nx L (vI (-x) :: st) M
  | _ => False
def wpBinL (f : Int → Int → Int) (st : List AV) : Prop := match st with
  | .inr (.inr (.inl y)) :: .inr (.inr (.inl x)) :: st => nx L (vL (f x y) :: st) M
  | _ => False
def wpI2l (st : List AV) : Prop := match st with
  | .inl x :: st => Inr x ∧ nx L (vL x :: st) M
  | _ => False
def wpIf2 (c : Jvm.ClassFile.Cond) (off : Int) (st : List AV) : Prop := match st with
  | .inl y :: .inl x :: st => (Inr x ∧ Inr y) ∧ (cmpP c x y → K (tgt pc off) L st M) ∧ (¬ cmpP c x y → nx L st M)
  | _ => False
def wpIf1 (c : Jvm.ClassFile.Cond) (off : Int) (st : List AV) : Prop := match st with
  | .inl x :: st => Inr x ∧ (cmpP c x 0 → K (tgt pc off) L st M) ∧ (¬ cmpP c x 0 → nx L st M)
  | _ => False
def wpSw (dflt lo hi : Int) (offs : Array Int) (st : List AV) : Prop := match st with
  | .inl x :: st => Inr x ∧ K (tgt pc (tsw dflt lo hi offs x)) L st M
  | _ => False
def wpGet (i : Nat) (st : List AV) : Prop := match st with
  | .inr (.inl a) :: st => match alk (mF t) i with
    | some e => match alk fkL a with
      | some q => bif Nat.beq q.1 e.1 then (match nth q.2 e.2 with
        | some f => nx L (fAV M a e.2 f :: st) M
        | none => False) else False
      | none => False
    | none => False
  | _ => False
/-- a field's write: the memory behind it -/
def wpPut (i : Nat) (st : List AV) : Prop := match st with
  | v :: .inr (.inl a) :: st => match alk (mF t) i with
    | some e => match alk fkL a with
      | some q => bif Nat.beq q.1 e.1 then (match nth q.2 e.2 with
        | some f => (match f.1, v with
          | 0, .inl x => nx L st (upM M a (e.2 : Int) x)
          | 3, .inl x => (x = 0 ∨ x = 1) ∧ nx L st (upM M a (e.2 : Int) x)
          | 2, .inr (.inr (.inl x)) => nx L st (upM M a (e.2 : Int) x)
          | _, _ => False)
        | none => False) else False
      | none => False
    | none => False
  | _ => False
def wpAld (ty : Nat) (st : List AV) : Prop := match st with
  | .inl i :: .inr (.inl a) :: st => match alk akL a with
    | some q => bif Nat.beq q.1 ty then (0 ≤ i ∧ i < q.2) ∧ nx L (vI (M a i) :: st) M else False
    | none => False
  | _ => False
def wpAst (ty : Nat) (st : List AV) : Prop := match st with
  | .inl x :: .inl i :: .inr (.inl a) :: st => match alk akL a with
    | some q => bif Nat.beq q.1 ty then ((0 ≤ i ∧ i < q.2) ∧ (ty = 0 ∨ x = 0 ∨ x = 1)) ∧ nx L st (upM M a i x) else False
    | none => False
  | _ => False
def wpLen (st : List AV) : Prop := match st with
  | .inr (.inl a) :: st => match alk akL a with
    | some (0, n) => nx L (vI (n : Int) :: st) M
    | _ => False
  | _ => False
def wpLdc (i : Nat) (st : List AV) : Prop := match alk (mK t) i with
  | some (0, v) => nx L (vI v :: st) M
  | _ => False
def wpLdc2 (i : Nat) (st : List AV) : Prop := match alk (mK t) i with
  | some (1, v) => nx L (vL v :: st) M
  | _ => False
def wpDup (st : List AV) : Prop := match st with
  | .inl x :: st => nx L (vI x :: vI x :: st) M
  | .inr (.inl x) :: st => nx L (vR x :: vR x :: st) M
  | _ => False
def wpDup2 (st : List AV) : Prop := match st with
  | .inl x :: .inr (.inl y) :: st => nx L (vI x :: vR y :: vI x :: vR y :: st) M
  | _ => False
def wpPop (st : List AV) : Prop := match st with
  | .inl _ :: st => nx L st M
  | _ => False
def wpI2d (st : List AV) : Prop := match st with
  | .inl x :: st => nx L (vD (FP.i2d (Int32.ofInt x)) :: st) M
  | _ => False
def wpBinD (f : UInt64 → UInt64 → UInt64) (st : List AV) : Prop := match st with
  | .inr (.inr (.inr y)) :: .inr (.inr (.inr x)) :: st => vf_n64 (f x y) ∧ nx L (vD (f x y) :: st) M
  | _ => False
def wpRet (st : List AV) : Prop := match st with
  | [.inl x] => match mR t with
    | some .int => k = false ∧ Q (.inl (some (vI x))) M
    | some .boolean => k = false ∧ (x = 0 ∨ x = 1) ∧ Q (.inl (some (vI x))) M
    | _ => False
  | _ => False
def wpRetV (st : List AV) : Prop := match st with
  | [] => match mR t with
    | none => k = false ∧ Q (.inl none) M
    | _ => False
  | _ => False
def wpRetL (st : List AV) : Prop := match st with
  | [.inr (.inr (.inl x))] => match mR t with
    | some .long => k = false ∧ Q (.inl (some (vL x))) M
    | _ => False
  | _ => False
def wpRetD (st : List AV) : Prop := match st with
  | [.inr (.inr (.inr x))] => match mR t with
    | some .double => k = false ∧ Q (.inl (some (vD x))) M
    | _ => False
  | _ => False
def stp (st : List AV) : Instr → Prop
  | .iconst n => nx L (vI n :: st) M
  | .bipush n => nx L (vI n :: st) M
  | .sipush n => nx L (vI n :: st) M
  | .dconst n => nx L (vD (bif Nat.beq n.val 0 then FP.dconst0 else FP.dconst1) :: st) M
  | .iload_n i => wpLdI nx L M i.val st
  | .iload i => wpLdI nx L M i st
  | .aload_n i => wpLdA nx L M i.val st
  | .aload i => wpLdA nx L M i st
  | .lload_n i => wpLdL nx L M i.val st
  | .lload i => wpLdL nx L M i st
  | .istore_n i => wpStI t nx L M i.val st
  | .istore i => wpStI t nx L M i st
  | .lstore_n i => wpStL t nx L M i.val st
  | .lstore i => wpStL t nx L M i st
  | .iinc i n => wpInc t nx L M i n st
  | .iadd => wpBin nx L M (fun x y => x + y) st
  | .isub => wpBin nx L M (fun x y => x - y) st
  | .imul => wpBin nx L M (fun x y => x * y) st
  | .iand => wpBin nx L M iandI st
  | .ior => wpBin nx L M iorI st
  | .ishl => wpBin nx L M ishlI st
  | .ishr => wpBin nx L M ishrI st
  | .iushr => wpBin nx L M iushrI st
  | .idiv => wpDiv nx L M (fun x y => x / y) st
  | .irem => wpDiv nx L M (fun x y => x % y) st
  | .ineg => wpNeg nx L M st
  | .ladd => wpBinL nx L M (fun x y => x + y) st
  | .lmul => wpBinL nx L M (fun x y => x * y) st
  | .i2l => wpI2l nx L M st
  | .if_icmp c off => wpIf2 K nx pc L M c off st
  | .ifCond c off => wpIf1 K nx pc L M c off st
  | .goto off => K (tgt pc off) L st M
  | .tableswitch a b c o => wpSw K pc L M a b c o st
  | .getfield i => wpGet t nx L M i st
  | .putfield i => wpPut t nx L M i st
  | .iaload => wpAld nx L M 0 st
  | .baload => wpAld nx L M 1 st
  | .iastore => wpAst nx L M 0 st
  | .bastore => wpAst nx L M 1 st
  | .arraylength => wpLen nx L M st
  | .ldc i => wpLdc t nx L M i st
  | .ldc_w i => wpLdc t nx L M i st
  | .ldc2_w i => wpLdc2 t nx L M i st
  | .dup => wpDup nx L M st
  | .dup2 => wpDup2 nx L M st
  | .pop => wpPop nx L M st
  | .i2d => wpI2d nx L M st
  | .ddiv => wpBinD nx L M FP.ddiv st
  | .dmul => wpBinD nx L M FP.dmul st
  | .ireturn => wpRet k t Q M st
  | .return_ => wpRetV k t Q M st
  | .lreturn => wpRetL k t Q M st
  | .dreturn => wpRetD k t Q M st
  | .invokestatic _ => K pc L st M
  | .invokevirtual _ => K pc L st M
  | .new _ => K pc L st M
  | _ => False
end
def okI : Instr → Nat → Bool
  | .bipush n, len => decide (-128 ≤ n) && decide (n < 128) && Nat.beq len 2
  | .sipush n, len => decide (-32768 ≤ n) && decide (n < 32768) && Nat.beq len 3
  | .iload _, len | .aload _, len | .lload _, len | .istore _, len | .lstore _, len | .ldc _, len => Nat.beq len 2
  | .iinc _ _, len | .if_icmp _ _, len | .ifCond _ _, len | .goto _, len | .getfield _, len | .putfield _, len | .ldc_w _, len | .ldc2_w _, len | .invokestatic _, len | .invokevirtual _, len | .invokespecial _, len | .new _, len => Nat.beq len 3
  | .tableswitch _ _ _ _, _ => true
  | _, len => Nat.beq len 1
