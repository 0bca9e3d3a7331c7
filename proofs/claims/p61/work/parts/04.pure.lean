/-! THE PURE MACHINE: the bytecode of the tables, run over pure worlds. A world: how many cells were made, how many slots they have, what each name holds. -/
abbrev PL : Type := List (Option Value)
abbrev PW : Type := Nat × Nat × (Nat → va_E)
abbrev PO : Type := Option Value ⊕ Nat
abbrev PR : Type := PO × PW
abbrev PF : Type := Nat × PL × List Value × PW
/-- how many cells the pure worlds have after the constructor -/
abbrev pNA : Nat := 169
def plk {α : Type} (k : Nat) : List (Nat × α) → Option α
  | [] => none
  | (i, a) :: t => match Nat.beq i k with
    | true => some a
    | false => plk k t
def mB (M : Nat) : ByteArray := mBs.getD M ByteArray.empty
def mN (M : Nat) : Nat := mNs.getD M 0
def mR (M : Nat) : Option FieldType := mRs.getD M none
def mC (M : Nat) : Nat := mCs.getD M 99
def mF (M : Nat) : Nat := mFs.getD M 0
def mLo (M : Nat) : Nat := mLs.getD M 0
def mX (M : Nat) : Nat := mXs.getD M 0
def mS (M : Nat) : List (Nat × Nat) := mSs.getD M []
def mH (M : Nat) : List (Nat × Nat × Nat × Nat × Nat × Nat × Nat) := mHs.getD M []
def kM (c : Nat) : List (Nat × Nat × Nat × Nat) := kMs.getD c []
def kF (c : Nat) : List (Nat × Nat × Nat) := kFs.getD c []
def kC (c : Nat) : List (Nat × Value) := kCs.getD c []
def kN (c : Nat) : List (Nat × Nat) := kNs.getD c []
def kE (c : Nat) : List (Nat × Nat) := kEs.getD c []
def oF (c : Nat) : List Value := oFs.getD c []
def oT (c : Nat) : List FieldType := oTs.getD c []
def oK (c : Nat) : List Bool := oKs.getD c []
/-- the class of a method's objects, by its place among the worlds' classes -/
def mI (M : Nat) : Nat := [0, 1, 2, 3, 4, 99, 5, 6, 7].getD (mC M) 99
/-- what exceptions may still come from a place on -/
def phs : List (Nat × Nat) → Nat → Nat
  | [], _ => 0
  | e :: t, pc => (if pc ≤ e.1 then e.2 else 0) + phs t pc
def phi (M pc : Nat) : Nat := phs (mS M) pc
theorem phs_mono (t : List (Nat × Nat)) {a b : Nat} (h : a ≤ b) : phs t b ≤ phs t a := by
  induction t with
  | nil => exact Nat.le_refl _
  | cons e t ih =>
    show (if b ≤ e.1 then e.2 else 0) + phs t b ≤ (if a ≤ e.1 then e.2 else 0) + phs t a
    by_cases h1 : b ≤ e.1
    · rw [if_pos h1, if_pos (Nat.le_trans h h1)]; omega
    · rw [if_neg h1]; omega
/-! locals -/
def pc2 (v : Option Value) : Bool := match v with
  | some (.long _) => true
  | some (.double _) => true
  | _ => false
def pst1 (L : PL) (i : Nat) (v : Value) : PL := (if pc2 (L.getD (i - 1) none) = true then L.set (i - 1) none else L).set i (some v)
def pst2 (L : PL) (i : Nat) (v : Value) : PL := (pst1 L i v).set (i + 1) none
def pldi (ln i : Nat) (L : PL) (S : List Value) : Option (Nat × PL × List Value) := match L.getD i none with
  | some (.int x) => some (ln, L, .int x :: S)
  | _ => none
def pldl (ln i : Nat) (L : PL) (S : List Value) : Option (Nat × PL × List Value) := match L.getD i none with
  | some (.long x) => some (ln, L, .long x :: S)
  | _ => none
def plda (ln i : Nat) (L : PL) (S : List Value) : Option (Nat × PL × List Value) := match L.getD i none with
  | some (.ref x) => some (ln, L, .ref x :: S)
  | _ => none
def pldd (ln i : Nat) (L : PL) (S : List Value) : Option (Nat × PL × List Value) := match L.getD i none with
  | some (.double x) => some (ln, L, .double x :: S)
  | _ => none
def psti (ln i : Nat) (L : PL) (S : List Value) : Option (Nat × PL × List Value) := match S with
  | .int x :: S => if i < L.length then some (ln, pst1 L i (.int x), S) else none
  | _ => none
def psta (ln i : Nat) (L : PL) (S : List Value) : Option (Nat × PL × List Value) := match S with
  | .ref x :: S => if i < L.length then some (ln, pst1 L i (.ref x), S) else none
  | _ => none
def pstl (ln i : Nat) (L : PL) (S : List Value) : Option (Nat × PL × List Value) := match S with
  | .long x :: S => if i + 1 < L.length then some (ln, pst2 L i (.long x), S) else none
  | _ => none
def pstd (ln i : Nat) (L : PL) (S : List Value) : Option (Nat × PL × List Value) := match S with
  | .double x :: S => if i + 1 < L.length then some (ln, pst2 L i (.double x), S) else none
  | _ => none
/-- instructions that go on to the next one and touch locals and stack alone -/
def pf (i : Instr) (L : PL) (S : List Value) : Option (Nat × PL × List Value) :=
  match i with
  | .iconst n => some (1, L, .int (Int32.ofInt n) :: S)
  | .bipush n => some (2, L, .int (Int8.ofInt n).toInt32 :: S)
  | .sipush n => some (3, L, .int (Int16.ofInt n).toInt32 :: S)
  | .lconst n => some (1, L, .long (Int64.ofNat (n : Nat)) :: S)
  | .fconst n => if n = 1 then some (1, L, .float FP.fconst1 :: S) else none
  | .dconst n => if n = 0 then some (1, L, .double FP.dconst0 :: S) else none
  | .iload_n k => pldi 1 (k : Nat) L S
  | .iload k => pldi 2 k L S
  | .lload_n k => pldl 1 (k : Nat) L S
  | .lload k => pldl 2 k L S
  | .aload_n k => plda 1 (k : Nat) L S
  | .aload k => plda 2 k L S
  | .dload k => pldd 2 k L S
  | .istore_n k => psti 1 (k : Nat) L S
  | .istore k => psti 2 k L S
  | .lstore_n k => pstl 1 (k : Nat) L S
  | .lstore k => pstl 2 k L S
  | .astore_n k => psta 1 (k : Nat) L S
  | .astore k => psta 2 k L S
  | .dstore k => pstd 2 k L S
  | .iinc k n => match L.getD k none with
    | some (.int x) => some (3, pst1 L k (.int (x + Int32.ofInt n)), S)
    | _ => none
  | .dup => match S with
    | v :: S => if v.category = 1 then some (1, L, v :: v :: S) else none
    | _ => none
  | .pop => match S with
    | v :: S => if v.category = 1 then some (1, L, S) else none
    | _ => none
  | .dup2 => match S with
    | v :: u :: S => if v.category = 1 ∧ u.category = 1 then some (1, L, v :: u :: v :: u :: S) else none
    | _ => none
  | .iadd => match S with
    | .int y :: .int x :: S => some (1, L, .int (x + y) :: S)
    | _ => none
  | .isub => match S with
    | .int y :: .int x :: S => some (1, L, .int (x - y) :: S)
    | _ => none
  | .imul => match S with
    | .int y :: .int x :: S => some (1, L, .int (x * y) :: S)
    | _ => none
  | .iand => match S with
    | .int y :: .int x :: S => some (1, L, .int (x &&& y) :: S)
    | _ => none
  | .ior => match S with
    | .int y :: .int x :: S => some (1, L, .int (x ||| y) :: S)
    | _ => none
  | .ixor => match S with
    | .int y :: .int x :: S => some (1, L, .int (x ^^^ y) :: S)
    | _ => none
  | .idiv => match S with
    | .int y :: .int x :: S => if y = 0 then none else some (1, L, .int (x / y) :: S)
    | _ => none
  | .irem => match S with
    | .int y :: .int x :: S => if y = 0 then none else some (1, L, .int (x - x / y * y) :: S)
    | _ => none
  | .ishl => match S with
    | .int y :: .int x :: S => some (1, L, .int (x <<< (y &&& 31)) :: S)
    | _ => none
  | .ishr => match S with
    | .int y :: .int x :: S => some (1, L, .int (x >>> (y &&& 31)) :: S)
    | _ => none
  | .iushr => match S with
    | .int y :: .int x :: S => some (1, L, .int (x.toUInt32 >>> (y.toUInt32 &&& Int32.toUInt32 31)).toInt32 :: S)
    | _ => none
  | .lshl => match S with
    | .int y :: .long x :: S => some (1, L, .long (x <<< (y.toInt64 &&& 63)) :: S)
    | _ => none
  | .lshr => match S with
    | .int y :: .long x :: S => some (1, L, .long (x >>> (y.toInt64 &&& 63)) :: S)
    | _ => none
  | .lushr => match S with
    | .int y :: .long x :: S => some (1, L, .long (x.toUInt64 >>> (y.toInt64.toUInt64 &&& Int64.toUInt64 63)).toInt64 :: S)
    | _ => none
  | .ladd => match S with
    | .long y :: .long x :: S => some (1, L, .long (x + y) :: S)
    | _ => none
  | .lsub => match S with
    | .long y :: .long x :: S => some (1, L, .long (x - y) :: S)
    | _ => none
  | .lmul => match S with
    | .long y :: .long x :: S => some (1, L, .long (x * y) :: S)
    | _ => none
  | .land => match S with
    | .long y :: .long x :: S => some (1, L, .long (x &&& y) :: S)
    | _ => none
  | .lor => match S with
    | .long y :: .long x :: S => some (1, L, .long (x ||| y) :: S)
    | _ => none
  | .lxor => match S with
    | .long y :: .long x :: S => some (1, L, .long (x ^^^ y) :: S)
    | _ => none
  | .lcmp => match S with
    | .long y :: .long x :: S => some (1, L, .int (lg_cmp x y) :: S)
    | _ => none
  | .i2l => match S with
    | .int x :: S => some (1, L, .long x.toInt64 :: S)
    | _ => none
  | .l2i => match S with
    | .long x :: S => some (1, L, .int x.toInt32 :: S)
    | _ => none
  | .i2b => match S with
    | .int x :: S => some (1, L, .int x.toInt8.toInt32 :: S)
    | _ => none
  | .i2c => match S with
    | .int x :: S => some (1, L, .int (x.toUInt32 % 65536).toInt32 :: S)
    | _ => none
  | .i2d => match S with
    | .int x :: S => some (1, L, .double (FP.i2d x) :: S)
    | _ => none
  | .i2f => match S with
    | .int x :: S => some (1, L, .float (FP.i2f x) :: S)
    | _ => none
  | .f2d => match S with
    | .float x :: S => if FP.f2d x &&& 0x7fffffffffffffff ≤ 0x7ff0000000000000 then some (1, L, .double (FP.f2d x) :: S) else none
    | _ => none
  | .ddiv => match S with
    | .double y :: .double x :: S => if FP.ddiv x y &&& 0x7fffffffffffffff ≤ 0x7ff0000000000000 then some (1, L, .double (FP.ddiv x y) :: S) else none
    | _ => none
  | .fdiv => match S with
    | .float y :: .float x :: S => if FP.fdiv x y &&& 0x7fffffff ≤ 0x7f800000 then some (1, L, .float (FP.fdiv x y) :: S) else none
    | _ => none
  | .dcmp op => match S with
    | .double y :: .double x :: S => some (1, L, .int (Op.cmpValue (FP.dcmp x y) op) :: S)
    | _ => none
  | _ => none
/-! branches: taken, by how far, how long, the rest -/
def pcz (c : Jvm.ClassFile.Cond) (x : Int32) : Bool := match c with
  | .eq => decide (x = 0)
  | .ne => decide (¬ x = 0)
  | .lt => decide (x < 0)
  | .ge => decide (0 ≤ x)
  | .gt => decide (0 < x)
  | .le => decide (x ≤ 0)
def pcc (c : Jvm.ClassFile.Cond) (x y : Int32) : Bool := match c with
  | .eq => decide (x = y)
  | .ne => decide (¬ x = y)
  | .lt => decide (x < y)
  | .ge => decide (y ≤ x)
  | .gt => decide (y < x)
  | .le => decide (x ≤ y)
def pb (i : Instr) (S : List Value) : Option (Bool × Int × Nat × List Value) :=
  match i with
  | .goto off => some (true, off, 3, S)
  | .ifCond c off => match S with
    | .int x :: S => some (pcz c x, off, 3, S)
    | _ => none
  | .if_icmp c off => match S with
    | .int y :: .int x :: S => some (pcc c x y, off, 3, S)
    | _ => none
  | .tableswitch d lo hi offs => match S with
    | .int x :: S => if x.toInt < lo ∨ hi < x.toInt then some (true, d, 0, S) else match offs[(x.toInt - lo).toNat]? with
      | some off => some (true, off, 0, S)
      | none => none
    | _ => none
  | .lookupswitch d ps => match S with
    | .int x :: S => if (ps.toList.zip (ps.toList.drop 1)).all (fun (a, next) => a.1 < next.1) = true then some (true, Op.lookupswitch.offset ps.toList d x.toInt, 0, S) else none
    | _ => none
  | _ => none
/-! the world -/
def pup (w : PW) (a : Nat) (e : va_E) : PW := (w.1, w.2.1, va_up w.2.2 a e)
def pnw (w : PW) (n : Nat) (e : va_E) : PW := (w.1 + 1, w.2.1 + n, va_up w.2.2 w.1 e)
def pgf (w : PW) (a ci k : Nat) : Option Value := match w.2.2 a with
  | .inr (c, fs) => if c = ci then fs[k]? else none
  | .inl _ => none
def pfit (ty : FieldType) (v : Value) : Bool := match ty, v with
  | .int, .int _ => true
  | .long, .long _ => true
  | .array _, .ref _ => true
  | .object _, .ref _ => true
  | _, _ => false
def ppf (w : PW) (a ci k : Nat) (v : Value) : Option PW := match w.2.2 a with
  | .inr (c, fs) => if c = ci ∧ k < fs.length then some (pup w a (.inr (c, fs.set k v))) else none
  | .inl _ => none
def isO (w : PW) (a ci : Nat) : Prop := ∃ fs, w.2.2 a = .inr (ci, fs)
def isOb (w : PW) (a ci : Nat) : Bool := match w.2.2 a with
  | .inr (c, _) => Nat.beq c ci
  | .inl _ => false
def pai (w : PW) (a t : Nat) : Option (Nat × (Nat → Int32)) := match w.2.2 a with
  | .inl (c, n, .inl f) => if c = t then some (n, f) else none
  | _ => none
def paL (w : PW) (a : Nat) : Option (Nat × (Nat → Int64)) := match w.2.2 a with
  | .inl (c, n, .inr (.inl f)) => if c = 1 then some (n, f) else none
  | _ => none
def paQ (w : PW) (a : Nat) : Option (Nat × (Nat → Option Nat)) := match w.2.2 a with
  | .inl (c, n, .inr (.inr (.inr (.inr f)))) => if c = 6 then some (n, f) else none
  | _ => none
def pal (w : PW) (a : Nat) : Option Nat := match w.2.2 a with
  | .inl (_, n, _) => some n
  | .inr _ => none
def pin (i : Int32) (n : Nat) : Prop := ¬ (i < 0 ∨ n ≤ i.toNatClampNeg)
/-- loads out of arrays -/
def pld (M : Nat) (i : Instr) (S : List Value) (w : PW) : Option (Nat × List Value × PW) :=
  match i with
  | .iaload => match S with
    | .int i :: .ref a :: S => match pai w a 0 with
      | some (n, f) => if i < 0 ∨ n ≤ i.toNatClampNeg then none else some (1, .int (f i.toNatClampNeg) :: S, w)
      | none => match pai w a 7 with
        | some (n, f) => if i < 0 ∨ n ≤ i.toNatClampNeg then none else some (1, .int (f i.toNatClampNeg) :: S, w)
        | none => none
    | _ => none
  | .caload => match S with
    | .int i :: .ref a :: S => match pai w a 2 with
      | some (n, f) => if i < 0 ∨ n ≤ i.toNatClampNeg then none else some (1, .int (f i.toNatClampNeg) :: S, w)
      | none => none
    | _ => none
  | .baload => match S with
    | .int i :: .ref a :: S => match pai w a 3 with
      | some (n, f) => if i < 0 ∨ n ≤ i.toNatClampNeg then none else some (1, .int (f i.toNatClampNeg) :: S, w)
      | none => match pai w a 4 with
        | some (n, f) => if i < 0 ∨ n ≤ i.toNatClampNeg then none else some (1, .int (f i.toNatClampNeg) :: S, w)
        | none => none
    | _ => none
  | .laload => match S with
    | .int i :: .ref a :: S => match paL w a with
      | some (n, f) => if i < 0 ∨ n ≤ i.toNatClampNeg then none else some (1, .long (f i.toNatClampNeg) :: S, w)
      | none => none
    | _ => none
  | .aaload => match S with
    | .int i :: .ref a :: S => match paQ w a with
      | some (n, f) => if i < 0 ∨ n ≤ i.toNatClampNeg then none else some (1, va_rf (f i.toNatClampNeg) :: S, w)
      | none => none
    | _ => none
  | .arraylength => match S with
    | .ref a :: S => match pal w a with
      | some n => some (1, .int (Int32.ofNat n) :: S, w)
      | none => none
    | _ => none
  | .ldc idx => match plk idx (kC (mC M)) with
    | some (.int v) => some (2, .int v :: S, w)
    | some (.ref v) => some (2, .ref v :: S, w)
    | _ => none
  | .ldc_w idx => match plk idx (kC (mC M)) with
    | some (.int v) => some (3, .int v :: S, w)
    | _ => none
  | .ldc2_w idx => match plk idx (kC (mC M)) with
    | some (.long v) => some (3, .long v :: S, w)
    | _ => none
  | .getfield idx => match S with
    | .ref a :: S => match plk idx (kF (mC M)) with
      | some (ci, k) => match pgf w a ci k with
        | some v => some (3, v :: S, w)
        | none => none
      | none => none
    | _ => none
  | _ => none
/-- stores into arrays and fields, and new cells -/
def psw (M : Nat) (i : Instr) (S : List Value) (w : PW) : Option (Nat × List Value × PW) :=
  match i with
  | .iastore => match S with
    | .int x :: .int i :: .ref a :: S => match pai w a 0 with
      | some (n, f) => if i < 0 ∨ n ≤ i.toNatClampNeg then none else some (1, S, pup w a (.inl (0, n, .inl (upd f i.toNatClampNeg x))))
      | none => none
    | _ => none
  | .castore => match S with
    | .int x :: .int i :: .ref a :: S => match pai w a 2 with
      | some (n, f) => if i < 0 ∨ n ≤ i.toNatClampNeg then none else some (1, S, pup w a (.inl (2, n, .inl (upd f i.toNatClampNeg (vp_nar .char x)))))
      | none => none
    | _ => none
  | .bastore => match S with
    | .int x :: .int i :: .ref a :: S => match pai w a 3 with
      | some (n, f) => if i < 0 ∨ n ≤ i.toNatClampNeg then none else some (1, S, pup w a (.inl (3, n, .inl (upd f i.toNatClampNeg (vp_nar .boolean x)))))
      | none => match pai w a 4 with
        | some (n, f) => if i < 0 ∨ n ≤ i.toNatClampNeg then none else some (1, S, pup w a (.inl (4, n, .inl (upd f i.toNatClampNeg (vp_nar .byte x)))))
        | none => none
    | _ => none
  | .lastore => match S with
    | .long x :: .int i :: .ref a :: S => match paL w a with
      | some (n, f) => if i < 0 ∨ n ≤ i.toNatClampNeg then none else some (1, S, pup w a (.inl (1, n, .inr (.inl (vp_updL f i.toNatClampNeg x)))))
      | none => none
    | _ => none
  | .aastore => match S with
    | .ref v :: .int i :: .ref a :: S => match paQ w a with
      | some (n, f) => if isOb w v 0 = false ∨ i < 0 ∨ n ≤ i.toNatClampNeg then none else some (1, S, pup w a (.inl (6, n, .inr (.inr (.inr (.inr (va_up f i.toNatClampNeg (some v))))))))
      | none => none
    | _ => none
  | .putfield idx => match S with
    | v :: .ref a :: S => match plk idx (kF (mC M)) with
      | some (ci, k) => if pfit ((oT ci).getD k .byte) v = true ∧ ((oK ci).getD k true = false ∨ (mI M = ci ∧ (mYs.getD M x).name = "<init>")) then match ppf w a ci k v with
          | some w' => some (3, S, w')
          | none => none
        else none
      | none => none
    | _ => none
  | .newarray ty => match S with
    | .int n :: S => if w.1 < pNA ∧ ¬ n < 0 ∧ n.toNatClampNeg ≤ 100000 then match ty with
        | .int => some (2, .ref w.1 :: S, pnw w n.toNatClampNeg (.inl (0, n.toNatClampNeg, .inl (fun _ => 0))))
        | .long => some (2, .ref w.1 :: S, pnw w n.toNatClampNeg (.inl (1, n.toNatClampNeg, .inr (.inl (fun _ => 0)))))
        | .char => some (2, .ref w.1 :: S, pnw w n.toNatClampNeg (.inl (2, n.toNatClampNeg, .inl (fun _ => 0))))
        | .boolean => some (2, .ref w.1 :: S, pnw w n.toNatClampNeg (.inl (3, n.toNatClampNeg, .inl (fun _ => 0))))
        | .byte => some (2, .ref w.1 :: S, pnw w n.toNatClampNeg (.inl (4, n.toNatClampNeg, .inl (fun _ => 0))))
        | _ => none
      else none
    | _ => none
  | .anewarray idx => match S with
    | .int n :: S => if plk idx (kN (mC M)) = some 0 ∧ w.1 < pNA ∧ ¬ n < 0 ∧ n.toNatClampNeg ≤ 100000 then some (3, .ref w.1 :: S, pnw w n.toNatClampNeg (.inl (6, n.toNatClampNeg, .inr (.inr (.inr (.inr (fun _ => none)))))))
      else none
    | _ => none
  | .new idx => match plk idx (kN (mC M)) with
    | some ci => if w.1 < pNA then some (3, .ref w.1 :: S, pnw w (oF ci).length (.inr (ci, oF ci))) else none
    | none => none
  | _ => none
/-! calls -/
/-- the letters of the law's text -/
def ptx (w : PW) (a : Nat) : Option (List Value) := match w.2.2 a with
  | .inr (c, fs) => if c = 98 ∧ a = pTX then some fs else none
  | .inl _ => none
def pstr (a : Nat) : List Nat := sTx.getD (a - pSB) []
def pcpy (w : PW) (a0 a : Nat) (sp dp n : Int32) : Option PW :=
  if sp < 0 ∨ dp < 0 ∨ n < 0 then none else
  match pai w a0 0 with
  | some (n0, f) => match pai w a 0 with
    | some (n1, g) => if sp.toNatClampNeg + n.toNatClampNeg ≤ n0 ∧ dp.toNatClampNeg + n.toNatClampNeg ≤ n1 then some (pup w a (.inl (0, n1, .inl (va_cpy f g sp.toNatClampNeg dp.toNatClampNeg n.toNatClampNeg)))) else none
    | none => none
  | none => match paL w a0 with
    | some (n0, f) => match paL w a with
      | some (n1, g) => if sp.toNatClampNeg + n.toNatClampNeg ≤ n0 ∧ dp.toNatClampNeg + n.toNatClampNeg ≤ n1 then some (pup w a (.inl (1, n1, .inr (.inl (va_cpy f g sp.toNatClampNeg dp.toNatClampNeg n.toNatClampNeg))))) else none
      | none => none
    | none => none
/-- the methods that the machine takes whole, by their kind -/
def pnat (M k : Nat) (S : List Value) (w : PW) : Option (List Value × PW) :=
  match k with
  | 5 => match S with
    | .ref _ :: S => if 1 ≤ mF M ∧ 20 ≤ mLo M ∧ S.length ≤ 4 then some (S, w) else none
    | _ => none
  | 6 => match S with
    | .int y :: .int x :: S => if 1 ≤ mF M ∧ 21 ≤ mLo M ∧ S.length ≤ 4 then some (.int (if x < y then y else x) :: S, w) else none
    | _ => none
  | 7 => match S with
    | .int y :: .int x :: S => if 1 ≤ mF M ∧ 21 ≤ mLo M ∧ S.length ≤ 4 then some (.int (if x < y then x else y) :: S, w) else none
    | _ => none
  | 8 => match S with
    | .int n :: .int dp :: .ref a :: .int sp :: .ref a0 :: S => if 1 ≤ mF M ∧ 26 ≤ mLo M ∧ S.length ≤ 4 then match pcpy w a0 a sp dp n with
        | some w' => some (S, w')
        | none => none
      else none
    | _ => none
  | 9 => match S with
    | .ref a :: S => if pSB ≤ a ∧ a < pSB + sTx.length ∧ 3 ≤ mF M ∧ 100 ≤ mLo M ∧ S.length ≤ 4 then some (.int (Int32.ofNat (pstr a).length) :: S, w) else match ptx w a with
      | some fs => if 3 ≤ mF M ∧ 100 ≤ mLo M ∧ S.length ≤ 4 then some (.int (Int32.ofNat fs.length) :: S, w) else none
      | none => none
    | _ => none
  | 10 => match S with
    | .int i :: .ref a :: S => if pSB ≤ a ∧ a < pSB + sTx.length ∧ 6 ≤ mF M ∧ 160 ≤ mLo M ∧ S.length ≤ 4 ∧ ¬ i < 0 ∧ i.toNatClampNeg < (pstr a).length then some (.int (Int32.ofNat ((pstr a).getD i.toNatClampNeg 0)) :: S, w) else match ptx w a with
      | some fs => if 6 ≤ mF M ∧ 160 ≤ mLo M ∧ S.length ≤ 4 ∧ ¬ i < 0 ∧ i.toNatClampNeg < fs.length then some (fs.getD i.toNatClampNeg (.int 0) :: S, w) else none
      | none => none
    | _ => none
  | 11 => match S with
    | .int x :: S => if 1 ≤ mF M ∧ 21 ≤ mLo M ∧ S.length ≤ 4 then some (.int (if 0 ≤ x then x else 0 - x) :: S, w) else none
    | _ => none
  | _ => none
/-- the callee may be called from this place -/
def pok (M M' pc : Nat) : Bool := Nat.ble (M' + 1) M && Nat.ble (mF M' + 1) (mF M) && Nat.ble (mN M' + 19 + mLo M') (mLo M) && Nat.ble (phi M (pc + 3) + mX M') (phi M pc)
/-- the call that an instruction asks for: the callee, its arguments, the rest of the stack -/
def pcl (M pc : Nat) (i : Instr) (S : List Value) (w : PW) : Option (Nat × List Value × List Value) :=
  match i with
  | .invokevirtual idx => match plk idx (kM (mC M)) with
    | some (M', n, 0) => match S.drop n with
      | .ref b :: rest => if pok M M' pc = true ∧ isOb w b (mI M') = true ∧ n ≤ S.length ∧ rest.length ≤ 4 then some (M', .ref b :: (S.take n).reverse, rest) else none
      | _ => none
    | _ => none
  | .invokespecial idx => match plk idx (kM (mC M)) with
    | some (M', n, 2) => match S.drop n with
      | .ref b :: rest => if pok M M' pc = true ∧ isOb w b (mI M') = true ∧ n ≤ S.length ∧ rest.length ≤ 4 ∧ mX M' = 0 then some (M', .ref b :: (S.take n).reverse, rest) else none
      | _ => none
    | some (M', n, 3) => match S.drop n with
      | .ref b :: rest => if pok M M' pc = true ∧ isOb w b (mI M') = true ∧ n ≤ S.length ∧ rest.length ≤ 4 ∧ mX M' = 0 then some (M', .ref b :: (S.take n).reverse, rest) else none
      | _ => none
    | _ => none
  | .invokestatic idx => match plk idx (kM (mC M)) with
    | some (M', n, 1) => if pok M M' pc = true ∧ n ≤ S.length ∧ (S.drop n).length ≤ 4 then some (M', (S.take n).reverse, S.drop n) else none
    | some (M', n, 4) => if pok M M' pc = true ∧ n ≤ S.length ∧ (S.drop n).length ≤ 4 then some (M', (S.take n).reverse, S.drop n) else none
    | _ => none
  | _ => none
/-- a method that the machine takes whole -/
def pna (M : Nat) (i : Instr) (S : List Value) (w : PW) : Option (List Value × PW) :=
  match i with
  | .invokevirtual idx => match plk idx (kM (mC M)) with
    | some (_, _, k) => if k = 9 ∨ k = 10 then pnat M k S w else none
    | none => none
  | .invokespecial idx => match plk idx (kM (mC M)) with
    | some (_, _, k) => if k = 5 then pnat M k S w else none
    | none => none
  | .invokestatic idx => match plk idx (kM (mC M)) with
    | some (_, _, k) => if k = 6 ∨ k = 7 ∨ k = 8 ∨ k = 11 then pnat M k S w else none
    | none => none
  | _ => none
/-- the handler of a throw at a place: where it goes on, the local that takes it, how long that store is -/
def phd (M pc E : Nat) : Option (Nat × Nat × Nat) :=
  match (mH M).find? (fun h => Nat.ble h.1 pc && Nat.blt pc h.2.1 && Nat.beq h.2.2.2.2.1 E) with
  | some h => some (h.2.2.1, h.2.2.2.2.2.1, h.2.2.2.2.2.2)
  | none => none
/-- behind a call -/
def pac (M pc : Nat) (L : PL) (rest : List Value) (r : Option PR) : Option (PF ⊕ PR) :=
  match r with
  | none => none
  | some (.inl v, w) => some (.inl (pc + 3, L, v.toList ++ rest, w))
  | some (.inr E, w) => match phd M pc E with
    | some (h, loc, ln) => if pc + 3 ≤ h ∧ loc < L.length then some (.inl (h + ln, (pst1 L loc (.int 0)).set loc none, [], w)) else none
    | none => some (.inr (.inr E, w))
/-- returns -/
def prt (M : Nat) (i : Instr) (S : List Value) : Option (Option Value) :=
  match i with
  | .ireturn => match S with
    | [.int v] => match mR M with
      | some .int => some (some (.int v))
      | some .boolean => if v = 0 ∨ v = 1 then some (some (.int v)) else none
      | _ => none
    | _ => none
  | .lreturn => match S with
    | [.long v] => if mR M = some .long then some (some (.long v)) else none
    | _ => none
  | .freturn => match S with
    | [.float v] => if mR M = some .float then some (some (.float v)) else none
    | _ => none
  | .dreturn => match S with
    | [.double v] => if mR M = some .double then some (some (.double v)) else none
    | _ => none
  | .areturn => match S with
    | [.ref v] => if mR M = some (.object "java/lang/String") then some (some (.ref v)) else none
    | _ => none
  | .return_ => match S with
    | [] => if mR M = none then some none else none
    | _ => none
  | _ => none
/-- 'throw new E("text")' -/
def pth (M pc : Nat) (i : Instr) (S : List Value) (w : PW) : Option Nat :=
  match i with
  | .new idx => match plk idx (kE (mC M)) with
    | some E => some E
    | none => none
  | _ => none
def pkd (i : Instr) : Nat := match i with
  | .goto _ | .ifCond _ _ | .if_icmp _ _ | .tableswitch _ _ _ _ | .lookupswitch _ _ => 1
  | .iaload | .caload | .baload | .laload | .aaload | .arraylength | .ldc _ | .ldc_w _ | .ldc2_w _ | .getfield _ => 2
  | .iastore | .castore | .bastore | .lastore | .aastore | .putfield _ | .newarray _ | .anewarray _ => 3
  | .ireturn | .lreturn | .freturn | .dreturn | .areturn | .return_ => 4
  | .invokevirtual _ | .invokespecial _ | .invokestatic _ => 5
  | .new _ => 6
  | _ => 0
def pjp (M pc : Nat) (off : Int) (L : PL) (S : List Value) (w : PW) : Option (PF ⊕ PR) :=
  if 0 ≤ (pc : Int) + off ∧ phi M ((pc : Int) + off).toNat ≤ phi M pc then some (.inl (((pc : Int) + off).toNat, L, S, w)) else none
/-- one step of a method, calls taken whole -/
def px (call : Nat → List Value → PW → Option PR) (M : Nat) (c : PF) : Option (PF ⊕ PR) :=
  match decode (mB M) c.1 with
  | .error _ => none
  | .ok (i, len) => match pkd i with
    | 0 => match pf i c.2.1 c.2.2.1 with
      | some (ln, L, S) => if ln = len then some (.inl (c.1 + len, L, S, c.2.2.2)) else none
      | none => none
    | 1 => match pb i c.2.2.1 with
      | some (tk, off, ln, S) => if (ln = len ∨ ln = 0) ∧ 0 ≤ (c.1 : Int) + off then (if tk = true then pjp M c.1 off c.2.1 S c.2.2.2 else some (.inl (c.1 + len, c.2.1, S, c.2.2.2))) else none
      | none => none
    | 2 => match pld M i c.2.2.1 c.2.2.2 with
      | some (ln, S, w) => if ln = len then some (.inl (c.1 + len, c.2.1, S, w)) else none
      | none => none
    | 3 => match psw M i c.2.2.1 c.2.2.2 with
      | some (ln, S, w) => if ln = len then some (.inl (c.1 + len, c.2.1, S, w)) else none
      | none => none
    | 4 => match prt M i c.2.2.1 with
      | some v => if len = 1 then some (.inr (.inl v, c.2.2.2)) else none
      | none => none
    | 5 => if len = 3 then match pcl M c.1 i c.2.2.1 c.2.2.2 with
        | some (M', args, rest) => pac M c.1 c.2.1 rest (call M' args c.2.2.2)
        | none => match pna M i c.2.2.1 c.2.2.2 with
          | some (S, w) => some (.inl (c.1 + 3, c.2.1, S, w))
          | none => none
      else none
    | _ => if len = 3 then match psw M i c.2.2.1 c.2.2.2 with
        | some (ln, S, w) => if ln = 3 then some (.inl (c.1 + 3, c.2.1, S, w)) else none
        | none => match pth M c.1 i c.2.2.1 c.2.2.2 with
          | some E => some (.inr (.inr E, c.2.2.2))
          | none => none
      else none
def pex (call : Nat → List Value → PW → Option PR) : Nat → Nat → PF → Option PR
  | 0, _, _ => none
  | n + 1, M, c => match px call M c with
    | none => none
    | some (.inl c') => pex call n M c'
    | some (.inr r) => some r
/-- the locals at a method's entry -/
def pargs : List Value → PL
  | [] => []
  | v :: t => if v.category = 2 then some v :: none :: pargs t else some v :: pargs t
def pent (M : Nat) (a : List Value) : PL := pargs a ++ List.replicate (mN M - (pargs a).length) none
def prun : Nat → Nat → List Value → PW → Option PR
  | 0, _, _, _ => none
  | n + 1, M, a, w => if (pargs a).length ≤ mN M then pex (prun n) (n + 1) M (0, pent M a, [], w) else none
