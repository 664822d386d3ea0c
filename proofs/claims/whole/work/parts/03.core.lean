/-! ===== the deep interpreter: instructions read off a table, a heap as a function of addresses; what a run may come to ===== -/
/-- a cell by its address; an array's first number is its kind (0 int, 1 boolean, 2 Game, 3 Object, 4 long, 5 double), an object's its class in vwCl -/
abbrev AH : Type := Nat → Option va_E
/-- an instruction of the table: whether a loop begins there, the instruction as decoded, the next pc, two numbers -/
abbrev RI : Type := Bool × Instr × Nat × Nat × Nat
/-- how a method ends: an answer, or an exception's class -/
abbrev RS : Type := Except String (Option Value)
abbrev QT : Type := RS → AH → Nat → Prop
abbrev CT : Type := Nat → List Value → AH → Nat → QT → Prop
abbrev LV : Type := List (Option Value)
abbrev AST : Type := Nat → LV → List Value → AH → Nat → Nat → Nat → Prop
/-- the script (address, length, ints), the address of ArrayList's empty array, that of the class object of Object[] -/
abbrev EX : Type := (Nat × Nat × (Nat → Int32)) × Nat × Nat
/-- a method: name, bytes, locals, what it returns, handlers (from, to, handler, number of the class' entry, class), cells, slots, table -/
abbrev MI : Type := MethodName × ByteArray × Nat × Option FieldType × List (Nat × Nat × Nat × Nat × String) × Nat × Nat × List (Nat × RI)
abbrev mY (r : MI) : MethodName := r.1
abbrev mB (r : MI) : ByteArray := r.2.1
abbrev mL (r : MI) : Nat := r.2.2.1
abbrev mT (r : MI) : Option FieldType := r.2.2.2.1
abbrev mH (r : MI) : List (Nat × Nat × Nat × Nat × String) := r.2.2.2.2.1
abbrev mC (r : MI) : Nat := r.2.2.2.2.2.1
abbrev mS (r : MI) : Nat := r.2.2.2.2.2.2.1
abbrev mI (r : MI) : List (Nat × RI) := r.2.2.2.2.2.2.2
noncomputable def lkp (pc : Nat) (l : List (Nat × RI)) : Option RI := List.rec none (fun q _ ih => cond (Nat.beq pc q.1) (some q.2) ih) l
def hup (h : AH) (a : Nat) (e : va_E) : AH := fun q => if q = a then some e else h q
theorem hup_eq (h : AH) (a : Nat) (e : va_E) : hup h a e a = some e := by simp [hup]
theorem hup_ne (h : AH) {a q : Nat} (e : va_E) (n : q ≠ a) : hup h a e q = h q := by simp [hup, n]
def gl : LV → Nat → Option Value
  | [], _ => none
  | o :: _, 0 => o
  | _ :: l, k + 1 => gl l k
def sl : LV → Nat → Option Value → LV
  | [], _, _ => []
  | _ :: l, 0, v => v :: l
  | o :: l, k + 1, v => o :: sl l k v
def isw : Option Value → Bool
  | none => false
  | some (.int _) => false
  | some (.long _) => true
  | some (.float _) => false
  | some (.double _) => true
  | some .null => false
  | some (.ref _) => false
  | some (.retAddr _) => false
/-- a value of two slots begins just ahead of this place -/
def c2 (L : LV) : Nat → Bool
  | 0 => false
  | k + 1 => isw (gl L k)
def catS : List Value → Nat
  | [] => 0
  | v :: l => v.category + catS l
/-- classes by their number in the table: 50 is Entry with all its kinds -/
def subc (cc ci : Nat) : Bool := Nat.beq cc ci || (Nat.beq cc 50 && (Nat.beq ci 2 || Nat.beq ci 3 || Nat.beq ci 5 || Nat.beq ci 8 || Nat.beq ci 9 || Nat.beq ci 10))
/-- a new object's fields -/
def dfl : Nat → List Value
  | 0 => [.int 0, .null, .int 0]
  | 1 => [.int 0, .int 0, .null, .null, .null, .null]
  | 2 => [.int 0, .int 0, .int 0]
  | 3 => [.int 0, .int 0, .int 0, .int 0, .int 0]
  | 4 => [.null, .null, .int 0, .null, .null, .int 0, .int 0, .int 0, .int 0, .int 0, .int 0, .int 0, .int 0, .null]
  | 5 => [.int 0, .int 0, .null, .int 0]
  | 6 => [.int 0, .int 0, .int 0, .int 0, .int 0, .int 0, .null, .null, .null]
  | 7 => [.int 0, .int 0, .null, .null, .int 0]
  | 8 => [.int 0, .int 0]
  | 9 => [.int 0, .int 0, .int 0, .int 0]
  | 10 => [.int 0, .int 0]
  | 11 => [.null, .null, .int 0, .null, .null, .null, .null, .int 0, .int 0, .int 0]
  | 12 => [.int 0, .int 0, .null, .null, .null, .null, .null, .int 0, .int 0, .null, .null, .null, .null, .null, .int 0, .null, .int 0, .null, .null, .null, .null, .null, .null, .null, .null, .null, .null, .null, .null, .null, .null, .null, .null, .null, .null, .null, .null, .null, .int 0, .int 0, .int 0]
  | _ => []
/-- a new array's elements -/
def dfa : Nat → Nat → vp_A
  | 0, n => (n, .inl (fun _ => 0))
  | 1, n => (n, .inl (fun _ => 0))
  | 4, n => (n, .inr (.inl (fun _ => 0)))
  | 5, n => (n, .inr (.inr (.inr (.inl (fun _ => 0)))))
  | _, n => (n, .inr (.inr (.inr (.inr (fun _ => none)))))
/-- the type of a field, by class and number -/
def tyF : Nat → Nat → FieldType
  | 0 => tyJx4a65c
  | 1 => tyX0
  | 2 => tyX1
  | 3 => tyX2
  | 4 => tyX4
  | 5 => tyX5
  | 6 => tyX6
  | 7 => tyX7
  | 8 => tyX8
  | 9 => tyX9
  | 10 => tyX10
  | 11 => tyX11
  | _ => tyX12
def exn : Nat → String
  | 0 => "java/lang/IndexOutOfBoundsException"
  | 1 => "java/lang/IllegalArgumentException"
  | 2 => "java/lang/IllegalStateException"
  | 3 => "java/lang/UnsupportedOperationException"
  | _ => "java/util/NoSuchElementException"
/-- which method doOn is, by the entry's class -/
def vdo : Nat → Nat
  | 2 => 12
  | 3 => 14
  | 5 => 45
  | 8 => 74
  | 9 => 76
  | _ => 78
def hnd : List (Nat × Nat × Nat × Nat × String) → Nat → String → Option Nat
  | [], _, _ => none
  | (a, b, p, _, E') :: l, pc, E => if a ≤ pc ∧ pc < b ∧ E' = E then some p else hnd l pc E
def nsg (x y : Nat) : Int32 := if y = 0 then nI x else - nI x
def nsl (x y : Nat) : Int64 := if y = 0 then lN x else - lN x
def cnd : ClassFile.Cond → Int32 → Int32 → Prop
  | .eq, a, b => a = b
  | .ne, a, b => ¬ a = b
  | .lt, a, b => a < b
  | .ge, a, b => b ≤ a
  | .gt, a, b => b < a
  | .le, a, b => a ≤ b
/-- where a tableswitch goes on -/
def tsw (pc : Nat) (df lo hi : Int) (os : Array Int) (a : Int32) : Nat := if a.toInt < lo ∨ hi < a.toInt then ((pc : Int) + df).toNat else ((pc : Int) + (os[(a.toInt - lo).toNat]?).getD 0).toNat
/-- behind a call: an answer, or an exception that is caught here or goes on -/
def aft (r : MI) (Q : QT) (X : AST) (pc n : Nat) (L : LV) (rest : List Value) (nc ns : Nat) (o : RS) (h : AH) (sz : Nat) : Prop :=
  match o with
  | .ok none => X n L rest h sz nc ns
  | .ok (some v) => X n L (v :: rest) h sz nc ns
  | .error E => match hnd (mH r) pc E with
    | none => mH r = [] ∧ Q (.error E) h sz
    | some p => ∀ q : Nat, X p L [.ref q] h sz nc ns
/-- a call of the method cm, what it asks and what follows -/
def cal (mcs : Nat → Nat × Nat) (call : CT) (r : MI) (Q : QT) (X : AST) (cm : Nat) (as : List Value) (pc n : Nat) (L : LV) (rest : List Value) (h : AH) (sz nc ns : Nat) : Prop :=
  catS rest ≤ 8 ∧ nc + (mcs cm).1 ≤ mC r ∧ ns + (mcs cm).2 ≤ mS r ∧ ∃ Qc : QT, call cm as h sz Qc ∧ ∀ o h' sz', Qc o h' sz' → aft r Q X pc n L rest (nc + (mcs cm).1) (ns + (mcs cm).2) o h' sz'
def stl (x : Nat) (v : Value) (L : LV) : LV := sl (cond (c2 L x) (sl L (x - 1) none) L) x (some v)
def stl2 (x : Nat) (v : Value) (L : LV) : LV := sl (stl x v L) (x + 1) none
def nf : List Value → Nat → Value
  | [], _ => .null
  | v :: _, 0 => v
  | _ :: l, k + 1 => nf l k
def pf : List Value → Nat → Value → List Value
  | [], _, _ => []
  | _ :: l, 0, v => v :: l
  | w :: l, k + 1, v => w :: pf l k v
def lnb : List Value → Nat → Bool
  | [], _ => false
  | _ :: _, 0 => true
  | _ :: l, k + 1 => lnb l k
/-- a value for a field or an answer: 0 int, 1 boolean, 2 char, 3 a reference, 4 long -/
def vok : Nat → Value → Prop
  | 0, .int _ => True
  | 1, .int v => v = 0 ∨ v = 1
  | 2, .int v => 0 ≤ v ∧ v ≤ 65535
  | 3, .ref _ => True
  | 3, .null => True
  | 4, .long _ => True
  | _, _ => False
/-- the upper k values of a stack, the first argument first, and the rest -/
def tk : Nat → List Value → List Value → Option (List Value × List Value)
  | 0, a, S => some (a, S)
  | _ + 1, _, [] => none
  | k + 1, a, v :: S => tk k (v :: a) S
abbrev refA (f : Nat → Option Nat) : (Nat → Int32) ⊕ (Nat → Int64) ⊕ (Nat → UInt32) ⊕ (Nat → UInt64) ⊕ (Nat → Option Nat) := .inr (.inr (.inr (.inr f)))
/-- ONE INSTRUCTION: what must hold here so that all goes well from here on, X being what must hold at the next -/
def stI (E : EX) (mcs : Nat → Nat × Nat) (call : CT) (d : Nat) (r : MI) (Q : QT) (X : AST) (i : Instr) (n x y pc : Nat) (L : LV) (S : List Value) (h : AH) (sz nc ns : Nat) : Prop :=
  match i with
  | .aconst_null => X n L (.null :: S) h sz nc ns
  | .aload _ => match gl L x with
    | some (.ref a) => X n L (.ref a :: S) h sz nc ns
    | some .null => X n L (.null :: S) h sz nc ns
    | _ => False
  | .aload_n _ => match gl L x with
    | some (.ref a) => X n L (.ref a :: S) h sz nc ns
    | some .null => X n L (.null :: S) h sz nc ns
    | _ => False
  | .iload _ => match gl L x with | some (.int v) => X n L (.int v :: S) h sz nc ns | _ => False
  | .iload_n _ => match gl L x with | some (.int v) => X n L (.int v :: S) h sz nc ns | _ => False
  | .lload _ => match gl L x with | some (.long v) => X n L (.long v :: S) h sz nc ns | _ => False
  | .lload_n _ => match gl L x with | some (.long v) => X n L (.long v :: S) h sz nc ns | _ => False
  | .fload _ => match gl L x with | some (.float v) => X n L (.float v :: S) h sz nc ns | _ => False
  | .fload_n _ => match gl L x with | some (.float v) => X n L (.float v :: S) h sz nc ns | _ => False
  | .dload _ => match gl L x with | some (.double v) => X n L (.double v :: S) h sz nc ns | _ => False
  | .dload_n _ => match gl L x with | some (.double v) => X n L (.double v :: S) h sz nc ns | _ => False
  | .astore _ => match S with
    | .ref a :: S' => X n (stl x (.ref a) L) S' h sz nc ns
    | .null :: S' => X n (stl x .null L) S' h sz nc ns
    | _ => False
  | .astore_n _ => match S with
    | .ref a :: S' => X n (stl x (.ref a) L) S' h sz nc ns
    | .null :: S' => X n (stl x .null L) S' h sz nc ns
    | _ => False
  | .istore _ => match S with | .int v :: S' => X n (stl x (.int v) L) S' h sz nc ns | _ => False
  | .istore_n _ => match S with | .int v :: S' => X n (stl x (.int v) L) S' h sz nc ns | _ => False
  | .lstore _ => match S with | .long v :: S' => X n (stl2 x (.long v) L) S' h sz nc ns | _ => False
  | .lstore_n _ => match S with | .long v :: S' => X n (stl2 x (.long v) L) S' h sz nc ns | _ => False
  | .fstore _ => match S with | .float v :: S' => X n (stl x (.float v) L) S' h sz nc ns | _ => False
  | .fstore_n _ => match S with | .float v :: S' => X n (stl x (.float v) L) S' h sz nc ns | _ => False
  | .dstore _ => match S with | .double v :: S' => X n (stl2 x (.double v) L) S' h sz nc ns | _ => False
  | .dstore_n _ => match S with | .double v :: S' => X n (stl2 x (.double v) L) S' h sz nc ns | _ => False
  | .iinc _ _ => match gl L x with | some (.int v) => X n (stl x (.int (v + nsg (y / 2) (y % 2))) L) S h sz nc ns | _ => False
  | .iconst _ => X n L (.int (nsg x y) :: S) h sz nc ns
  | .bipush _ => X n L (.int (nsg x y) :: S) h sz nc ns
  | .sipush _ => X n L (.int (nsg x y) :: S) h sz nc ns
  | .lconst _ => X n L (.long (lN x) :: S) h sz nc ns
  | .fconst _ => X n L (.float FP.fconst0 :: S) h sz nc ns
  | .ldc _ => if y = 1 then X n L (.ref E.2.2 :: S) h sz nc ns else X n L (.int (nI x) :: S) h sz nc ns
  | .ldc_w _ => X n L (.int (nI x) :: S) h sz nc ns
  | .ldc2_w _ => if y = 0 then X n L (.long (lN x) :: S) h sz nc ns else X n L (.double (UInt64.ofNat x) :: S) h sz nc ns
  | .dup => match S with | v :: S' => isw (some v) = false ∧ X n L (v :: v :: S') h sz nc ns | _ => False
  | .pop => match S with | v :: S' => isw (some v) = false ∧ X n L S' h sz nc ns | _ => False
  | .dup_x1 => match S with | v :: w :: S' => isw (some v) = false ∧ isw (some w) = false ∧ X n L (v :: w :: v :: S') h sz nc ns | _ => False
  | .dup2 => match S with | v :: w :: S' => isw (some v) = false ∧ isw (some w) = false ∧ X n L (v :: w :: v :: w :: S') h sz nc ns | _ => False
  | .iadd => match S with | .int b :: .int a :: S' => X n L (.int (a + b) :: S') h sz nc ns | _ => False
  | .isub => match S with | .int b :: .int a :: S' => X n L (.int (a - b) :: S') h sz nc ns | _ => False
  | .imul => match S with | .int b :: .int a :: S' => X n L (.int (a * b) :: S') h sz nc ns | _ => False
  | .idiv => match S with | .int b :: .int a :: S' => ¬ b = 0 ∧ X n L (.int (a / b) :: S') h sz nc ns | _ => False
  | .irem => match S with | .int b :: .int a :: S' => ¬ b = 0 ∧ X n L (.int (a - a / b * b) :: S') h sz nc ns | _ => False
  | .ineg => match S with | .int a :: S' => X n L (.int (-a) :: S') h sz nc ns | _ => False
  | .ishl => match S with | .int b :: .int a :: S' => X n L (.int (a <<< (b &&& 31)) :: S') h sz nc ns | _ => False
  | .ishr => match S with | .int b :: .int a :: S' => X n L (.int (a >>> (b &&& 31)) :: S') h sz nc ns | _ => False
  | .iushr => match S with | .int b :: .int a :: S' => X n L (.int (a.toUInt32 >>> (b.toUInt32 &&& Int32.toUInt32 31)).toInt32 :: S') h sz nc ns | _ => False
  | .iand => match S with | .int b :: .int a :: S' => X n L (.int (a &&& b) :: S') h sz nc ns | _ => False
  | .ior => match S with | .int b :: .int a :: S' => X n L (.int (a ||| b) :: S') h sz nc ns | _ => False
  | .ixor => match S with | .int b :: .int a :: S' => X n L (.int (a ^^^ b) :: S') h sz nc ns | _ => False
  | .ladd => match S with | .long b :: .long a :: S' => X n L (.long (a + b) :: S') h sz nc ns | _ => False
  | .lmul => match S with | .long b :: .long a :: S' => X n L (.long (a * b) :: S') h sz nc ns | _ => False
  | .ldiv => match S with | .long b :: .long a :: S' => ¬ b = 0 ∧ X n L (.long (a / b) :: S') h sz nc ns | _ => False
  | .lrem => match S with | .long b :: .long a :: S' => ¬ b = 0 ∧ X n L (.long (a - a / b * b) :: S') h sz nc ns | _ => False
  | .lcmp => match S with | .long b :: .long a :: S' => X n L (.int (lg_cmp a b) :: S') h sz nc ns | _ => False
  | .i2l => match S with | .int a :: S' => X n L (.long a.toInt64 :: S') h sz nc ns | _ => False
  | .l2i => match S with | .long a :: S' => X n L (.int a.toInt32 :: S') h sz nc ns | _ => False
  | .i2c => match S with | .int a :: S' => X n L (.int (a.toUInt32 % 65536).toInt32 :: S') h sz nc ns | _ => False
  | .i2f => match S with | .int a :: S' => X n L (.float (FP.i2f a) :: S') h sz nc ns | _ => False
  | .i2d => match S with | .int a :: S' => X n L (.double (FP.i2d a) :: S') h sz nc ns | _ => False
  | .f2d => match S with | .float a :: S' => vf_n64 (FP.f2d a) ∧ X n L (.double (FP.f2d a) :: S') h sz nc ns | _ => False
  | .fdiv => match S with | .float b :: .float a :: S' => vf_n32 (FP.fdiv a b) ∧ X n L (.float (FP.fdiv a b) :: S') h sz nc ns | _ => False
  | .ddiv => match S with | .double b :: .double a :: S' => vf_n64 (FP.ddiv a b) ∧ X n L (.double (FP.ddiv a b) :: S') h sz nc ns | _ => False
  | .fcmp op => match S with | .float b :: .float a :: S' => X n L (.int (Op.cmpValue (FP.fcmp a b) op) :: S') h sz nc ns | _ => False
  | .dcmp op => match S with | .double b :: .double a :: S' => X n L (.int (Op.cmpValue (FP.dcmp a b) op) :: S') h sz nc ns | _ => False
  | .goto _ => X y L S h sz nc ns
  | .ifCond c _ => match S with | .int a :: S' => (cnd c a 0 → X y L S' h sz nc ns) ∧ (¬ cnd c a 0 → X n L S' h sz nc ns) | _ => False
  | .if_icmp c _ => match S with | .int b :: .int a :: S' => (cnd c a b → X y L S' h sz nc ns) ∧ (¬ cnd c a b → X n L S' h sz nc ns) | _ => False
  | .if_acmp c _ => match S with
    | .ref b :: .ref a :: S' => match c with
      | .eq => (a = b → X y L S' h sz nc ns) ∧ (¬ a = b → X n L S' h sz nc ns)
      | .ne => (¬ a = b → X y L S' h sz nc ns) ∧ (a = b → X n L S' h sz nc ns)
    | _ => False
  | .ifnull _ => match S with | .ref _ :: S' => X n L S' h sz nc ns | .null :: S' => X y L S' h sz nc ns | _ => False
  | .ifnonnull _ => match S with | .ref _ :: S' => X y L S' h sz nc ns | .null :: S' => X n L S' h sz nc ns | _ => False
  | .tableswitch df lo hi os => match S with | .int a :: S' => X (tsw pc df lo hi os a) L S' h sz nc ns | _ => False
  | .getfield _ => match S with
    | .ref a :: S' => match h a with
      | some (.inr (ci, fs)) => subc x ci = true ∧ X n L (nf fs y :: S') h sz nc ns
      | _ => False
    | _ => False
  | .putfield _ => match S with
    | v :: .ref a :: S' => match h a with
      | some (.inr (ci, fs)) => subc x ci = true ∧ lnb fs (y % 64) = true ∧ vok (y / 64) v ∧ X n L S' (hup h a (.inr (ci, pf fs (y % 64) v))) sz nc ns
      | _ => False
    | _ => False
  | .getstatic _ => X n L (.ref E.2.1 :: S) h sz nc ns
  | .new _ => if 900 ≤ x then 6 ≤ d ∧ catS S ≤ 8 ∧ nc + 1 ≤ mC r ∧ ns + 6 ≤ mS r ∧ ∀ sz', sz ≤ sz' → Q (.error (exn (x - 900))) h sz'
    else nc + 1 ≤ mC r ∧ ns + y ≤ mS r ∧ X n L (.ref sz :: S) (hup h sz (.inr (x, dfl x))) (sz + 1) (nc + 1) (ns + y)
  | .newarray _ => match S with
    | .int v :: S' => ¬ v < 0 ∧ v.toNatClampNeg ≤ 4096 ∧ nc + 1 ≤ mC r ∧ ns + v.toNatClampNeg ≤ mS r ∧ X n L (.ref sz :: S') (hup h sz (.inl (x, dfa x v.toNatClampNeg))) (sz + 1) (nc + 1) (ns + v.toNatClampNeg)
    | _ => False
  | .anewarray _ => match S with
    | .int v :: S' => ¬ v < 0 ∧ v.toNatClampNeg ≤ 4096 ∧ nc + 1 ≤ mC r ∧ ns + v.toNatClampNeg ≤ mS r ∧ X n L (.ref sz :: S') (hup h sz (.inl (x, dfa x v.toNatClampNeg))) (sz + 1) (nc + 1) (ns + v.toNatClampNeg)
    | _ => False
  | .arraylength => match S with
    | .ref a :: S' => match h a with
      | some (.inl (_, m, _)) => X n L (.int (nI m) :: S') h sz nc ns
      | some (.inr _) => False
      | none => (a = E.2.1 ∧ X n L (.int (nI 0) :: S') h sz nc ns) ∨ (a = E.1.1 ∧ X n L (.int (nI E.1.2.1) :: S') h sz nc ns)
    | _ => False
  | .iaload => match S with
    | .int j :: .ref a :: S' => match h a with
      | some (.inl (k, m, .inl f)) => k = 0 ∧ vp_in j m ∧ X n L (.int (f j.toNatClampNeg) :: S') h sz nc ns
      | some (.inl (_, _, .inr _)) => False
      | some (.inr _) => False
      | none => a = E.1.1 ∧ vp_in j E.1.2.1 ∧ X n L (.int (E.1.2.2 j.toNatClampNeg) :: S') h sz nc ns
    | _ => False
  | .baload => match S with
    | .int j :: .ref a :: S' => match h a with
      | some (.inl (k, m, .inl f)) => k = 1 ∧ vp_in j m ∧ X n L (.int (f j.toNatClampNeg) :: S') h sz nc ns
      | _ => False
    | _ => False
  | .laload => match S with
    | .int j :: .ref a :: S' => match h a with
      | some (.inl (k, m, .inr (.inl f))) => k = 4 ∧ vp_in j m ∧ X n L (.long (f j.toNatClampNeg) :: S') h sz nc ns
      | _ => False
    | _ => False
  | .daload => match S with
    | .int j :: .ref a :: S' => match h a with
      | some (.inl (k, m, .inr (.inr (.inr (.inl f))))) => k = 5 ∧ vp_in j m ∧ X n L (.double (f j.toNatClampNeg) :: S') h sz nc ns
      | _ => False
    | _ => False
  | .aaload => match S with
    | .int j :: .ref a :: S' => match h a with
      | some (.inl (k, m, .inr (.inr (.inr (.inr f))))) => (k = 2 ∨ k = 3) ∧ vp_in j m ∧ X n L (va_rf (f j.toNatClampNeg) :: S') h sz nc ns
      | _ => False
    | _ => False
  | .iastore => match S with
    | .int v :: .int j :: .ref a :: S' => match h a with
      | some (.inl (k, m, .inl f)) => k = 0 ∧ vp_in j m ∧ X n L S' (hup h a (.inl (0, m, .inl (upd f j.toNatClampNeg v)))) sz nc ns
      | _ => False
    | _ => False
  | .bastore => match S with
    | .int v :: .int j :: .ref a :: S' => match h a with
      | some (.inl (k, m, .inl f)) => k = 1 ∧ vp_in j m ∧ X n L S' (hup h a (.inl (1, m, .inl (upd f j.toNatClampNeg (vp_nar .boolean v))))) sz nc ns
      | _ => False
    | _ => False
  | .lastore => match S with
    | .long v :: .int j :: .ref a :: S' => match h a with
      | some (.inl (k, m, .inr (.inl f))) => k = 4 ∧ vp_in j m ∧ X n L S' (hup h a (.inl (4, m, .inr (.inl (vp_updL f j.toNatClampNeg v))))) sz nc ns
      | _ => False
    | _ => False
  | .dastore => match S with
    | .double v :: .int j :: .ref a :: S' => match h a with
      | some (.inl (k, m, .inr (.inr (.inr (.inl f))))) => k = 5 ∧ vp_in j m ∧ X n L S' (hup h a (.inl (5, m, .inr (.inr (.inr (.inl (vf_upd f j.toNatClampNeg v))))))) sz nc ns
      | _ => False
    | _ => False
  | .aastore => match S with
    | .ref w :: .int j :: .ref a :: S' => match h a with
      | some (.inl (k, m, .inr (.inr (.inr (.inr f))))) => match h w with
        | some (.inr (ci, _)) => ((k = 2 ∧ ci = 4) ∨ (k = 3 ∧ ci < 13)) ∧ vp_in j m ∧ X n L S' (hup h a (.inl (k, m, refA (va_up f j.toNatClampNeg (some w))))) sz nc ns
        | _ => False
      | _ => False
    | .null :: .int j :: .ref a :: S' => match h a with
      | some (.inl (k, m, .inr (.inr (.inr (.inr f))))) => (k = 2 ∨ k = 3) ∧ vp_in j m ∧ X n L S' (hup h a (.inl (k, m, refA (va_up f j.toNatClampNeg none)))) sz nc ns
      | _ => False
    | _ => False
  | .checkcast _ => match S with
    | .ref a :: S' => match h a with
      | some (.inr (ci, _)) => subc x ci = true ∧ X n L (.ref a :: S') h sz nc ns
      | _ => False
    | _ => False
  | .invokestatic _ => if x = 1000 then (match S with
      | .int nn :: .int dp :: .ref b :: .int sp :: .ref a :: S' => match h a with
        | some (.inl (k0, m0, .inl f)) => match h b with
          | some (.inl (k1, m1, .inl g)) => k0 = 0 ∧ k1 = 0 ∧ ¬ sp < 0 ∧ ¬ dp < 0 ∧ ¬ nn < 0 ∧ sp.toNatClampNeg + nn.toNatClampNeg ≤ m0 ∧ dp.toNatClampNeg + nn.toNatClampNeg ≤ m1 ∧ catS S' ≤ 8 ∧ 1 ≤ d ∧
            X n L S' (hup h b (.inl (0, m1, .inl (va_cpy f g sp.toNatClampNeg dp.toNatClampNeg nn.toNatClampNeg)))) sz nc ns
          | _ => False
        | _ => False
      | _ => False)
    else if x = 1001 then (match S with
      | .int nn :: .int dp :: .ref b :: .int sp :: .ref a :: S' => match h a with
        | some (.inl (k0, m0, .inr (.inr (.inr (.inr f))))) => match h b with
          | some (.inl (k1, m1, .inr (.inr (.inr (.inr g))))) => k0 = 3 ∧ k1 = 3 ∧ ¬ sp < 0 ∧ ¬ dp < 0 ∧ ¬ nn < 0 ∧ sp.toNatClampNeg + nn.toNatClampNeg ≤ m0 ∧ dp.toNatClampNeg + nn.toNatClampNeg ≤ m1 ∧
            (∀ j, j < nn.toNatClampNeg → ∀ w, f (sp.toNatClampNeg + j) = some w → ∃ ci fs, h w = some (.inr (ci, fs)) ∧ ci < 13) ∧ catS S' ≤ 8 ∧ 1 ≤ d ∧
            X n L S' (hup h b (.inl (3, m1, refA (va_cpy f g sp.toNatClampNeg dp.toNatClampNeg nn.toNatClampNeg)))) sz nc ns
          | _ => False
        | _ => False
      | _ => False)
    else if x = 1004 then (match S with
      | .int b :: .int a :: S' => catS S' ≤ 8 ∧ 1 ≤ d ∧ X n L (.int (if b < a then b else a) :: S') h sz nc ns
      | _ => False)
    else if x = 1005 then (match S with
      | .int b :: .int a :: S' => catS S' ≤ 8 ∧ 1 ≤ d ∧ X n L (.int (if a < b then b else a) :: S') h sz nc ns
      | _ => False)
    else match tk y [] S with
      | some (as, rest) => cal mcs call r Q X x as pc n L rest h sz nc ns
      | none => False
  | .invokevirtual _ => if x = 1003 then (match S with
      | .ref a :: S' => match h a with
        | some (.inl (k, _)) => k = 3 ∧ catS S' ≤ 8 ∧ 1 ≤ d ∧ X n L (.ref E.2.2 :: S') h sz nc ns
        | _ => False
      | _ => False)
    else match tk (y % 16) [] S with
    | some (as, .ref b :: rest) => match h b with
      | some (.inr (ci, _)) => if x = 500 then subc 50 ci = true ∧ cal mcs call r Q X (vdo ci) (.ref b :: as) pc n L rest h sz nc ns
        else ci = y / 16 ∧ cal mcs call r Q X x (.ref b :: as) pc n L rest h sz nc ns
      | _ => False
    | _ => False
  | .invokespecial _ => if x = 0 then (match S with
      | .ref _ :: S' => catS S' ≤ 8 ∧ 1 ≤ d ∧ X n L S' h sz nc ns
      | _ => False)
    else match tk y [] S with
    | some (as, .ref b :: rest) => cal mcs call r Q X x (.ref b :: as) pc n L rest h sz nc ns
    | _ => False
  | .ireturn => match S with | [.int v] => vok y (.int v) ∧ Q (.ok (some (.int v))) h sz | _ => False
  | .lreturn => match S with | [.long v] => Q (.ok (some (.long v))) h sz | _ => False
  | .freturn => match S with | [.float v] => Q (.ok (some (.float v))) h sz | _ => False
  | .dreturn => match S with | [.double v] => Q (.ok (some (.double v))) h sz | _ => False
  | .areturn => match S with | [.ref a] => Q (.ok (some (.ref a))) h sz | [.null] => Q (.ok (some .null)) h sz | _ => False
  | .return_ => match S with | [] => Q (.ok none) h sz | _ => False
  | _ => False
/-- is it a call? -/
def isc : Instr → Bool
  | .invokestatic _ => true
  | .invokevirtual _ => true
  | .invokespecial _ => true
  | _ => false
noncomputable def stp (E : EX) (mcs : Nat → Nat × Nat) (call : CT) (d : Nat) (r : MI) (Q : QT) (X : AST) : AST := fun pc L S h sz nc ns =>
  match lkp pc (mI r) with
  | none => False
  | some (_, i, n, x, y) => stI E mcs call d r Q X i n x y pc L S h sz nc ns
/-- fewer known locals -/
def wkl (L' L : LV) : Prop := ∀ i v, gl L' i = some v → gl L i = some v
/-- the least that holds wherever one more instruction leads to it -/
noncomputable def Rr (E : EX) (mcs : Nat → Nat × Nat) (call : CT) (d : Nat) (r : MI) (Q : QT) : AST := fun pc L S h sz nc ns =>
  ∀ X : AST, (∀ pc L S h sz nc ns (Y : AST), (∀ pc L S h sz nc ns, Y pc L S h sz nc ns → X pc L S h sz nc ns) → stp E mcs call d r Q Y pc L S h sz nc ns → X pc L S h sz nc ns) →
    (∀ pc L L' S h sz nc ns, wkl L' L → X pc L' S h sz nc ns → X pc L S h sz nc ns) → X pc L S h sz nc ns
def ent (n : Nat) (as : List Value) : LV := (lv_args 0 as).foldl (fun L q => sl L q.1 (some q.2)) (List.replicate n none)
def mcsT (T : List MI) (m : Nat) : Nat × Nat := match T[m]? with
  | some r => (mC r, mS r)
  | none => (0, 0)
/-- A METHOD'S CONTRACT: called m with as at the heap h of sz cells, under at most d frames, it ends as Q says -/
noncomputable def SpT (T : List MI) (E : EX) : Nat → CT
  | 0 => fun _ _ _ _ _ => False
  | d + 1 => fun m as h sz Q => ∃ r, T[m]? = some r ∧ (lg_sl as).length ≤ mL r ∧ Rr E (mcsT T) (SpT T E d) d r Q 0 (ent (mL r) as) [] h sz 0 0
theorem R_intro {E : EX} {mcs : Nat → Nat × Nat} {call : CT} {d : Nat} {r : MI} {Q : QT} {pc : Nat} {L : LV} {S : List Value} {h : AH} {sz nc ns : Nat} (k : stp E mcs call d r Q (Rr E mcs call d r Q) pc L S h sz nc ns) : Rr E mcs call d r Q pc L S h sz nc ns :=
  fun X hX hw => hX pc L S h sz nc ns _ (fun _ _ _ _ _ _ _ hY => hY X hX hw) k
theorem R_forget {E : EX} {mcs : Nat → Nat × Nat} {call : CT} {d : Nat} {r : MI} {Q : QT} {pc : Nat} {L L' : LV} {S : List Value} {h : AH} {sz nc ns : Nat} (hw : wkl L' L) (k : Rr E mcs call d r Q pc L' S h sz nc ns) : Rr E mcs call d r Q pc L S h sz nc ns :=
  fun X hX hwk => hwk pc L L' S h sz nc ns hw (k X hX hwk)
/-- k instructions, up to the next loop's head or call -/
noncomputable def run (E : EX) (mcs : Nat → Nat × Nat) (call : CT) (d : Nat) (r : MI) (Q : QT) (X : AST) : Nat → AST
  | 0 => X
  | k + 1 => fun pc L S h sz nc ns => match lkp pc (mI r) with
    | none => False
    | some (b, i, n, x, y) => cond (b || isc i) (X pc L S h sz nc ns) (stI E mcs call d r Q (run E mcs call d r Q X k) i n x y pc L S h sz nc ns)
