/-! ===== the interpreter: an instruction's row, to rewrite with ===== -/
theorem sI_aconst_null {E : EX} {mcs : Nat → Nat × Nat} {call : CT} {d : Nat} {r : MI} {Q : QT} {X : AST} {n x y pc : Nat} {L : LV} {S : List Value} {h : AH} {sz nc ns : Nat}  : stI E mcs call d r Q X (Instr.aconst_null) n x y pc L S h sz nc ns = (X n L (.null :: S) h sz nc ns) := rfl
theorem sI_aload {E : EX} {mcs : Nat → Nat × Nat} {call : CT} {d : Nat} {r : MI} {Q : QT} {X : AST} {n x y pc : Nat} {L : LV} {S : List Value} {h : AH} {sz nc ns : Nat} : ∀ q0, stI E mcs call d r Q X (Instr.aload q0) n x y pc L S h sz nc ns = (match gl L x with
    | some (.ref a) => X n L (.ref a :: S) h sz nc ns
    | some .null => X n L (.null :: S) h sz nc ns
    | _ => False) := fun _ => rfl
theorem sI_aload_n {E : EX} {mcs : Nat → Nat × Nat} {call : CT} {d : Nat} {r : MI} {Q : QT} {X : AST} {n x y pc : Nat} {L : LV} {S : List Value} {h : AH} {sz nc ns : Nat} : ∀ q0, stI E mcs call d r Q X (Instr.aload_n q0) n x y pc L S h sz nc ns = (match gl L x with
    | some (.ref a) => X n L (.ref a :: S) h sz nc ns
    | some .null => X n L (.null :: S) h sz nc ns
    | _ => False) := fun _ => rfl
theorem sI_iload {E : EX} {mcs : Nat → Nat × Nat} {call : CT} {d : Nat} {r : MI} {Q : QT} {X : AST} {n x y pc : Nat} {L : LV} {S : List Value} {h : AH} {sz nc ns : Nat} : ∀ q0, stI E mcs call d r Q X (Instr.iload q0) n x y pc L S h sz nc ns = (match gl L x with | some (.int v) => X n L (.int v :: S) h sz nc ns | _ => False) := fun _ => rfl
theorem sI_iload_n {E : EX} {mcs : Nat → Nat × Nat} {call : CT} {d : Nat} {r : MI} {Q : QT} {X : AST} {n x y pc : Nat} {L : LV} {S : List Value} {h : AH} {sz nc ns : Nat} : ∀ q0, stI E mcs call d r Q X (Instr.iload_n q0) n x y pc L S h sz nc ns = (match gl L x with | some (.int v) => X n L (.int v :: S) h sz nc ns | _ => False) := fun _ => rfl
theorem sI_lload {E : EX} {mcs : Nat → Nat × Nat} {call : CT} {d : Nat} {r : MI} {Q : QT} {X : AST} {n x y pc : Nat} {L : LV} {S : List Value} {h : AH} {sz nc ns : Nat} : ∀ q0, stI E mcs call d r Q X (Instr.lload q0) n x y pc L S h sz nc ns = (match gl L x with | some (.long v) => X n L (.long v :: S) h sz nc ns | _ => False) := fun _ => rfl
theorem sI_lload_n {E : EX} {mcs : Nat → Nat × Nat} {call : CT} {d : Nat} {r : MI} {Q : QT} {X : AST} {n x y pc : Nat} {L : LV} {S : List Value} {h : AH} {sz nc ns : Nat} : ∀ q0, stI E mcs call d r Q X (Instr.lload_n q0) n x y pc L S h sz nc ns = (match gl L x with | some (.long v) => X n L (.long v :: S) h sz nc ns | _ => False) := fun _ => rfl
theorem sI_fload {E : EX} {mcs : Nat → Nat × Nat} {call : CT} {d : Nat} {r : MI} {Q : QT} {X : AST} {n x y pc : Nat} {L : LV} {S : List Value} {h : AH} {sz nc ns : Nat} : ∀ q0, stI E mcs call d r Q X (Instr.fload q0) n x y pc L S h sz nc ns = (match gl L x with | some (.float v) => X n L (.float v :: S) h sz nc ns | _ => False) := fun _ => rfl
theorem sI_fload_n {E : EX} {mcs : Nat → Nat × Nat} {call : CT} {d : Nat} {r : MI} {Q : QT} {X : AST} {n x y pc : Nat} {L : LV} {S : List Value} {h : AH} {sz nc ns : Nat} : ∀ q0, stI E mcs call d r Q X (Instr.fload_n q0) n x y pc L S h sz nc ns = (match gl L x with | some (.float v) => X n L (.float v :: S) h sz nc ns | _ => False) := fun _ => rfl
theorem sI_dload {E : EX} {mcs : Nat → Nat × Nat} {call : CT} {d : Nat} {r : MI} {Q : QT} {X : AST} {n x y pc : Nat} {L : LV} {S : List Value} {h : AH} {sz nc ns : Nat} : ∀ q0, stI E mcs call d r Q X (Instr.dload q0) n x y pc L S h sz nc ns = (match gl L x with | some (.double v) => X n L (.double v :: S) h sz nc ns | _ => False) := fun _ => rfl
theorem sI_dload_n {E : EX} {mcs : Nat → Nat × Nat} {call : CT} {d : Nat} {r : MI} {Q : QT} {X : AST} {n x y pc : Nat} {L : LV} {S : List Value} {h : AH} {sz nc ns : Nat} : ∀ q0, stI E mcs call d r Q X (Instr.dload_n q0) n x y pc L S h sz nc ns = (match gl L x with | some (.double v) => X n L (.double v :: S) h sz nc ns | _ => False) := fun _ => rfl
theorem sI_astore {E : EX} {mcs : Nat → Nat × Nat} {call : CT} {d : Nat} {r : MI} {Q : QT} {X : AST} {n x y pc : Nat} {L : LV} {S : List Value} {h : AH} {sz nc ns : Nat} : ∀ q0, stI E mcs call d r Q X (Instr.astore q0) n x y pc L S h sz nc ns = (match S with
    | .ref a :: S' => X n (stl x (.ref a) L) S' h sz nc ns
    | .null :: S' => X n (stl x .null L) S' h sz nc ns
    | _ => False) := fun _ => rfl
theorem sI_astore_n {E : EX} {mcs : Nat → Nat × Nat} {call : CT} {d : Nat} {r : MI} {Q : QT} {X : AST} {n x y pc : Nat} {L : LV} {S : List Value} {h : AH} {sz nc ns : Nat} : ∀ q0, stI E mcs call d r Q X (Instr.astore_n q0) n x y pc L S h sz nc ns = (match S with
    | .ref a :: S' => X n (stl x (.ref a) L) S' h sz nc ns
    | .null :: S' => X n (stl x .null L) S' h sz nc ns
    | _ => False) := fun _ => rfl
theorem sI_istore {E : EX} {mcs : Nat → Nat × Nat} {call : CT} {d : Nat} {r : MI} {Q : QT} {X : AST} {n x y pc : Nat} {L : LV} {S : List Value} {h : AH} {sz nc ns : Nat} : ∀ q0, stI E mcs call d r Q X (Instr.istore q0) n x y pc L S h sz nc ns = (match S with | .int v :: S' => X n (stl x (.int v) L) S' h sz nc ns | _ => False) := fun _ => rfl
theorem sI_istore_n {E : EX} {mcs : Nat → Nat × Nat} {call : CT} {d : Nat} {r : MI} {Q : QT} {X : AST} {n x y pc : Nat} {L : LV} {S : List Value} {h : AH} {sz nc ns : Nat} : ∀ q0, stI E mcs call d r Q X (Instr.istore_n q0) n x y pc L S h sz nc ns = (match S with | .int v :: S' => X n (stl x (.int v) L) S' h sz nc ns | _ => False) := fun _ => rfl
theorem sI_lstore {E : EX} {mcs : Nat → Nat × Nat} {call : CT} {d : Nat} {r : MI} {Q : QT} {X : AST} {n x y pc : Nat} {L : LV} {S : List Value} {h : AH} {sz nc ns : Nat} : ∀ q0, stI E mcs call d r Q X (Instr.lstore q0) n x y pc L S h sz nc ns = (match S with | .long v :: S' => X n (stl2 x (.long v) L) S' h sz nc ns | _ => False) := fun _ => rfl
theorem sI_lstore_n {E : EX} {mcs : Nat → Nat × Nat} {call : CT} {d : Nat} {r : MI} {Q : QT} {X : AST} {n x y pc : Nat} {L : LV} {S : List Value} {h : AH} {sz nc ns : Nat} : ∀ q0, stI E mcs call d r Q X (Instr.lstore_n q0) n x y pc L S h sz nc ns = (match S with | .long v :: S' => X n (stl2 x (.long v) L) S' h sz nc ns | _ => False) := fun _ => rfl
theorem sI_fstore {E : EX} {mcs : Nat → Nat × Nat} {call : CT} {d : Nat} {r : MI} {Q : QT} {X : AST} {n x y pc : Nat} {L : LV} {S : List Value} {h : AH} {sz nc ns : Nat} : ∀ q0, stI E mcs call d r Q X (Instr.fstore q0) n x y pc L S h sz nc ns = (match S with | .float v :: S' => X n (stl x (.float v) L) S' h sz nc ns | _ => False) := fun _ => rfl
theorem sI_fstore_n {E : EX} {mcs : Nat → Nat × Nat} {call : CT} {d : Nat} {r : MI} {Q : QT} {X : AST} {n x y pc : Nat} {L : LV} {S : List Value} {h : AH} {sz nc ns : Nat} : ∀ q0, stI E mcs call d r Q X (Instr.fstore_n q0) n x y pc L S h sz nc ns = (match S with | .float v :: S' => X n (stl x (.float v) L) S' h sz nc ns | _ => False) := fun _ => rfl
theorem sI_dstore {E : EX} {mcs : Nat → Nat × Nat} {call : CT} {d : Nat} {r : MI} {Q : QT} {X : AST} {n x y pc : Nat} {L : LV} {S : List Value} {h : AH} {sz nc ns : Nat} : ∀ q0, stI E mcs call d r Q X (Instr.dstore q0) n x y pc L S h sz nc ns = (match S with | .double v :: S' => X n (stl2 x (.double v) L) S' h sz nc ns | _ => False) := fun _ => rfl
theorem sI_dstore_n {E : EX} {mcs : Nat → Nat × Nat} {call : CT} {d : Nat} {r : MI} {Q : QT} {X : AST} {n x y pc : Nat} {L : LV} {S : List Value} {h : AH} {sz nc ns : Nat} : ∀ q0, stI E mcs call d r Q X (Instr.dstore_n q0) n x y pc L S h sz nc ns = (match S with | .double v :: S' => X n (stl2 x (.double v) L) S' h sz nc ns | _ => False) := fun _ => rfl
theorem sI_iinc {E : EX} {mcs : Nat → Nat × Nat} {call : CT} {d : Nat} {r : MI} {Q : QT} {X : AST} {n x y pc : Nat} {L : LV} {S : List Value} {h : AH} {sz nc ns : Nat} : ∀ q0 q1, stI E mcs call d r Q X (Instr.iinc q0 q1) n x y pc L S h sz nc ns = (match gl L x with | some (.int v) => X n (stl x (.int (v + nsg (y / 2) (y % 2))) L) S h sz nc ns | _ => False) := fun _ _ => rfl
theorem sI_iconst {E : EX} {mcs : Nat → Nat × Nat} {call : CT} {d : Nat} {r : MI} {Q : QT} {X : AST} {n x y pc : Nat} {L : LV} {S : List Value} {h : AH} {sz nc ns : Nat} : ∀ q0, stI E mcs call d r Q X (Instr.iconst q0) n x y pc L S h sz nc ns = (X n L (.int (nsg x y) :: S) h sz nc ns) := fun _ => rfl
theorem sI_bipush {E : EX} {mcs : Nat → Nat × Nat} {call : CT} {d : Nat} {r : MI} {Q : QT} {X : AST} {n x y pc : Nat} {L : LV} {S : List Value} {h : AH} {sz nc ns : Nat} : ∀ q0, stI E mcs call d r Q X (Instr.bipush q0) n x y pc L S h sz nc ns = (X n L (.int (nsg x y) :: S) h sz nc ns) := fun _ => rfl
theorem sI_sipush {E : EX} {mcs : Nat → Nat × Nat} {call : CT} {d : Nat} {r : MI} {Q : QT} {X : AST} {n x y pc : Nat} {L : LV} {S : List Value} {h : AH} {sz nc ns : Nat} : ∀ q0, stI E mcs call d r Q X (Instr.sipush q0) n x y pc L S h sz nc ns = (X n L (.int (nsg x y) :: S) h sz nc ns) := fun _ => rfl
theorem sI_lconst {E : EX} {mcs : Nat → Nat × Nat} {call : CT} {d : Nat} {r : MI} {Q : QT} {X : AST} {n x y pc : Nat} {L : LV} {S : List Value} {h : AH} {sz nc ns : Nat} : ∀ q0, stI E mcs call d r Q X (Instr.lconst q0) n x y pc L S h sz nc ns = (X n L (.long (lN x) :: S) h sz nc ns) := fun _ => rfl
theorem sI_fconst {E : EX} {mcs : Nat → Nat × Nat} {call : CT} {d : Nat} {r : MI} {Q : QT} {X : AST} {n x y pc : Nat} {L : LV} {S : List Value} {h : AH} {sz nc ns : Nat} : ∀ q0, stI E mcs call d r Q X (Instr.fconst q0) n x y pc L S h sz nc ns = (X n L (.float FP.fconst0 :: S) h sz nc ns) := fun _ => rfl
theorem sI_ldc {E : EX} {mcs : Nat → Nat × Nat} {call : CT} {d : Nat} {r : MI} {Q : QT} {X : AST} {n x y pc : Nat} {L : LV} {S : List Value} {h : AH} {sz nc ns : Nat} : ∀ q0, stI E mcs call d r Q X (Instr.ldc q0) n x y pc L S h sz nc ns = (if y = 1 then X n L (.ref E.2.2 :: S) h sz nc ns else X n L (.int (nI x) :: S) h sz nc ns) := fun _ => rfl
theorem sI_ldc_w {E : EX} {mcs : Nat → Nat × Nat} {call : CT} {d : Nat} {r : MI} {Q : QT} {X : AST} {n x y pc : Nat} {L : LV} {S : List Value} {h : AH} {sz nc ns : Nat} : ∀ q0, stI E mcs call d r Q X (Instr.ldc_w q0) n x y pc L S h sz nc ns = (X n L (.int (nI x) :: S) h sz nc ns) := fun _ => rfl
theorem sI_ldc2_w {E : EX} {mcs : Nat → Nat × Nat} {call : CT} {d : Nat} {r : MI} {Q : QT} {X : AST} {n x y pc : Nat} {L : LV} {S : List Value} {h : AH} {sz nc ns : Nat} : ∀ q0, stI E mcs call d r Q X (Instr.ldc2_w q0) n x y pc L S h sz nc ns = (if y = 0 then X n L (.long (lN x) :: S) h sz nc ns else X n L (.double (UInt64.ofNat x) :: S) h sz nc ns) := fun _ => rfl
theorem sI_dup {E : EX} {mcs : Nat → Nat × Nat} {call : CT} {d : Nat} {r : MI} {Q : QT} {X : AST} {n x y pc : Nat} {L : LV} {S : List Value} {h : AH} {sz nc ns : Nat}  : stI E mcs call d r Q X (Instr.dup) n x y pc L S h sz nc ns = (match S with | v :: S' => isw (some v) = false ∧ X n L (v :: v :: S') h sz nc ns | _ => False) := rfl
theorem sI_pop {E : EX} {mcs : Nat → Nat × Nat} {call : CT} {d : Nat} {r : MI} {Q : QT} {X : AST} {n x y pc : Nat} {L : LV} {S : List Value} {h : AH} {sz nc ns : Nat}  : stI E mcs call d r Q X (Instr.pop) n x y pc L S h sz nc ns = (match S with | v :: S' => isw (some v) = false ∧ X n L S' h sz nc ns | _ => False) := rfl
theorem sI_dup_x1 {E : EX} {mcs : Nat → Nat × Nat} {call : CT} {d : Nat} {r : MI} {Q : QT} {X : AST} {n x y pc : Nat} {L : LV} {S : List Value} {h : AH} {sz nc ns : Nat}  : stI E mcs call d r Q X (Instr.dup_x1) n x y pc L S h sz nc ns = (match S with | v :: w :: S' => isw (some v) = false ∧ isw (some w) = false ∧ X n L (v :: w :: v :: S') h sz nc ns | _ => False) := rfl
theorem sI_dup2 {E : EX} {mcs : Nat → Nat × Nat} {call : CT} {d : Nat} {r : MI} {Q : QT} {X : AST} {n x y pc : Nat} {L : LV} {S : List Value} {h : AH} {sz nc ns : Nat}  : stI E mcs call d r Q X (Instr.dup2) n x y pc L S h sz nc ns = (match S with | v :: w :: S' => isw (some v) = false ∧ isw (some w) = false ∧ X n L (v :: w :: v :: w :: S') h sz nc ns | _ => False) := rfl
theorem sI_iadd {E : EX} {mcs : Nat → Nat × Nat} {call : CT} {d : Nat} {r : MI} {Q : QT} {X : AST} {n x y pc : Nat} {L : LV} {S : List Value} {h : AH} {sz nc ns : Nat}  : stI E mcs call d r Q X (Instr.iadd) n x y pc L S h sz nc ns = (match S with | .int b :: .int a :: S' => X n L (.int (a + b) :: S') h sz nc ns | _ => False) := rfl
theorem sI_isub {E : EX} {mcs : Nat → Nat × Nat} {call : CT} {d : Nat} {r : MI} {Q : QT} {X : AST} {n x y pc : Nat} {L : LV} {S : List Value} {h : AH} {sz nc ns : Nat}  : stI E mcs call d r Q X (Instr.isub) n x y pc L S h sz nc ns = (match S with | .int b :: .int a :: S' => X n L (.int (a - b) :: S') h sz nc ns | _ => False) := rfl
theorem sI_imul {E : EX} {mcs : Nat → Nat × Nat} {call : CT} {d : Nat} {r : MI} {Q : QT} {X : AST} {n x y pc : Nat} {L : LV} {S : List Value} {h : AH} {sz nc ns : Nat}  : stI E mcs call d r Q X (Instr.imul) n x y pc L S h sz nc ns = (match S with | .int b :: .int a :: S' => X n L (.int (a * b) :: S') h sz nc ns | _ => False) := rfl
theorem sI_idiv {E : EX} {mcs : Nat → Nat × Nat} {call : CT} {d : Nat} {r : MI} {Q : QT} {X : AST} {n x y pc : Nat} {L : LV} {S : List Value} {h : AH} {sz nc ns : Nat}  : stI E mcs call d r Q X (Instr.idiv) n x y pc L S h sz nc ns = (match S with | .int b :: .int a :: S' => ¬ b = 0 ∧ X n L (.int (a / b) :: S') h sz nc ns | _ => False) := rfl
theorem sI_irem {E : EX} {mcs : Nat → Nat × Nat} {call : CT} {d : Nat} {r : MI} {Q : QT} {X : AST} {n x y pc : Nat} {L : LV} {S : List Value} {h : AH} {sz nc ns : Nat}  : stI E mcs call d r Q X (Instr.irem) n x y pc L S h sz nc ns = (match S with | .int b :: .int a :: S' => ¬ b = 0 ∧ X n L (.int (a - a / b * b) :: S') h sz nc ns | _ => False) := rfl
theorem sI_ineg {E : EX} {mcs : Nat → Nat × Nat} {call : CT} {d : Nat} {r : MI} {Q : QT} {X : AST} {n x y pc : Nat} {L : LV} {S : List Value} {h : AH} {sz nc ns : Nat}  : stI E mcs call d r Q X (Instr.ineg) n x y pc L S h sz nc ns = (match S with | .int a :: S' => X n L (.int (-a) :: S') h sz nc ns | _ => False) := rfl
theorem sI_ishl {E : EX} {mcs : Nat → Nat × Nat} {call : CT} {d : Nat} {r : MI} {Q : QT} {X : AST} {n x y pc : Nat} {L : LV} {S : List Value} {h : AH} {sz nc ns : Nat}  : stI E mcs call d r Q X (Instr.ishl) n x y pc L S h sz nc ns = (match S with | .int b :: .int a :: S' => X n L (.int (a <<< (b &&& 31)) :: S') h sz nc ns | _ => False) := rfl
theorem sI_ishr {E : EX} {mcs : Nat → Nat × Nat} {call : CT} {d : Nat} {r : MI} {Q : QT} {X : AST} {n x y pc : Nat} {L : LV} {S : List Value} {h : AH} {sz nc ns : Nat}  : stI E mcs call d r Q X (Instr.ishr) n x y pc L S h sz nc ns = (match S with | .int b :: .int a :: S' => X n L (.int (a >>> (b &&& 31)) :: S') h sz nc ns | _ => False) := rfl
theorem sI_iushr {E : EX} {mcs : Nat → Nat × Nat} {call : CT} {d : Nat} {r : MI} {Q : QT} {X : AST} {n x y pc : Nat} {L : LV} {S : List Value} {h : AH} {sz nc ns : Nat}  : stI E mcs call d r Q X (Instr.iushr) n x y pc L S h sz nc ns = (match S with | .int b :: .int a :: S' => X n L (.int (a.toUInt32 >>> (b.toUInt32 &&& Int32.toUInt32 31)).toInt32 :: S') h sz nc ns | _ => False) := rfl
theorem sI_iand {E : EX} {mcs : Nat → Nat × Nat} {call : CT} {d : Nat} {r : MI} {Q : QT} {X : AST} {n x y pc : Nat} {L : LV} {S : List Value} {h : AH} {sz nc ns : Nat}  : stI E mcs call d r Q X (Instr.iand) n x y pc L S h sz nc ns = (match S with | .int b :: .int a :: S' => X n L (.int (a &&& b) :: S') h sz nc ns | _ => False) := rfl
theorem sI_ior {E : EX} {mcs : Nat → Nat × Nat} {call : CT} {d : Nat} {r : MI} {Q : QT} {X : AST} {n x y pc : Nat} {L : LV} {S : List Value} {h : AH} {sz nc ns : Nat}  : stI E mcs call d r Q X (Instr.ior) n x y pc L S h sz nc ns = (match S with | .int b :: .int a :: S' => X n L (.int (a ||| b) :: S') h sz nc ns | _ => False) := rfl
theorem sI_ixor {E : EX} {mcs : Nat → Nat × Nat} {call : CT} {d : Nat} {r : MI} {Q : QT} {X : AST} {n x y pc : Nat} {L : LV} {S : List Value} {h : AH} {sz nc ns : Nat}  : stI E mcs call d r Q X (Instr.ixor) n x y pc L S h sz nc ns = (match S with | .int b :: .int a :: S' => X n L (.int (a ^^^ b) :: S') h sz nc ns | _ => False) := rfl
theorem sI_ladd {E : EX} {mcs : Nat → Nat × Nat} {call : CT} {d : Nat} {r : MI} {Q : QT} {X : AST} {n x y pc : Nat} {L : LV} {S : List Value} {h : AH} {sz nc ns : Nat}  : stI E mcs call d r Q X (Instr.ladd) n x y pc L S h sz nc ns = (match S with | .long b :: .long a :: S' => X n L (.long (a + b) :: S') h sz nc ns | _ => False) := rfl
theorem sI_lmul {E : EX} {mcs : Nat → Nat × Nat} {call : CT} {d : Nat} {r : MI} {Q : QT} {X : AST} {n x y pc : Nat} {L : LV} {S : List Value} {h : AH} {sz nc ns : Nat}  : stI E mcs call d r Q X (Instr.lmul) n x y pc L S h sz nc ns = (match S with | .long b :: .long a :: S' => X n L (.long (a * b) :: S') h sz nc ns | _ => False) := rfl
theorem sI_ldiv {E : EX} {mcs : Nat → Nat × Nat} {call : CT} {d : Nat} {r : MI} {Q : QT} {X : AST} {n x y pc : Nat} {L : LV} {S : List Value} {h : AH} {sz nc ns : Nat}  : stI E mcs call d r Q X (Instr.ldiv) n x y pc L S h sz nc ns = (match S with | .long b :: .long a :: S' => ¬ b = 0 ∧ X n L (.long (a / b) :: S') h sz nc ns | _ => False) := rfl
theorem sI_lrem {E : EX} {mcs : Nat → Nat × Nat} {call : CT} {d : Nat} {r : MI} {Q : QT} {X : AST} {n x y pc : Nat} {L : LV} {S : List Value} {h : AH} {sz nc ns : Nat}  : stI E mcs call d r Q X (Instr.lrem) n x y pc L S h sz nc ns = (match S with | .long b :: .long a :: S' => ¬ b = 0 ∧ X n L (.long (a - a / b * b) :: S') h sz nc ns | _ => False) := rfl
theorem sI_lcmp {E : EX} {mcs : Nat → Nat × Nat} {call : CT} {d : Nat} {r : MI} {Q : QT} {X : AST} {n x y pc : Nat} {L : LV} {S : List Value} {h : AH} {sz nc ns : Nat}  : stI E mcs call d r Q X (Instr.lcmp) n x y pc L S h sz nc ns = (match S with | .long b :: .long a :: S' => X n L (.int (lg_cmp a b) :: S') h sz nc ns | _ => False) := rfl
theorem sI_i2l {E : EX} {mcs : Nat → Nat × Nat} {call : CT} {d : Nat} {r : MI} {Q : QT} {X : AST} {n x y pc : Nat} {L : LV} {S : List Value} {h : AH} {sz nc ns : Nat}  : stI E mcs call d r Q X (Instr.i2l) n x y pc L S h sz nc ns = (match S with | .int a :: S' => X n L (.long a.toInt64 :: S') h sz nc ns | _ => False) := rfl
theorem sI_l2i {E : EX} {mcs : Nat → Nat × Nat} {call : CT} {d : Nat} {r : MI} {Q : QT} {X : AST} {n x y pc : Nat} {L : LV} {S : List Value} {h : AH} {sz nc ns : Nat}  : stI E mcs call d r Q X (Instr.l2i) n x y pc L S h sz nc ns = (match S with | .long a :: S' => X n L (.int a.toInt32 :: S') h sz nc ns | _ => False) := rfl
theorem sI_i2c {E : EX} {mcs : Nat → Nat × Nat} {call : CT} {d : Nat} {r : MI} {Q : QT} {X : AST} {n x y pc : Nat} {L : LV} {S : List Value} {h : AH} {sz nc ns : Nat}  : stI E mcs call d r Q X (Instr.i2c) n x y pc L S h sz nc ns = (match S with | .int a :: S' => X n L (.int (a.toUInt32 % 65536).toInt32 :: S') h sz nc ns | _ => False) := rfl
theorem sI_i2f {E : EX} {mcs : Nat → Nat × Nat} {call : CT} {d : Nat} {r : MI} {Q : QT} {X : AST} {n x y pc : Nat} {L : LV} {S : List Value} {h : AH} {sz nc ns : Nat}  : stI E mcs call d r Q X (Instr.i2f) n x y pc L S h sz nc ns = (match S with | .int a :: S' => X n L (.float (FP.i2f a) :: S') h sz nc ns | _ => False) := rfl
theorem sI_i2d {E : EX} {mcs : Nat → Nat × Nat} {call : CT} {d : Nat} {r : MI} {Q : QT} {X : AST} {n x y pc : Nat} {L : LV} {S : List Value} {h : AH} {sz nc ns : Nat}  : stI E mcs call d r Q X (Instr.i2d) n x y pc L S h sz nc ns = (match S with | .int a :: S' => X n L (.double (FP.i2d a) :: S') h sz nc ns | _ => False) := rfl
theorem sI_f2d {E : EX} {mcs : Nat → Nat × Nat} {call : CT} {d : Nat} {r : MI} {Q : QT} {X : AST} {n x y pc : Nat} {L : LV} {S : List Value} {h : AH} {sz nc ns : Nat}  : stI E mcs call d r Q X (Instr.f2d) n x y pc L S h sz nc ns = (match S with | .float a :: S' => vf_n64 (FP.f2d a) ∧ X n L (.double (FP.f2d a) :: S') h sz nc ns | _ => False) := rfl
theorem sI_fdiv {E : EX} {mcs : Nat → Nat × Nat} {call : CT} {d : Nat} {r : MI} {Q : QT} {X : AST} {n x y pc : Nat} {L : LV} {S : List Value} {h : AH} {sz nc ns : Nat}  : stI E mcs call d r Q X (Instr.fdiv) n x y pc L S h sz nc ns = (match S with | .float b :: .float a :: S' => vf_n32 (FP.fdiv a b) ∧ X n L (.float (FP.fdiv a b) :: S') h sz nc ns | _ => False) := rfl
theorem sI_ddiv {E : EX} {mcs : Nat → Nat × Nat} {call : CT} {d : Nat} {r : MI} {Q : QT} {X : AST} {n x y pc : Nat} {L : LV} {S : List Value} {h : AH} {sz nc ns : Nat}  : stI E mcs call d r Q X (Instr.ddiv) n x y pc L S h sz nc ns = (match S with | .double b :: .double a :: S' => vf_n64 (FP.ddiv a b) ∧ X n L (.double (FP.ddiv a b) :: S') h sz nc ns | _ => False) := rfl
theorem sI_fcmp {E : EX} {mcs : Nat → Nat × Nat} {call : CT} {d : Nat} {r : MI} {Q : QT} {X : AST} {n x y pc : Nat} {L : LV} {S : List Value} {h : AH} {sz nc ns : Nat} : ∀ op, stI E mcs call d r Q X (Instr.fcmp op) n x y pc L S h sz nc ns = (match S with | .float b :: .float a :: S' => X n L (.int (Op.cmpValue (FP.fcmp a b) op) :: S') h sz nc ns | _ => False) := fun _ => rfl
theorem sI_dcmp {E : EX} {mcs : Nat → Nat × Nat} {call : CT} {d : Nat} {r : MI} {Q : QT} {X : AST} {n x y pc : Nat} {L : LV} {S : List Value} {h : AH} {sz nc ns : Nat} : ∀ op, stI E mcs call d r Q X (Instr.dcmp op) n x y pc L S h sz nc ns = (match S with | .double b :: .double a :: S' => X n L (.int (Op.cmpValue (FP.dcmp a b) op) :: S') h sz nc ns | _ => False) := fun _ => rfl
theorem sI_goto {E : EX} {mcs : Nat → Nat × Nat} {call : CT} {d : Nat} {r : MI} {Q : QT} {X : AST} {n x y pc : Nat} {L : LV} {S : List Value} {h : AH} {sz nc ns : Nat} : ∀ q0, stI E mcs call d r Q X (Instr.goto q0) n x y pc L S h sz nc ns = (X y L S h sz nc ns) := fun _ => rfl
theorem sI_ifCond {E : EX} {mcs : Nat → Nat × Nat} {call : CT} {d : Nat} {r : MI} {Q : QT} {X : AST} {n x y pc : Nat} {L : LV} {S : List Value} {h : AH} {sz nc ns : Nat} : ∀ c q1, stI E mcs call d r Q X (Instr.ifCond c q1) n x y pc L S h sz nc ns = (match S with | .int a :: S' => (cnd c a 0 → X y L S' h sz nc ns) ∧ (¬ cnd c a 0 → X n L S' h sz nc ns) | _ => False) := fun _ _ => rfl
theorem sI_if_icmp {E : EX} {mcs : Nat → Nat × Nat} {call : CT} {d : Nat} {r : MI} {Q : QT} {X : AST} {n x y pc : Nat} {L : LV} {S : List Value} {h : AH} {sz nc ns : Nat} : ∀ c q1, stI E mcs call d r Q X (Instr.if_icmp c q1) n x y pc L S h sz nc ns = (match S with | .int b :: .int a :: S' => (cnd c a b → X y L S' h sz nc ns) ∧ (¬ cnd c a b → X n L S' h sz nc ns) | _ => False) := fun _ _ => rfl
theorem sI_if_acmp {E : EX} {mcs : Nat → Nat × Nat} {call : CT} {d : Nat} {r : MI} {Q : QT} {X : AST} {n x y pc : Nat} {L : LV} {S : List Value} {h : AH} {sz nc ns : Nat} : ∀ c q1, stI E mcs call d r Q X (Instr.if_acmp c q1) n x y pc L S h sz nc ns = (match S with
    | .ref b :: .ref a :: S' => match c with
      | .eq => (a = b → X y L S' h sz nc ns) ∧ (¬ a = b → X n L S' h sz nc ns)
      | .ne => (¬ a = b → X y L S' h sz nc ns) ∧ (a = b → X n L S' h sz nc ns)
    | _ => False) := fun _ _ => rfl
theorem sI_ifnull {E : EX} {mcs : Nat → Nat × Nat} {call : CT} {d : Nat} {r : MI} {Q : QT} {X : AST} {n x y pc : Nat} {L : LV} {S : List Value} {h : AH} {sz nc ns : Nat} : ∀ q0, stI E mcs call d r Q X (Instr.ifnull q0) n x y pc L S h sz nc ns = (match S with | .ref _ :: S' => X n L S' h sz nc ns | .null :: S' => X y L S' h sz nc ns | _ => False) := fun _ => rfl
theorem sI_ifnonnull {E : EX} {mcs : Nat → Nat × Nat} {call : CT} {d : Nat} {r : MI} {Q : QT} {X : AST} {n x y pc : Nat} {L : LV} {S : List Value} {h : AH} {sz nc ns : Nat} : ∀ q0, stI E mcs call d r Q X (Instr.ifnonnull q0) n x y pc L S h sz nc ns = (match S with | .ref _ :: S' => X y L S' h sz nc ns | .null :: S' => X n L S' h sz nc ns | _ => False) := fun _ => rfl
theorem sI_tableswitch {E : EX} {mcs : Nat → Nat × Nat} {call : CT} {d : Nat} {r : MI} {Q : QT} {X : AST} {n x y pc : Nat} {L : LV} {S : List Value} {h : AH} {sz nc ns : Nat} : ∀ df lo hi os, stI E mcs call d r Q X (Instr.tableswitch df lo hi os) n x y pc L S h sz nc ns = (match S with | .int a :: S' => X (tsw pc df lo hi os a) L S' h sz nc ns | _ => False) := fun _ _ _ _ => rfl
theorem sI_getfield {E : EX} {mcs : Nat → Nat × Nat} {call : CT} {d : Nat} {r : MI} {Q : QT} {X : AST} {n x y pc : Nat} {L : LV} {S : List Value} {h : AH} {sz nc ns : Nat} : ∀ q0, stI E mcs call d r Q X (Instr.getfield q0) n x y pc L S h sz nc ns = (match S with
    | .ref a :: S' => match h a with
      | some (.inr (ci, fs)) => subc x ci = true ∧ X n L (nf fs y :: S') h sz nc ns
      | _ => False
    | _ => False) := fun _ => rfl
theorem sI_putfield {E : EX} {mcs : Nat → Nat × Nat} {call : CT} {d : Nat} {r : MI} {Q : QT} {X : AST} {n x y pc : Nat} {L : LV} {S : List Value} {h : AH} {sz nc ns : Nat} : ∀ q0, stI E mcs call d r Q X (Instr.putfield q0) n x y pc L S h sz nc ns = (match S with
    | v :: .ref a :: S' => match h a with
      | some (.inr (ci, fs)) => subc x ci = true ∧ lnb fs (y % 64) = true ∧ vok (y / 64) v ∧ X n L S' (hup h a (.inr (ci, pf fs (y % 64) v))) sz nc ns
      | _ => False
    | _ => False) := fun _ => rfl
theorem sI_getstatic {E : EX} {mcs : Nat → Nat × Nat} {call : CT} {d : Nat} {r : MI} {Q : QT} {X : AST} {n x y pc : Nat} {L : LV} {S : List Value} {h : AH} {sz nc ns : Nat} : ∀ q0, stI E mcs call d r Q X (Instr.getstatic q0) n x y pc L S h sz nc ns = (X n L (.ref E.2.1 :: S) h sz nc ns) := fun _ => rfl
theorem sI_new {E : EX} {mcs : Nat → Nat × Nat} {call : CT} {d : Nat} {r : MI} {Q : QT} {X : AST} {n x y pc : Nat} {L : LV} {S : List Value} {h : AH} {sz nc ns : Nat} : ∀ q0, stI E mcs call d r Q X (Instr.new q0) n x y pc L S h sz nc ns = (if 900 ≤ x then 6 ≤ d ∧ catS S ≤ 8 ∧ nc + 1 ≤ mC r ∧ ns + 6 ≤ mS r ∧ ∀ sz', sz ≤ sz' → Q (.error (exn (x - 900))) h sz'
    else nc + 1 ≤ mC r ∧ ns + y ≤ mS r ∧ X n L (.ref sz :: S) (hup h sz (.inr (x, dfl x))) (sz + 1) (nc + 1) (ns + y)) := fun _ => rfl
theorem sI_newarray {E : EX} {mcs : Nat → Nat × Nat} {call : CT} {d : Nat} {r : MI} {Q : QT} {X : AST} {n x y pc : Nat} {L : LV} {S : List Value} {h : AH} {sz nc ns : Nat} : ∀ q0, stI E mcs call d r Q X (Instr.newarray q0) n x y pc L S h sz nc ns = (match S with
    | .int v :: S' => ¬ v < 0 ∧ v.toNatClampNeg ≤ 4096 ∧ nc + 1 ≤ mC r ∧ ns + v.toNatClampNeg ≤ mS r ∧ X n L (.ref sz :: S') (hup h sz (.inl (x, dfa x v.toNatClampNeg))) (sz + 1) (nc + 1) (ns + v.toNatClampNeg)
    | _ => False) := fun _ => rfl
theorem sI_anewarray {E : EX} {mcs : Nat → Nat × Nat} {call : CT} {d : Nat} {r : MI} {Q : QT} {X : AST} {n x y pc : Nat} {L : LV} {S : List Value} {h : AH} {sz nc ns : Nat} : ∀ q0, stI E mcs call d r Q X (Instr.anewarray q0) n x y pc L S h sz nc ns = (match S with
    | .int v :: S' => ¬ v < 0 ∧ v.toNatClampNeg ≤ 4096 ∧ nc + 1 ≤ mC r ∧ ns + v.toNatClampNeg ≤ mS r ∧ X n L (.ref sz :: S') (hup h sz (.inl (x, dfa x v.toNatClampNeg))) (sz + 1) (nc + 1) (ns + v.toNatClampNeg)
    | _ => False) := fun _ => rfl
theorem sI_arraylength {E : EX} {mcs : Nat → Nat × Nat} {call : CT} {d : Nat} {r : MI} {Q : QT} {X : AST} {n x y pc : Nat} {L : LV} {S : List Value} {h : AH} {sz nc ns : Nat}  : stI E mcs call d r Q X (Instr.arraylength) n x y pc L S h sz nc ns = (match S with
    | .ref a :: S' => match h a with
      | some (.inl (_, m, _)) => X n L (.int (nI m) :: S') h sz nc ns
      | some (.inr _) => False
      | none => (a = E.2.1 ∧ X n L (.int (nI 0) :: S') h sz nc ns) ∨ (a = E.1.1 ∧ X n L (.int (nI E.1.2.1) :: S') h sz nc ns)
    | _ => False) := rfl
theorem sI_iaload {E : EX} {mcs : Nat → Nat × Nat} {call : CT} {d : Nat} {r : MI} {Q : QT} {X : AST} {n x y pc : Nat} {L : LV} {S : List Value} {h : AH} {sz nc ns : Nat}  : stI E mcs call d r Q X (Instr.iaload) n x y pc L S h sz nc ns = (match S with
    | .int j :: .ref a :: S' => match h a with
      | some (.inl (k, m, .inl f)) => k = 0 ∧ vp_in j m ∧ X n L (.int (f j.toNatClampNeg) :: S') h sz nc ns
      | some (.inl (_, _, .inr _)) => False
      | some (.inr _) => False
      | none => a = E.1.1 ∧ vp_in j E.1.2.1 ∧ X n L (.int (E.1.2.2 j.toNatClampNeg) :: S') h sz nc ns
    | _ => False) := rfl
theorem sI_baload {E : EX} {mcs : Nat → Nat × Nat} {call : CT} {d : Nat} {r : MI} {Q : QT} {X : AST} {n x y pc : Nat} {L : LV} {S : List Value} {h : AH} {sz nc ns : Nat}  : stI E mcs call d r Q X (Instr.baload) n x y pc L S h sz nc ns = (match S with
    | .int j :: .ref a :: S' => match h a with
      | some (.inl (k, m, .inl f)) => k = 1 ∧ vp_in j m ∧ X n L (.int (f j.toNatClampNeg) :: S') h sz nc ns
      | _ => False
    | _ => False) := rfl
theorem sI_laload {E : EX} {mcs : Nat → Nat × Nat} {call : CT} {d : Nat} {r : MI} {Q : QT} {X : AST} {n x y pc : Nat} {L : LV} {S : List Value} {h : AH} {sz nc ns : Nat}  : stI E mcs call d r Q X (Instr.laload) n x y pc L S h sz nc ns = (match S with
    | .int j :: .ref a :: S' => match h a with
      | some (.inl (k, m, .inr (.inl f))) => k = 4 ∧ vp_in j m ∧ X n L (.long (f j.toNatClampNeg) :: S') h sz nc ns
      | _ => False
    | _ => False) := rfl
theorem sI_daload {E : EX} {mcs : Nat → Nat × Nat} {call : CT} {d : Nat} {r : MI} {Q : QT} {X : AST} {n x y pc : Nat} {L : LV} {S : List Value} {h : AH} {sz nc ns : Nat}  : stI E mcs call d r Q X (Instr.daload) n x y pc L S h sz nc ns = (match S with
    | .int j :: .ref a :: S' => match h a with
      | some (.inl (k, m, .inr (.inr (.inr (.inl f))))) => k = 5 ∧ vp_in j m ∧ X n L (.double (f j.toNatClampNeg) :: S') h sz nc ns
      | _ => False
    | _ => False) := rfl
theorem sI_aaload {E : EX} {mcs : Nat → Nat × Nat} {call : CT} {d : Nat} {r : MI} {Q : QT} {X : AST} {n x y pc : Nat} {L : LV} {S : List Value} {h : AH} {sz nc ns : Nat}  : stI E mcs call d r Q X (Instr.aaload) n x y pc L S h sz nc ns = (match S with
    | .int j :: .ref a :: S' => match h a with
      | some (.inl (k, m, .inr (.inr (.inr (.inr f))))) => (k = 2 ∨ k = 3) ∧ vp_in j m ∧ X n L (va_rf (f j.toNatClampNeg) :: S') h sz nc ns
      | _ => False
    | _ => False) := rfl
theorem sI_iastore {E : EX} {mcs : Nat → Nat × Nat} {call : CT} {d : Nat} {r : MI} {Q : QT} {X : AST} {n x y pc : Nat} {L : LV} {S : List Value} {h : AH} {sz nc ns : Nat}  : stI E mcs call d r Q X (Instr.iastore) n x y pc L S h sz nc ns = (match S with
    | .int v :: .int j :: .ref a :: S' => match h a with
      | some (.inl (k, m, .inl f)) => k = 0 ∧ vp_in j m ∧ X n L S' (hup h a (.inl (0, m, .inl (upd f j.toNatClampNeg v)))) sz nc ns
      | _ => False
    | _ => False) := rfl
theorem sI_bastore {E : EX} {mcs : Nat → Nat × Nat} {call : CT} {d : Nat} {r : MI} {Q : QT} {X : AST} {n x y pc : Nat} {L : LV} {S : List Value} {h : AH} {sz nc ns : Nat}  : stI E mcs call d r Q X (Instr.bastore) n x y pc L S h sz nc ns = (match S with
    | .int v :: .int j :: .ref a :: S' => match h a with
      | some (.inl (k, m, .inl f)) => k = 1 ∧ vp_in j m ∧ X n L S' (hup h a (.inl (1, m, .inl (upd f j.toNatClampNeg (vp_nar .boolean v))))) sz nc ns
      | _ => False
    | _ => False) := rfl
theorem sI_lastore {E : EX} {mcs : Nat → Nat × Nat} {call : CT} {d : Nat} {r : MI} {Q : QT} {X : AST} {n x y pc : Nat} {L : LV} {S : List Value} {h : AH} {sz nc ns : Nat}  : stI E mcs call d r Q X (Instr.lastore) n x y pc L S h sz nc ns = (match S with
    | .long v :: .int j :: .ref a :: S' => match h a with
      | some (.inl (k, m, .inr (.inl f))) => k = 4 ∧ vp_in j m ∧ X n L S' (hup h a (.inl (4, m, .inr (.inl (vp_updL f j.toNatClampNeg v))))) sz nc ns
      | _ => False
    | _ => False) := rfl
theorem sI_dastore {E : EX} {mcs : Nat → Nat × Nat} {call : CT} {d : Nat} {r : MI} {Q : QT} {X : AST} {n x y pc : Nat} {L : LV} {S : List Value} {h : AH} {sz nc ns : Nat}  : stI E mcs call d r Q X (Instr.dastore) n x y pc L S h sz nc ns = (match S with
    | .double v :: .int j :: .ref a :: S' => match h a with
      | some (.inl (k, m, .inr (.inr (.inr (.inl f))))) => k = 5 ∧ vp_in j m ∧ X n L S' (hup h a (.inl (5, m, .inr (.inr (.inr (.inl (vf_upd f j.toNatClampNeg v))))))) sz nc ns
      | _ => False
    | _ => False) := rfl
theorem sI_aastore {E : EX} {mcs : Nat → Nat × Nat} {call : CT} {d : Nat} {r : MI} {Q : QT} {X : AST} {n x y pc : Nat} {L : LV} {S : List Value} {h : AH} {sz nc ns : Nat}  : stI E mcs call d r Q X (Instr.aastore) n x y pc L S h sz nc ns = (match S with
    | .ref w :: .int j :: .ref a :: S' => match h a with
      | some (.inl (k, m, .inr (.inr (.inr (.inr f))))) => match h w with
        | some (.inr (ci, _)) => ((k = 2 ∧ ci = 4) ∨ (k = 3 ∧ ci < 13)) ∧ vp_in j m ∧ X n L S' (hup h a (.inl (k, m, refA (va_up f j.toNatClampNeg (some w))))) sz nc ns
        | _ => False
      | _ => False
    | .null :: .int j :: .ref a :: S' => match h a with
      | some (.inl (k, m, .inr (.inr (.inr (.inr f))))) => (k = 2 ∨ k = 3) ∧ vp_in j m ∧ X n L S' (hup h a (.inl (k, m, refA (va_up f j.toNatClampNeg none)))) sz nc ns
      | _ => False
    | _ => False) := rfl
theorem sI_checkcast {E : EX} {mcs : Nat → Nat × Nat} {call : CT} {d : Nat} {r : MI} {Q : QT} {X : AST} {n x y pc : Nat} {L : LV} {S : List Value} {h : AH} {sz nc ns : Nat} : ∀ q0, stI E mcs call d r Q X (Instr.checkcast q0) n x y pc L S h sz nc ns = (match S with
    | .ref a :: S' => match h a with
      | some (.inr (ci, _)) => subc x ci = true ∧ X n L (.ref a :: S') h sz nc ns
      | _ => False
    | _ => False) := fun _ => rfl
theorem sI_invokestatic {E : EX} {mcs : Nat → Nat × Nat} {call : CT} {d : Nat} {r : MI} {Q : QT} {X : AST} {n x y pc : Nat} {L : LV} {S : List Value} {h : AH} {sz nc ns : Nat} : ∀ q0, stI E mcs call d r Q X (Instr.invokestatic q0) n x y pc L S h sz nc ns = (if x = 1000 then (match S with
      | .int nn :: .int dp :: .ref b :: .int sp :: .ref a :: S' => match h a with
        | some (.inl (k0, m0, .inl f)) => match h b with
          | some (.inl (k1, m1, .inl g)) => k0 = 0 ∧ k1 = 0 ∧ ¬ sp < 0 ∧ ¬ dp < 0 ∧ ¬ nn < 0 ∧ sp.toNatClampNeg + nn.toNatClampNeg ≤ m0 ∧ dp.toNatClampNeg + nn.toNatClampNeg ≤ m1 ∧ catS S' ≤ 8 ∧ 1 ≤ d ∧
            X n L S' (hup h b (.inl (0, m1, .inl (va_cpy f g sp.toNatClampNeg dp.toNatClampNeg nn.toNatClampNeg)))) sz nc ns
          | _ => False
        | _ => False
      | _ => False)
    else if x = 1001 then (match S with
      | .int nn :: .int dp :: .ref b :: .int sp :: .ref a :: S' => match h a with
        | some (.inl (k0, m0, .inr (.inr (.inr (.inr f))))) => match h b with
          | some (.inl (k1, m1, .inr (.inr (.inr (.inr g))))) => k0 = 3 ∧ k1 = 3 ∧ ¬ sp < 0 ∧ ¬ dp < 0 ∧ ¬ nn < 0 ∧ sp.toNatClampNeg + nn.toNatClampNeg ≤ m0 ∧ dp.toNatClampNeg + nn.toNatClampNeg ≤ m1 ∧
            (∀ j, j < nn.toNatClampNeg → ∀ w, f (sp.toNatClampNeg + j) = some w → ∃ ci fs, h w = some (.inr (ci, fs)) ∧ ci < 13) ∧ catS S' ≤ 8 ∧ 1 ≤ d ∧
            X n L S' (hup h b (.inl (3, m1, refA (va_cpy f g sp.toNatClampNeg dp.toNatClampNeg nn.toNatClampNeg)))) sz nc ns
          | _ => False
        | _ => False
      | _ => False)
    else if x = 1004 then (match S with
      | .int b :: .int a :: S' => catS S' ≤ 8 ∧ 1 ≤ d ∧ X n L (.int (if b < a then b else a) :: S') h sz nc ns
      | _ => False)
    else if x = 1005 then (match S with
      | .int b :: .int a :: S' => catS S' ≤ 8 ∧ 1 ≤ d ∧ X n L (.int (if a < b then b else a) :: S') h sz nc ns
      | _ => False)
    else match tk y [] S with
      | some (as, rest) => cal mcs call r Q X x as pc n L rest h sz nc ns
      | none => False) := fun _ => rfl
theorem sI_invokevirtual {E : EX} {mcs : Nat → Nat × Nat} {call : CT} {d : Nat} {r : MI} {Q : QT} {X : AST} {n x y pc : Nat} {L : LV} {S : List Value} {h : AH} {sz nc ns : Nat} : ∀ q0, stI E mcs call d r Q X (Instr.invokevirtual q0) n x y pc L S h sz nc ns = (if x = 1003 then (match S with
      | .ref a :: S' => match h a with
        | some (.inl (k, _)) => k = 3 ∧ catS S' ≤ 8 ∧ 1 ≤ d ∧ X n L (.ref E.2.2 :: S') h sz nc ns
        | _ => False
      | _ => False)
    else match tk (y % 16) [] S with
    | some (as, .ref b :: rest) => match h b with
      | some (.inr (ci, _)) => if x = 500 then subc 50 ci = true ∧ cal mcs call r Q X (vdo ci) (.ref b :: as) pc n L rest h sz nc ns
        else ci = y / 16 ∧ cal mcs call r Q X x (.ref b :: as) pc n L rest h sz nc ns
      | _ => False
    | _ => False) := fun _ => rfl
theorem sI_invokespecial {E : EX} {mcs : Nat → Nat × Nat} {call : CT} {d : Nat} {r : MI} {Q : QT} {X : AST} {n x y pc : Nat} {L : LV} {S : List Value} {h : AH} {sz nc ns : Nat} : ∀ q0, stI E mcs call d r Q X (Instr.invokespecial q0) n x y pc L S h sz nc ns = (if x = 0 then (match S with
      | .ref _ :: S' => catS S' ≤ 8 ∧ 1 ≤ d ∧ X n L S' h sz nc ns
      | _ => False)
    else match tk y [] S with
    | some (as, .ref b :: rest) => cal mcs call r Q X x (.ref b :: as) pc n L rest h sz nc ns
    | _ => False) := fun _ => rfl
theorem sI_ireturn {E : EX} {mcs : Nat → Nat × Nat} {call : CT} {d : Nat} {r : MI} {Q : QT} {X : AST} {n x y pc : Nat} {L : LV} {S : List Value} {h : AH} {sz nc ns : Nat}  : stI E mcs call d r Q X (Instr.ireturn) n x y pc L S h sz nc ns = (match S with | [.int v] => vok y (.int v) ∧ Q (.ok (some (.int v))) h sz | _ => False) := rfl
theorem sI_lreturn {E : EX} {mcs : Nat → Nat × Nat} {call : CT} {d : Nat} {r : MI} {Q : QT} {X : AST} {n x y pc : Nat} {L : LV} {S : List Value} {h : AH} {sz nc ns : Nat}  : stI E mcs call d r Q X (Instr.lreturn) n x y pc L S h sz nc ns = (match S with | [.long v] => Q (.ok (some (.long v))) h sz | _ => False) := rfl
theorem sI_freturn {E : EX} {mcs : Nat → Nat × Nat} {call : CT} {d : Nat} {r : MI} {Q : QT} {X : AST} {n x y pc : Nat} {L : LV} {S : List Value} {h : AH} {sz nc ns : Nat}  : stI E mcs call d r Q X (Instr.freturn) n x y pc L S h sz nc ns = (match S with | [.float v] => Q (.ok (some (.float v))) h sz | _ => False) := rfl
theorem sI_dreturn {E : EX} {mcs : Nat → Nat × Nat} {call : CT} {d : Nat} {r : MI} {Q : QT} {X : AST} {n x y pc : Nat} {L : LV} {S : List Value} {h : AH} {sz nc ns : Nat}  : stI E mcs call d r Q X (Instr.dreturn) n x y pc L S h sz nc ns = (match S with | [.double v] => Q (.ok (some (.double v))) h sz | _ => False) := rfl
theorem sI_areturn {E : EX} {mcs : Nat → Nat × Nat} {call : CT} {d : Nat} {r : MI} {Q : QT} {X : AST} {n x y pc : Nat} {L : LV} {S : List Value} {h : AH} {sz nc ns : Nat}  : stI E mcs call d r Q X (Instr.areturn) n x y pc L S h sz nc ns = (match S with | [.ref a] => Q (.ok (some (.ref a))) h sz | [.null] => Q (.ok (some .null)) h sz | _ => False) := rfl
theorem sI_return_ {E : EX} {mcs : Nat → Nat × Nat} {call : CT} {d : Nat} {r : MI} {Q : QT} {X : AST} {n x y pc : Nat} {L : LV} {S : List Value} {h : AH} {sz nc ns : Nat}  : stI E mcs call d r Q X (Instr.return_) n x y pc L S h sz nc ns = (match S with | [] => Q (.ok none) h sz | _ => False) := rfl
