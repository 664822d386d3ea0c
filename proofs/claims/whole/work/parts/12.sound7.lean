/-! ===== the interpreter's soundness: what is checked of an instruction, and one step ===== -/
def arB (r : MI) (pc : Nat) (i : Instr) (n x y : Nat) : Bool := match i with
  | .aconst_null => n == pc + 1
  | .aload q => q == x && n == pc + 2
  | .aload_n q => (q : Nat) == x && n == pc + 1
  | .iload q => q == x && n == pc + 2
  | .iload_n q => (q : Nat) == x && n == pc + 1
  | .lload q => q == x && n == pc + 2
  | .lload_n q => (q : Nat) == x && n == pc + 1
  | .fload q => q == x && n == pc + 2
  | .fload_n q => (q : Nat) == x && n == pc + 1
  | .dload q => q == x && n == pc + 2
  | .dload_n q => (q : Nat) == x && n == pc + 1
  | .astore q => q == x && (decide (x < mL r) && n == pc + 2)
  | .astore_n q => (q : Nat) == x && (decide (x < mL r) && n == pc + 1)
  | .istore q => q == x && (decide (x < mL r) && n == pc + 2)
  | .istore_n q => (q : Nat) == x && (decide (x < mL r) && n == pc + 1)
  | .fstore q => q == x && (decide (x < mL r) && n == pc + 2)
  | .fstore_n q => (q : Nat) == x && (decide (x < mL r) && n == pc + 1)
  | .lstore q => q == x && (decide (x + 1 < mL r) && n == pc + 2)
  | .lstore_n q => (q : Nat) == x && (decide (x + 1 < mL r) && n == pc + 1)
  | .dstore q => q == x && (decide (x + 1 < mL r) && n == pc + 2)
  | .dstore_n q => (q : Nat) == x && (decide (x + 1 < mL r) && n == pc + 1)
  | .iinc q c => q == x && (decide (x < mL r) && (decide (Int32.ofInt c = nsg (y / 2) (y % 2)) && n == pc + 3))
  | .iconst v => decide (Int32.ofInt v = nsg x y) && n == pc + 1
  | .bipush v => decide ((Int8.ofInt v).toInt32 = nsg x y) && n == pc + 2
  | .sipush v => decide ((Int16.ofInt v).toInt32 = nsg x y) && n == pc + 3
  | .lconst q => decide (Int64.ofNat (q : Nat) = lN x) && n == pc + 1
  | .fconst q => decide (q = 0) && n == pc + 1
  | .ldc _ => n == pc + 2
  | .ldc_w _ => n == pc + 3
  | .ldc2_w _ => n == pc + 3
  | .dup => n == pc + 1
  | .pop => n == pc + 1
  | .dup_x1 => n == pc + 1
  | .dup2 => n == pc + 1
  | .iadd => n == pc + 1
  | .isub => n == pc + 1
  | .imul => n == pc + 1
  | .idiv => n == pc + 1
  | .irem => n == pc + 1
  | .ineg => n == pc + 1
  | .ishl => n == pc + 1
  | .ishr => n == pc + 1
  | .iushr => n == pc + 1
  | .iand => n == pc + 1
  | .ior => n == pc + 1
  | .ixor => n == pc + 1
  | .ladd => n == pc + 1
  | .lmul => n == pc + 1
  | .ldiv => n == pc + 1
  | .lrem => n == pc + 1
  | .lcmp => n == pc + 1
  | .i2l => n == pc + 1
  | .l2i => n == pc + 1
  | .i2c => n == pc + 1
  | .i2f => n == pc + 1
  | .i2d => n == pc + 1
  | .f2d => n == pc + 1
  | .fdiv => n == pc + 1
  | .ddiv => n == pc + 1
  | .fcmp _ => n == pc + 1
  | .dcmp _ => n == pc + 1
  | .goto off => decide ((pc : Int) + off = (y : Int)) && n == pc + 3
  | .ifCond _ off => decide ((pc : Int) + off = (y : Int)) && n == pc + 3
  | .if_icmp _ off => decide ((pc : Int) + off = (y : Int)) && n == pc + 3
  | .if_acmp _ off => decide ((pc : Int) + off = (y : Int)) && n == pc + 3
  | .ifnull off => decide ((pc : Int) + off = (y : Int)) && n == pc + 3
  | .ifnonnull off => decide ((pc : Int) + off = (y : Int)) && n == pc + 3
  | .tableswitch df lo hi os => decide (0 ≤ (pc : Int) + df) && (decide ((hi - lo).toNat + 1 = os.size) && os.toList.all (fun off => decide (0 ≤ (pc : Int) + off)))
  | .getfield _ => n == pc + 3
  | .putfield _ => n == pc + 3
  | .getstatic _ => n == pc + 3
  | .new _ => n == pc + 3
  | .newarray at' => n == pc + 2 && (match at' with | .int => x == 0 | .boolean => x == 1 | .long => x == 4 | .double => x == 5 | _ => false)
  | .anewarray _ => n == pc + 3
  | .arraylength => n == pc + 1
  | .iaload => n == pc + 1
  | .baload => n == pc + 1
  | .laload => n == pc + 1
  | .daload => n == pc + 1
  | .aaload => n == pc + 1
  | .iastore => n == pc + 1
  | .bastore => n == pc + 1
  | .lastore => n == pc + 1
  | .dastore => n == pc + 1
  | .aastore => n == pc + 1
  | .checkcast _ => n == pc + 3
  | .invokestatic _ => n == pc + 3
  | .invokevirtual _ => n == pc + 3
  | .invokespecial _ => n == pc + 3
  | .ireturn => n == pc + 1 && (match mT r with | some .int => y == 0 | some .boolean => y == 1 | some .char => y == 2 | _ => false)
  | .lreturn => n == pc + 1 && (match mT r with | some .long => true | _ => false)
  | .freturn => n == pc + 1 && (match mT r with | some .float => true | _ => false)
  | .dreturn => n == pc + 1 && (match mT r with | some .double => true | _ => false)
  | .areturn => n == pc + 1 && (match mT r with | some (.object _) => true | some (.array _) => true | _ => false)
  | .return_ => n == pc + 1 && (match mT r with | none => true | _ => false)
  | _ => false
def ACW (own : String) (idx : Nat) : Prop := Jvm.Cond.methodLink own idx arraycopyName ∈ lw_gd ∧ Jvm.Cond.native arraycopyName ∈ lw_gd ∧ Jvm.Cond.static arraycopyName ∈ lw_gd ∧ Jvm.Cond.initialized "java/lang/System" ∈ lw_gd
def MMW (own : String) (idx : Nat) (y : MethodName) (b : ByteArray) : Prop := Jvm.Cond.methodLink own idx y ∈ lw_gd ∧ Jvm.Cond.static y ∈ lw_gd ∧ Jvm.Cond.initialized "java/lang/Math" ∈ lw_gd ∧ Jvm.Cond.code y b 2 (some .int) ∈ lw_gd
abbrev yGC : MethodName := ⟨"java/lang/Object", "getClass", "()Ljava/lang/Class;"⟩
def GCW (own : String) (idx : Nat) : Prop := Jvm.Cond.methodLink own idx yGC ∈ lw_gd ∧ Jvm.Cond.selects "[Ljava/lang/Object;" yGC yGC ∈ lw_gd ∧ Jvm.Cond.instanceMethod yGC ∈ lw_gd ∧ Jvm.Cond.native yGC ∈ lw_gd ∧ Jvm.Cond.declares yGC ∈ dclL
def DOW (own : String) (idx : Nat) : Prop := Jvm.Cond.methodLink own idx yDO ∈ lw_gd ∧ Jvm.Cond.sameMethod "Dominofs$Entry" "Dominofs$Entry" "doOn" "(LDominofs$Table;)V" ∈ lw_gd ∧ Jvm.Cond.declares yDO ∈ dclL ∧
  ∀ ci, subc 50 ci = true → (∃ rr, vwCl[ci]? = some rr) → ∃ rr rc, vwCl[ci]? = some rr ∧ mtab[vdo ci]? = some rc ∧ MS rc ∧ Jvm.Cond.instanceMethod (mY rc) ∈ lw_gd ∧ Jvm.Cond.selects rr.1 yDO (mY rc) ∈ lw_gd ∧ (mH rc).isEmpty = true
/-- a method that is called: by its kind (0 static, 1 virtual, 2 a constructor), with k values behind the receiver -/
def MK (kind x k : Nat) (rc : MI) : Prop := mtab[x]? = some rc ∧ MS rc ∧ (parseMethodDescriptor (mY rc).desc).map (fun d => d.parameters.length) = some k ∧ match kind with
  | 0 => Jvm.Cond.static (mY rc) ∈ lw_gd
  | 1 => Jvm.Cond.instanceMethod (mY rc) ∈ lw_gd ∧ Jvm.Cond.selects (mY rc).cls (mY rc) (mY rc) ∈ lw_gd ∧ (mH rc).isEmpty = true
  | _ => Jvm.Cond.instanceMethod (mY rc) ∈ lw_gd ∧ (mY rc).name = "<init>" ∧ mT rc = none ∧ (mH rc).isEmpty = true
def WDI (r : MI) (pc : Nat) (i : Instr) (x y : Nat) : Prop := match i with
  | .ldc idx => (y = 1 ∧ Jvm.Cond.classLink (mY r).cls idx "[Ljava/lang/Object;" ∈ lw_gd) ∨ (y ≠ 1 ∧ Jvm.Cond.constant (mY r).cls idx (nI x) ∈ lw_gd)
  | .ldc_w idx => Jvm.Cond.constant (mY r).cls idx (nI x) ∈ lw_gd
  | .ldc2_w idx => (y = 0 ∧ Jvm.Cond.constantLong (mY r).cls idx (lN x) ∈ lw_gd) ∨ (y ≠ 0 ∧ Jvm.Cond.constantDouble (mY r).cls idx (UInt64.ofNat x) ∈ lw_gd)
  | .getfield idx => FK (mY r).cls idx x y
  | .putfield idx => FP r idx x (y % 64) (y / 64)
  | .getstatic idx => Jvm.Cond.fieldLink (mY r).cls idx "java/util/ArrayList" "DEFAULTCAPACITY_EMPTY_ELEMENTDATA" "[Ljava/lang/Object;" ∈ lw_gd
  | .new idx => (900 ≤ x ∧ THW r pc idx x) ∨ (¬ 900 ≤ x ∧ ∃ rr : vw_C, vwCl[x]? = some rr ∧ Jvm.Cond.classLink (mY r).cls idx rr.1 ∈ lw_gd ∧ Jvm.Cond.instantiable rr.1 rr.2.2 ∈ lw_gd ∧ Jvm.Cond.initialized rr.1 ∈ lw_gd ∧ rr.2.2 = y)
  | .newarray at' => Jvm.Cond.arrayClass (newarray.typeOf at') ∈ lw_gd
  | .anewarray idx => ∃ C0 : String, FieldType.object C0 = tyk x ∧ (x = 2 ∨ x = 3) ∧ Jvm.Cond.classLink (mY r).cls idx C0 ∈ lw_gd
  | .checkcast idx => ∃ nm : String, Jvm.Cond.classLink (mY r).cls idx nm ∈ lw_gd ∧ ∀ (ci : Nat) (rr : vw_C), subc x ci = true → vwCl[ci]? = some rr → rr.1 = nm ∨ Jvm.Cond.castable rr.1 nm ∈ dclL
  | .invokestatic idx => ((x = 1000 ∨ x = 1001) ∧ ACW (mY r).cls idx) ∨ (x = 1004 ∧ MMW (mY r).cls idx Math.min.name Math.min.code) ∨ (x = 1005 ∧ MMW (mY r).cls idx Math.max.name Math.max.code) ∨ (x ≠ 1000 ∧ x ≠ 1001 ∧ x ≠ 1004 ∧ x ≠ 1005 ∧ ∃ rc, MK 0 x y rc ∧ Jvm.Cond.methodLink (mY r).cls idx (mY rc) ∈ lw_gd)
  | .invokevirtual idx => (x = 1003 ∧ GCW (mY r).cls idx) ∨ (x = 500 ∧ y % 16 = 1 ∧ DOW (mY r).cls idx) ∨ (x ≠ 1003 ∧ x ≠ 500 ∧ ∃ rc rr, MK 1 x (y % 16) rc ∧ vwCl[y / 16]? = some rr ∧ rr.1 = (mY rc).cls ∧ Jvm.Cond.methodLink (mY r).cls idx (mY rc) ∈ lw_gd)
  | .invokespecial idx => (x = 0 ∧ Jvm.Cond.methodLink (mY r).cls idx objectInit ∈ lw_gd ∧ Jvm.Cond.instanceMethod objectInit ∈ lw_gd ∧ Jvm.Cond.code objectInit ⟨#[0xb1]⟩ 1 none ∈ lw_gd) ∨ (x ≠ 0 ∧ ∃ rc, MK 2 x y rc ∧ Jvm.Cond.methodLink (mY r).cls idx (mY rc) ∈ lw_gd)
  | _ => True
/-- all that is checked of an instruction -/
def SF (r : MI) (t : Nat × RI) : Prop := decode (mB r) t.1 = .ok (t.2.2.1, t.2.2.2.1 - t.1) ∧ arB r t.1 t.2.2.1 t.2.2.2.1 t.2.2.2.2.1 t.2.2.2.2.2 = true ∧ WDI r t.1 t.2.2.1 t.2.2.2.2.1 t.2.2.2.2.2
/-- .. and of a method's handlers -/
def HF (r : MI) : Prop := (∀ x ∈ mH r, Jvm.Cond.classLink (mY r).cls x.2.2.2.1 x.2.2.2.2 ∈ lw_gd ∧ x.2.2.2.1 ≠ 0 ∧ Jvm.Cond.castable x.2.2.2.2 x.2.2.2.2 ∈ dclL) ∧ (mH r).Pairwise (fun x y => (y.2.2.2.2, x.2.2.2.2) ∈ ncL)
theorem tk_all {k : Nat} {S as rest : List Value} (h : tk k [] S = some (as, rest)) : S = as.reverse ++ rest ∧ as.length = k := by
  obtain ⟨h1, h2⟩ := tk_spec h
  simp only [List.reverse_nil, List.nil_append] at h1
  exact ⟨h1.symm, by simpa using h2⟩
theorem mcs_at {x : Nat} {rc : MI} (h : mtab[x]? = some rc) : mcsT mtab x = (mC rc, mS rc) := by unfold mcsT; rw [h]
section SND6
variable {p : Program} {l : Launch} {e : Env} {R : Room} {s : State} {m : MethodId} {args : Array Value} {below : List Frame} {meth : Method} {c : Code} {Qg : State → Prop} {D : va_G} {tys : List (ClassId × FieldType)} {A : Nat → Prop} {r : MI} {E : EX} {d : Nat}
variable {pc : Nat} {L : LV} {S : List Value} {h : AH} {sz nc ns : Nat}
theorem sx_objI (C : CX p l R s m args meth c r D tys E A d) {idx a : Nat} (hd : decode (mB r) pc = .ok (.invokespecial idx, 3)) (w1 : Jvm.Cond.methodLink (mY r).cls idx objectInit ∈ lw_gd) (w2 : Jvm.Cond.instanceMethod objectInit ∈ lw_gd) (w3 : Jvm.Cond.code objectInit ⟨#[0xb1]⟩ 1 none ∈ lw_gd) (hc : catS S ≤ 8) (h1 : 1 ≤ d) (kk : XS p l e R s m args below meth c Qg D tys A r (pc + 3) L S h sz nc ns) : XS p l e R s m args below meth c Qg D tys A r pc L (.ref a :: S) h sz nc ns := by
  obtain ⟨hx, hb, hml, hown, hts, hK, hA, hlk, -, ⟨r1, r2, -⟩, -⟩ := C
  intro H locs ls k1 k2 k3 k4 k5 k6 k7
  rw [catS_eq] at hc
  exact W.objInit (g := F0 m pc ls (.ref a :: S)) hx hb hown (hts _ w1) (hts _ w2) (hts _ w3) rfl (by rw [hml]; exact k5.1) rfl hd (Nat.le_trans h1 r1) (by show 2 * 0 + _ + 12 ≤ _; omega) (kk H locs ls k1 k2 k3 k4 k5 k6 k7)
theorem sx_min (C : CX p l R s m args meth c r D tys E A d) {idx : Nat} {a b : Int32} (hd : decode (mB r) pc = .ok (.invokestatic idx, 3)) (w : MMW (mY r).cls idx Math.min.name Math.min.code) (hc : catS S ≤ 8) (h1 : 1 ≤ d) (kk : XS p l e R s m args below meth c Qg D tys A r (pc + 3) L (.int (if b < a then b else a) :: S) h sz nc ns) : XS p l e R s m args below meth c Qg D tys A r pc L (.int b :: .int a :: S) h sz nc ns := by
  obtain ⟨hx, hb, hml, hown, hts, hK, hA, hlk, -, ⟨r1, r2, r3, r4⟩, -⟩ := C
  obtain ⟨w1, w2, w3, w4⟩ := w
  intro H locs ls k1 k2 k3 k4 k5 k6 k7
  rw [catS_eq] at hc
  exact va_mmin hx hb (by rw [hml]; exact k5.1.symm) hown (hts _ w1) (hts _ w2) (hts _ w3) (hts _ w4) (Nat.le_trans h1 r1) (by omega) (Nat.le_trans k6 r3) (Nat.le_trans k7 r4) hd (kk H locs ls k1 k2 k3 k4 k5 k6 k7)
theorem sx_max (C : CX p l R s m args meth c r D tys E A d) {idx : Nat} {a b : Int32} (hd : decode (mB r) pc = .ok (.invokestatic idx, 3)) (w : MMW (mY r).cls idx Math.max.name Math.max.code) (hc : catS S ≤ 8) (h1 : 1 ≤ d) (kk : XS p l e R s m args below meth c Qg D tys A r (pc + 3) L (.int (if a < b then b else a) :: S) h sz nc ns) : XS p l e R s m args below meth c Qg D tys A r pc L (.int b :: .int a :: S) h sz nc ns := by
  obtain ⟨hx, hb, hml, hown, hts, hK, hA, hlk, -, ⟨r1, r2, r3, r4⟩, -⟩ := C
  obtain ⟨w1, w2, w3, w4⟩ := w
  intro H locs ls k1 k2 k3 k4 k5 k6 k7
  rw [catS_eq] at hc
  exact va_mmax hx hb (by rw [hml]; exact k5.1.symm) hown (hts _ w1) (hts _ w2) (hts _ w3) (hts _ w4) (Nat.le_trans h1 r1) (by omega) (Nat.le_trans k6 r3) (Nat.le_trans k7 r4) hd (kk H locs ls k1 k2 k3 k4 k5 k6 k7)
end SND6
