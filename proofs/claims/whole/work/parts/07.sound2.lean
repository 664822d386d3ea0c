/-! ===== the interpreter's soundness: what is around a walk ===== -/
/-- the String constants of the throws -/
def strL : List (String × Nat × String) := [("Dominofs", 45, "pips or players out of range"), ("Dominofs", 54, "tiles out of range, or no such ruling"), ("Dominofs", 60, "the set has not so many tiles"), ("Dominofs", 68, "too many houses"), ("Dominofs", 77, "no such house"), ("Dominofs", 81, "seed out of range"), ("Dominofs", 91, "too many games or entries"), ("Dominofs", 345, "no such game"), ("Dominofs", 117, "no such tile in the set"), ("Dominofs", 349, "the game is over, or there are too many entries"), ("Dominofs", 133, "not in the hand"), ("Dominofs", 144, "does not fit"), ("Dominofs", 160, "a tile fits, or none can be drawn"), ("Dominofs", 170, "a tile fits, or one can be drawn"), ("Dominofs", 175, "the game is over"), ("Dominofs", 183, "no such player"), ("Dominofs", 196, "no tile lies"), ("Dominofs", 199, "no such sign"), ("Dominofs", 209, "the game is not over"), ("Dominofs", 223, "none was refused, or no cause so deep"), ("Dominofs", 225, "no such better"), ("Dominofs", 230, "too few or too many coins"), ("Dominofs", 241, "too many bets"), ("Dominofs", 251, "no such bet"), ("Dominofs", 259, "no such ruling"), ("Dominofs", 268, "not blocked, in force already, or too many appeals"), ("Dominofs", 273, "a checkpoint since its end, or too many entries"), ("Dominofs", 347, "no such entry"), ("Dominofs", 305, "bets on a game that is not over"), ("Dominofs", 307, "too many checkpoints"), ("Dominofs", 313, "no such checkpoint"), ("Dominofs", 322, "there are no games")]
/-- words that the tables tell, but that a call doesn't carry by itself -/
def dclL : List Jvm.Cond := [.declares ⟨"Dominofs$Entry", "doOn", "(LDominofs$Table;)V"⟩, .castable "java/lang/IllegalArgumentException" "java/lang/IllegalArgumentException", .declares ⟨"java/lang/RuntimeException", "<init>", "()V"⟩, .declares ⟨"java/lang/RuntimeException", "<init>", "(Ljava/lang/String;)V"⟩, .declares ⟨"java/lang/Exception", "<init>", "()V"⟩, .declares ⟨"java/lang/Exception", "<init>", "(Ljava/lang/String;)V"⟩, .declares ⟨"java/lang/Throwable", "<init>", "()V"⟩, .declares ⟨"java/lang/Throwable", "<init>", "(Ljava/lang/String;)V"⟩, .castable "java/lang/IllegalStateException" "java/lang/IllegalStateException", .castable "java/lang/IndexOutOfBoundsException" "java/lang/IndexOutOfBoundsException", .castable "java/lang/UnsupportedOperationException" "java/lang/UnsupportedOperationException", .castable "java/util/NoSuchElementException" "java/util/NoSuchElementException", .castable "Dominofs$BlockAppealed" "Dominofs$Entry", .castable "Dominofs$CoinsBet" "Dominofs$Entry", .castable "Dominofs$GameBegun" "Dominofs$Entry", .castable "Dominofs$TileDrawn" "Dominofs$Entry", .castable "Dominofs$TileLaid" "Dominofs$Entry", .castable "Dominofs$TurnPassed" "Dominofs$Entry", .castable "Dominofs$Game" "java/lang/Object", .castable "Dominofs" "java/lang/Object", .castable "java/util/ArrayList" "java/lang/Object", .castable "Dominofs$House" "java/lang/Object", .castable "Dominofs$Table" "java/lang/Object", .castable "Dominofs$Bets" "java/lang/Object", .castable "DominofsModel" "java/lang/Object", .castable "java/lang/IllegalArgumentException" "java/lang/Object", .castable "java/lang/IllegalStateException" "java/lang/Object", .castable "java/lang/IndexOutOfBoundsException" "java/lang/Object", .castable "Dominofs$GameBegun" "java/lang/Object", .castable "java/lang/UnsupportedOperationException" "java/lang/Object", .castable "Dominofs$TileLaid" "java/lang/Object", .castable "Dominofs$TileDrawn" "java/lang/Object", .castable "Dominofs$TurnPassed" "java/lang/Object", .castable "java/util/NoSuchElementException" "java/lang/Object", .castable "Dominofs$CoinsBet" "java/lang/Object", .castable "Dominofs$BlockAppealed" "java/lang/Object", .castable "java/lang/Throwable" "java/lang/Object", .castable "java/lang/String" "java/lang/Object", .declares ⟨"java/lang/Object", "getClass", "()Ljava/lang/Class;"⟩, .castable "[I" "java/lang/Object", .castable "[LDominofs$Game;" "java/lang/Object", .castable "[B" "java/lang/Object", .castable "[Ljava/lang/Object;" "java/lang/Object", .castable "[Z" "java/lang/Object", .castable "[J" "java/lang/Object", .castable "[D" "java/lang/Object"]
def ncL : List (String × String) := [("java/lang/IllegalArgumentException", "java/lang/IndexOutOfBoundsException"), ("java/lang/IllegalStateException", "java/lang/IllegalArgumentException"), ("java/lang/IllegalStateException", "java/lang/IndexOutOfBoundsException"), ("java/lang/IllegalStateException", "java/lang/UnsupportedOperationException"), ("java/lang/UnsupportedOperationException", "java/lang/IllegalArgumentException"), ("java/lang/UnsupportedOperationException", "java/lang/IllegalStateException"), ("java/lang/UnsupportedOperationException", "java/lang/IndexOutOfBoundsException"), ("java/util/NoSuchElementException", "java/lang/IndexOutOfBoundsException")]
def dcl_ok (w : Jvm.Cond) : Bool := match w with
  | .declares _ => true
  | .castable _ _ => true
  | _ => false
/-- what holds of the world outside the cells A -/
def ZZ (E : EX) (A : Nat → Prop) (U : State) (H : Heap) : Prop :=
  vx_Zq Bundle.tN "UNASSIGNED_STACK" Bundle.steD A U H ∧ vx_Zq Bundle.tN "SUPPRESSED_SENTINEL" Bundle.listD A U H ∧
  (∀ q ∈ strL, ∃ sa, vk_R q.1 q.2.1 q.2.2 sa U) ∧
  va_Z "java/util/ArrayList" "DEFAULTCAPACITY_EMPTY_ELEMENTDATA" "[Ljava/lang/Object;" (.ref E.2.1) A U H ∧
  (∃ f, va_T (.object "java/lang/Object") E.2.1 0 f A U H) ∧ va_Mi "[Ljava/lang/Object;" E.2.2 U ∧
  (∀ w ∈ dclL, va_Nw w U) ∧ (va_X E.1.1 E.1.2.1 E.1.2.2 U H ∧ ¬ A E.1.1) ∧ (∀ q ∈ ncL, va_Nc q.1 q.2 U) ∧ va_AO "Dominofs$Game" U ∧ va_AO "java/lang/Object" U
theorem dcl_all : ∀ w ∈ dclL, dcl_ok w = true := by decide
theorem dcl_warm {w : Jvm.Cond} {s U : State} (hd : dcl_ok w = true) (hW : s.WarmedH U.vm) (h : va_Nw w s) : va_Nw w U := by
  cases w <;> first | exact va_Nw.warmD hW h | exact va_Nw.warmC hW h | (simp [dcl_ok] at hd)
theorem dcl_same {w : Jvm.Cond} {s U : State} (hd : dcl_ok w = true) (hv : s.vm = U.vm) (h : va_Nw w s) : va_Nw w U := by
  cases w <;> first | exact va_Nw.same rfl hv h | (simp [dcl_ok] at hd)
theorem ZZ.warm {E : EX} {A : Nat → Prop} {s U : State} {H : Heap} (hW : s.WarmedH U.vm) (h : ZZ E A s H) : ZZ E A U H := by
  obtain ⟨h1, h2, h3, h4, ⟨f, h5⟩, h6, h7, ⟨h8, h9⟩, h10, h11, h12⟩ := h
  refine ⟨h1.moved hW.alike, h2.moved hW.alike, fun q hq => ?_, h4.moved hW.alike, ⟨f, h5.moved hW.alike⟩, h6.moved hW.alike, fun w hw => dcl_warm (dcl_all w hw) hW (h7 w hw), ⟨h8.moved hW.alike, h9⟩, fun q hq => (h10 q hq).moved hW.alike, h11.moved hW.alike, h12.moved hW.alike⟩
  obtain ⟨sa, h⟩ := h3 q hq
  exact ⟨sa, h.warm hW⟩
theorem ZZ.same {E : EX} {A : Nat → Prop} {s U : State} {H : Heap} (hv : U.vm = s.vm) (h : ZZ E A s H) : ZZ E A U H := by
  obtain ⟨h1, h2, h3, h4, ⟨f, h5⟩, h6, h7, ⟨h8, h9⟩, h10, h11, h12⟩ := h
  have hal : s.vm.Alike U.vm := by rw [hv]; exact Vm.Alike.refl _
  refine ⟨h1.moved hal, h2.moved hal, fun q hq => ?_, h4.moved hal, ⟨f, h5.moved hal⟩, h6.moved hal, fun w hw => dcl_same (dcl_all w hw) hv.symm (h7 w hw), ⟨h8.moved hal, h9⟩, fun q hq => (h10 q hq).moved hal, h11.moved hal, h12.moved hal⟩
  obtain ⟨sa, h⟩ := h3 q hq
  exact ⟨sa, h.same hv⟩
theorem ZZ.kept {E : EX} {A : Nat → Prop} {s : State} {H H1 : Heap} (hq : ∀ a : Nat, a < H.size → ¬ A a → H1[a]? = H[a]?) (h : ZZ E A s H) : ZZ E A s H1 := by
  obtain ⟨h1, h2, h3, h4, ⟨f, h5⟩, h6, h7, ⟨h8, h9⟩, h10, h11, h12⟩ := h
  refine ⟨h1.kept hq, h2.kept hq, h3, h4.kept hq, ⟨f, h5.kept hq⟩, h6, h7, ⟨h8.kept (hq _ ?_ h9), h9⟩, h10, h11, h12⟩
  obtain ⟨scr, hs, -⟩ := h8
  exact (Array.getElem?_eq_some_iff.mp hs).1
theorem ZZ.narrow {E : EX} {A B : Nat → Prop} {s : State} {H : Heap} (hAB : ∀ q, B q → A q) (h : ZZ E A s H) : ZZ E B s H := by
  obtain ⟨h1, h2, h3, h4, ⟨f, h5⟩, h6, h7, ⟨h8, h9⟩, h10, h11, h12⟩ := h
  exact ⟨h1.narrow hAB, h2.narrow hAB, h3, h4.narrow hAB, ⟨f, h5.narrow hAB⟩, h6, h7, ⟨h8, fun z => h9 (hAB _ z)⟩, h10, h11, h12⟩
/-- what holds at a walk of the method r -/
def CX (p : Program) (l : Launch) (R : Room) (s : State) (m : MethodId) (args : Array Value) (meth : Method) (c : Code) (r : MI) (D : va_G) (tys : List (ClassId × FieldType)) (E : EX) (A : Nat → Prop) (d : Nat) : Prop :=
  p.tables.exec = Jvm.exec ∧ c.code = mB r ∧ c.maxLocals = mL r ∧ s.vm.findClass (mY r).cls = some m.cls ∧ (∀ w ∈ lw_gd, w.before args s = true) ∧ va_K D vwCl tys s ∧
  (∀ q, s.heap.size ≤ q → A q) ∧ meth.locks = false ∧ meth.name = (mY r).name ∧ (d ≤ R.frames ∧ 37 * d ≤ R.locals ∧ mC r ≤ R.cells ∧ mS r ≤ R.slots) ∧ ZZ E A s s.heap ∧ l.flags = flags0 ∧
  c.exceptionTable.toList = tableOf ((mH r).map fun q => (q.1, q.2.1, q.2.2.1, q.2.2.2.1)) ∧ (∃ cs : List ClassId, tys = [(cs.getD 0 0, .int), (cs.getD 1 0, .boolean), (cs.getD 2 0, .object "Dominofs$Game"), (cs.getD 3 0, .object "java/lang/Object"), (cs.getD 4 0, .long), (cs.getD 5 0, .double)])
/-- the machine goes on well from this frame, whatever heap holds h -/
def XS (p : Program) (l : Launch) (e : Env) (R : Room) (s : State) (m : MethodId) (args : Array Value) (below : List Frame) (meth : Method) (c : Code) (Qg : State → Prop) (D : va_G) (tys : List (ClassId × FieldType)) (A : Nat → Prop) (r : MI) : AST := fun pc L S h sz nc ns =>
  ∀ (H : Heap) (locs : List Loc) (ls : Array Slot), hrl D tys h H → H.size = sz → (∀ q x, h q = some x → A q) → va_S A s.heap H locs → LH ls (mL r) L → nc ≤ mC r → ns ≤ mS r → W p l e R s m args below meth c H locs nc ns Qg (F0 m pc ls S)
theorem lays_in {ws : List Jvm.Cond} (ps : List Nat) (h : ((ps.map fun i => tables_1[i]?) = ws.map some ∧ ws.all goodWord = true)) : ∀ w ∈ ws, w ∈ lw_gd := by
  intro w hw
  obtain ⟨h1, h2⟩ := h
  have h3 : some w ∈ ws.map some := List.mem_map.mpr ⟨w, hw, rfl⟩
  rw [← h1] at h3
  obtain ⟨i, -, hi⟩ := List.mem_map.mp h3
  exact gd_t i hi (List.all_eq_true.mp h2 w hw)
section SND
variable {p : Program} {l : Launch} {e : Env} {R : Room} {s : State} {m : MethodId} {args : Array Value} {below : List Frame} {meth : Method} {c : Code} {Qg : State → Prop} {D : va_G} {tys : List (ClassId × FieldType)} {A : Nat → Prop} {r : MI} {E : EX} {d : Nat}
variable {pc : Nat} {L : LV} {S : List Value} {h : AH} {sz nc ns : Nat}
theorem sx_null (C : CX p l R s m args meth c r D tys E A d) (hd : decode (mB r) pc = .ok (.aconst_null, 1)) (k : XS p l e R s m args below meth c Qg D tys A r (pc + 1) L (.null :: S) h sz nc ns) : XS p l e R s m args below meth c Qg D tys A r pc L S h sz nc ns := by
  obtain ⟨hx, hb, -⟩ := C
  intro H locs ls k1 k2 k3 k4 k5 k6 k7
  exact lv_null hx hb hd (k H locs ls k1 k2 k3 k4 k5 k6 k7)
theorem sx_aload (C : CX p l R s m args meth c r D tys E A d) {x : Nat} {v : Value} (hd : decode (mB r) pc = .ok (.aload x, 2)) (hv : gl L x = some v) (hr : v = .null ∨ ∃ a, v = .ref a) (k : XS p l e R s m args below meth c Qg D tys A r (pc + 2) L (v :: S) h sz nc ns) : XS p l e R s m args below meth c Qg D tys A r pc L S h sz nc ns := by
  obtain ⟨hx, hb, -⟩ := C
  intro H locs ls k1 k2 k3 k4 k5 k6 k7
  rcases hr with rfl | ⟨a, rfl⟩
  · exact lv_aloadN hx hb hd (k5.2.2 _ _ hv) (k H locs ls k1 k2 k3 k4 k5 k6 k7)
  · exact lv_aload hx hb hd (k5.2.2 _ _ hv) (k H locs ls k1 k2 k3 k4 k5 k6 k7)
theorem sx_aload_n (C : CX p l R s m args meth c r D tys E A d) {x : Nat} {q : Fin 4} {v : Value} (hd : decode (mB r) pc = .ok (.aload_n q, 1)) (hq : (q : Nat) = x) (hv : gl L x = some v) (hr : v = .null ∨ ∃ a, v = .ref a) (k : XS p l e R s m args below meth c Qg D tys A r (pc + 1) L (v :: S) h sz nc ns) : XS p l e R s m args below meth c Qg D tys A r pc L S h sz nc ns := by
  obtain ⟨hx, hb, -⟩ := C
  intro H locs ls k1 k2 k3 k4 k5 k6 k7
  rcases hr with rfl | ⟨a, rfl⟩
  · exact lv_aload_nN hx hb hd hq (k5.2.2 _ _ hv) (k H locs ls k1 k2 k3 k4 k5 k6 k7)
  · exact lv_aload_n hx hb hd hq (k5.2.2 _ _ hv) (k H locs ls k1 k2 k3 k4 k5 k6 k7)
theorem sx_iload (C : CX p l R s m args meth c r D tys E A d) {x : Nat} {v : Int32} (hd : decode (mB r) pc = .ok (.iload x, 2)) (hv : gl L x = some (.int v)) (k : XS p l e R s m args below meth c Qg D tys A r (pc + 2) (L) (.int v :: S) h sz nc ns) : XS p l e R s m args below meth c Qg D tys A r (pc) (L) (S) h sz nc ns := by
  obtain ⟨hx, hb, -⟩ := C
  intro H locs ls k1 k2 k3 k4 k5 k6 k7
  exact lv_iload hx hb hd (k5.2.2 _ _ hv) (k H locs ls k1 k2 k3 k4 k5 k6 k7)
theorem sx_iload_n (C : CX p l R s m args meth c r D tys E A d) {x : Nat} {q : Fin 4} {v : Int32} (hd : decode (mB r) pc = .ok (.iload_n q, 1)) (hq : (q : Nat) = x) (hv : gl L x = some (.int v)) (k : XS p l e R s m args below meth c Qg D tys A r (pc + 1) (L) (.int v :: S) h sz nc ns) : XS p l e R s m args below meth c Qg D tys A r (pc) (L) (S) h sz nc ns := by
  obtain ⟨hx, hb, -⟩ := C
  intro H locs ls k1 k2 k3 k4 k5 k6 k7
  exact lv_iload_n hx hb hd hq (k5.2.2 _ _ hv) (k H locs ls k1 k2 k3 k4 k5 k6 k7)
theorem sx_lload (C : CX p l R s m args meth c r D tys E A d) {x : Nat} {v : Int64} (hd : decode (mB r) pc = .ok (.lload x, 2)) (hv : gl L x = some (.long v)) (k : XS p l e R s m args below meth c Qg D tys A r (pc + 2) (L) (.long v :: S) h sz nc ns) : XS p l e R s m args below meth c Qg D tys A r (pc) (L) (S) h sz nc ns := by
  obtain ⟨hx, hb, -⟩ := C
  intro H locs ls k1 k2 k3 k4 k5 k6 k7
  exact lv_lload hx hb hd (k5.2.2 _ _ hv) (k H locs ls k1 k2 k3 k4 k5 k6 k7)
theorem sx_lload_n (C : CX p l R s m args meth c r D tys E A d) {x : Nat} {q : Fin 4} {v : Int64} (hd : decode (mB r) pc = .ok (.lload_n q, 1)) (hq : (q : Nat) = x) (hv : gl L x = some (.long v)) (k : XS p l e R s m args below meth c Qg D tys A r (pc + 1) (L) (.long v :: S) h sz nc ns) : XS p l e R s m args below meth c Qg D tys A r (pc) (L) (S) h sz nc ns := by
  obtain ⟨hx, hb, -⟩ := C
  intro H locs ls k1 k2 k3 k4 k5 k6 k7
  exact lv_lload_n hx hb hd hq (k5.2.2 _ _ hv) (k H locs ls k1 k2 k3 k4 k5 k6 k7)
theorem sx_fload (C : CX p l R s m args meth c r D tys E A d) {x : Nat} {v : UInt32} (hd : decode (mB r) pc = .ok (.fload x, 2)) (hv : gl L x = some (.float v)) (k : XS p l e R s m args below meth c Qg D tys A r (pc + 2) (L) (.float v :: S) h sz nc ns) : XS p l e R s m args below meth c Qg D tys A r (pc) (L) (S) h sz nc ns := by
  obtain ⟨hx, hb, -⟩ := C
  intro H locs ls k1 k2 k3 k4 k5 k6 k7
  exact lv_fload hx hb hd (k5.2.2 _ _ hv) (k H locs ls k1 k2 k3 k4 k5 k6 k7)
theorem sx_fload_n (C : CX p l R s m args meth c r D tys E A d) {x : Nat} {q : Fin 4} {v : UInt32} (hd : decode (mB r) pc = .ok (.fload_n q, 1)) (hq : (q : Nat) = x) (hv : gl L x = some (.float v)) (k : XS p l e R s m args below meth c Qg D tys A r (pc + 1) (L) (.float v :: S) h sz nc ns) : XS p l e R s m args below meth c Qg D tys A r (pc) (L) (S) h sz nc ns := by
  obtain ⟨hx, hb, -⟩ := C
  intro H locs ls k1 k2 k3 k4 k5 k6 k7
  exact lv_fload_n hx hb hd hq (k5.2.2 _ _ hv) (k H locs ls k1 k2 k3 k4 k5 k6 k7)
theorem sx_dload (C : CX p l R s m args meth c r D tys E A d) {x : Nat} {v : UInt64} (hd : decode (mB r) pc = .ok (.dload x, 2)) (hv : gl L x = some (.double v)) (k : XS p l e R s m args below meth c Qg D tys A r (pc + 2) (L) (.double v :: S) h sz nc ns) : XS p l e R s m args below meth c Qg D tys A r (pc) (L) (S) h sz nc ns := by
  obtain ⟨hx, hb, -⟩ := C
  intro H locs ls k1 k2 k3 k4 k5 k6 k7
  exact lv_dload hx hb hd (k5.2.2 _ _ hv) (k H locs ls k1 k2 k3 k4 k5 k6 k7)
theorem sx_dload_n (C : CX p l R s m args meth c r D tys E A d) {x : Nat} {q : Fin 4} {v : UInt64} (hd : decode (mB r) pc = .ok (.dload_n q, 1)) (hq : (q : Nat) = x) (hv : gl L x = some (.double v)) (k : XS p l e R s m args below meth c Qg D tys A r (pc + 1) (L) (.double v :: S) h sz nc ns) : XS p l e R s m args below meth c Qg D tys A r (pc) (L) (S) h sz nc ns := by
  obtain ⟨hx, hb, -⟩ := C
  intro H locs ls k1 k2 k3 k4 k5 k6 k7
  exact lv_dload_n hx hb hd hq (k5.2.2 _ _ hv) (k H locs ls k1 k2 k3 k4 k5 k6 k7)
theorem sx_istore (C : CX p l R s m args meth c r D tys E A d) {x : Nat} {v : Int32} (hd : decode (mB r) pc = .ok (.istore x, 2)) (hn : x < mL r) (k : XS p l e R s m args below meth c Qg D tys A r (pc + 2) (stl x (.int v) L) (S) h sz nc ns) : XS p l e R s m args below meth c Qg D tys A r (pc) (L) (.int v :: S) h sz nc ns := by
  obtain ⟨hx, hb, -⟩ := C
  intro H locs ls k1 k2 k3 k4 k5 k6 k7
  exact lv_istore hx hb hd k5.has hn rfl (fun ls hl => k H locs ls k1 k2 k3 k4 (LH.st1 hl) k6 k7)
theorem sx_istore_n (C : CX p l R s m args meth c r D tys E A d) {x : Nat} {q : Fin 4} {v : Int32} (hd : decode (mB r) pc = .ok (.istore_n q, 1)) (hq : (q : Nat) = x) (hn : x < mL r) (k : XS p l e R s m args below meth c Qg D tys A r (pc + 1) (stl x (.int v) L) (S) h sz nc ns) : XS p l e R s m args below meth c Qg D tys A r (pc) (L) (.int v :: S) h sz nc ns := by
  obtain ⟨hx, hb, -⟩ := C
  intro H locs ls k1 k2 k3 k4 k5 k6 k7
  exact lv_istore_n hx hb hd hq k5.has hn rfl (fun ls hl => k H locs ls k1 k2 k3 k4 (LH.st1 hl) k6 k7)
theorem sx_lstore (C : CX p l R s m args meth c r D tys E A d) {x : Nat} {v : Int64} (hd : decode (mB r) pc = .ok (.lstore x, 2)) (hn : x + 1 < mL r) (k : XS p l e R s m args below meth c Qg D tys A r (pc + 2) (stl2 x (.long v) L) (S) h sz nc ns) : XS p l e R s m args below meth c Qg D tys A r (pc) (L) (.long v :: S) h sz nc ns := by
  obtain ⟨hx, hb, -⟩ := C
  intro H locs ls k1 k2 k3 k4 k5 k6 k7
  exact lv_lstore hx hb hd k5.has hn rfl (fun ls hl => k H locs ls k1 k2 k3 k4 (LH.st2 hl) k6 k7)
theorem sx_lstore_n (C : CX p l R s m args meth c r D tys E A d) {x : Nat} {q : Fin 4} {v : Int64} (hd : decode (mB r) pc = .ok (.lstore_n q, 1)) (hq : (q : Nat) = x) (hn : x + 1 < mL r) (k : XS p l e R s m args below meth c Qg D tys A r (pc + 1) (stl2 x (.long v) L) (S) h sz nc ns) : XS p l e R s m args below meth c Qg D tys A r (pc) (L) (.long v :: S) h sz nc ns := by
  obtain ⟨hx, hb, -⟩ := C
  intro H locs ls k1 k2 k3 k4 k5 k6 k7
  exact lv_lstore_n hx hb hd hq k5.has hn rfl (fun ls hl => k H locs ls k1 k2 k3 k4 (LH.st2 hl) k6 k7)
theorem sx_fstore (C : CX p l R s m args meth c r D tys E A d) {x : Nat} {v : UInt32} (hd : decode (mB r) pc = .ok (.fstore x, 2)) (hn : x < mL r) (k : XS p l e R s m args below meth c Qg D tys A r (pc + 2) (stl x (.float v) L) (S) h sz nc ns) : XS p l e R s m args below meth c Qg D tys A r (pc) (L) (.float v :: S) h sz nc ns := by
  obtain ⟨hx, hb, -⟩ := C
  intro H locs ls k1 k2 k3 k4 k5 k6 k7
  exact lv_fstore hx hb hd k5.has hn rfl (fun ls hl => k H locs ls k1 k2 k3 k4 (LH.st1 hl) k6 k7)
theorem sx_fstore_n (C : CX p l R s m args meth c r D tys E A d) {x : Nat} {q : Fin 4} {v : UInt32} (hd : decode (mB r) pc = .ok (.fstore_n q, 1)) (hq : (q : Nat) = x) (hn : x < mL r) (k : XS p l e R s m args below meth c Qg D tys A r (pc + 1) (stl x (.float v) L) (S) h sz nc ns) : XS p l e R s m args below meth c Qg D tys A r (pc) (L) (.float v :: S) h sz nc ns := by
  obtain ⟨hx, hb, -⟩ := C
  intro H locs ls k1 k2 k3 k4 k5 k6 k7
  exact lv_fstore_n hx hb hd hq k5.has hn rfl (fun ls hl => k H locs ls k1 k2 k3 k4 (LH.st1 hl) k6 k7)
theorem sx_dstore (C : CX p l R s m args meth c r D tys E A d) {x : Nat} {v : UInt64} (hd : decode (mB r) pc = .ok (.dstore x, 2)) (hn : x + 1 < mL r) (k : XS p l e R s m args below meth c Qg D tys A r (pc + 2) (stl2 x (.double v) L) (S) h sz nc ns) : XS p l e R s m args below meth c Qg D tys A r (pc) (L) (.double v :: S) h sz nc ns := by
  obtain ⟨hx, hb, -⟩ := C
  intro H locs ls k1 k2 k3 k4 k5 k6 k7
  exact lv_dstore hx hb hd k5.has hn rfl (fun ls hl => k H locs ls k1 k2 k3 k4 (LH.st2 hl) k6 k7)
theorem sx_dstore_n (C : CX p l R s m args meth c r D tys E A d) {x : Nat} {q : Fin 4} {v : UInt64} (hd : decode (mB r) pc = .ok (.dstore_n q, 1)) (hq : (q : Nat) = x) (hn : x + 1 < mL r) (k : XS p l e R s m args below meth c Qg D tys A r (pc + 1) (stl2 x (.double v) L) (S) h sz nc ns) : XS p l e R s m args below meth c Qg D tys A r (pc) (L) (.double v :: S) h sz nc ns := by
  obtain ⟨hx, hb, -⟩ := C
  intro H locs ls k1 k2 k3 k4 k5 k6 k7
  exact lv_dstore_n hx hb hd hq k5.has hn rfl (fun ls hl => k H locs ls k1 k2 k3 k4 (LH.st2 hl) k6 k7)
theorem sx_astore (C : CX p l R s m args meth c r D tys E A d) {x : Nat} {v : Value} (hd : decode (mB r) pc = .ok (.astore x, 2)) (hn : x < mL r) (hr : v = .null ∨ ∃ a, v = .ref a) (k : XS p l e R s m args below meth c Qg D tys A r (pc + 2) (stl x v L) S h sz nc ns) : XS p l e R s m args below meth c Qg D tys A r pc L (v :: S) h sz nc ns := by
  obtain ⟨hx, hb, -⟩ := C
  intro H locs ls k1 k2 k3 k4 k5 k6 k7
  rcases hr with rfl | ⟨a, rfl⟩
  · exact lv_astoreN hx hb hd k5.has hn rfl (fun ls hl => k H locs ls k1 k2 k3 k4 (LH.st1 hl) k6 k7)
  · exact lv_astore hx hb hd k5.has hn rfl (fun ls hl => k H locs ls k1 k2 k3 k4 (LH.st1 hl) k6 k7)
theorem sx_astore_n (C : CX p l R s m args meth c r D tys E A d) {x : Nat} {q : Fin 4} {v : Value} (hd : decode (mB r) pc = .ok (.astore_n q, 1)) (hq : (q : Nat) = x) (hn : x < mL r) (hr : v = .null ∨ ∃ a, v = .ref a) (k : XS p l e R s m args below meth c Qg D tys A r (pc + 1) (stl x v L) S h sz nc ns) : XS p l e R s m args below meth c Qg D tys A r pc L (v :: S) h sz nc ns := by
  obtain ⟨hx, hb, -⟩ := C
  intro H locs ls k1 k2 k3 k4 k5 k6 k7
  rcases hr with rfl | ⟨a, rfl⟩
  · exact lv_astore_nN hx hb hd hq k5.has hn rfl (fun ls hl => k H locs ls k1 k2 k3 k4 (LH.st1 hl) k6 k7)
  · exact lv_astore_n hx hb hd hq k5.has hn rfl (fun ls hl => k H locs ls k1 k2 k3 k4 (LH.st1 hl) k6 k7)
theorem sx_iinc (C : CX p l R s m args meth c r D tys E A d) {x : Nat} {n : Int} {v w : Int32} (hd : decode (mB r) pc = .ok (.iinc x n, 3)) (hn : x < mL r) (hv : gl L x = some (.int v)) (hw : v + Int32.ofInt n = w) (k : XS p l e R s m args below meth c Qg D tys A r (pc + 3) (stl x (.int w) L) S h sz nc ns) : XS p l e R s m args below meth c Qg D tys A r pc L S h sz nc ns := by
  obtain ⟨hx, hb, -⟩ := C
  intro H locs ls k1 k2 k3 k4 k5 k6 k7
  obtain ⟨j, hj⟩ := List.getElem?_of_mem (mem_pl.mpr ⟨x, (Nat.zero_add x).symm, hv⟩)
  exact lv_iinc hx hb hd k5.has hj hw hn rfl (fun ls hl => k H locs ls k1 k2 k3 k4 (LH.st1 hl) k6 k7)
theorem sx_iconst (C : CX p l R s m args meth c r D tys E A d) {n : Int} {v : Int32} (hd : decode (mB r) pc = .ok (.iconst n, 1)) (hv : Int32.ofInt n = v) (k : XS p l e R s m args below meth c Qg D tys A r (pc + 1) (L) (.int v :: S) h sz nc ns) : XS p l e R s m args below meth c Qg D tys A r (pc) (L) (S) h sz nc ns := by
  obtain ⟨hx, hb, -, hown, hts, -⟩ := C
  intro H locs ls k1 k2 k3 k4 k5 k6 k7
  exact lv_iconst hx hb  hd hv (k H locs ls k1 k2 k3 k4 k5 k6 k7)
theorem sx_bipush (C : CX p l R s m args meth c r D tys E A d) {n : Int} {v : Int32} (hd : decode (mB r) pc = .ok (.bipush n, 2)) (hv : (Int8.ofInt n).toInt32 = v) (k : XS p l e R s m args below meth c Qg D tys A r (pc + 2) (L) (.int v :: S) h sz nc ns) : XS p l e R s m args below meth c Qg D tys A r (pc) (L) (S) h sz nc ns := by
  obtain ⟨hx, hb, -, hown, hts, -⟩ := C
  intro H locs ls k1 k2 k3 k4 k5 k6 k7
  exact lv_bipush hx hb  hd hv (k H locs ls k1 k2 k3 k4 k5 k6 k7)
theorem sx_sipush (C : CX p l R s m args meth c r D tys E A d) {n : Int} {v : Int32} (hd : decode (mB r) pc = .ok (.sipush n, 3)) (hv : (Int16.ofInt n).toInt32 = v) (k : XS p l e R s m args below meth c Qg D tys A r (pc + 3) (L) (.int v :: S) h sz nc ns) : XS p l e R s m args below meth c Qg D tys A r (pc) (L) (S) h sz nc ns := by
  obtain ⟨hx, hb, -, hown, hts, -⟩ := C
  intro H locs ls k1 k2 k3 k4 k5 k6 k7
  exact lv_sipush hx hb  hd hv (k H locs ls k1 k2 k3 k4 k5 k6 k7)
theorem sx_lconst (C : CX p l R s m args meth c r D tys E A d) {n : Fin 2} {v : Int64} (hd : decode (mB r) pc = .ok (.lconst n, 1)) (hv : Int64.ofNat (n : Nat) = v) (k : XS p l e R s m args below meth c Qg D tys A r (pc + 1) (L) (.long v :: S) h sz nc ns) : XS p l e R s m args below meth c Qg D tys A r (pc) (L) (S) h sz nc ns := by
  obtain ⟨hx, hb, -, hown, hts, -⟩ := C
  intro H locs ls k1 k2 k3 k4 k5 k6 k7
  exact lv_lconst hx hb  hd hv (k H locs ls k1 k2 k3 k4 k5 k6 k7)
theorem sx_fconst0 (C : CX p l R s m args meth c r D tys E A d)  (hd : decode (mB r) pc = .ok (.fconst 0, 1))  (k : XS p l e R s m args below meth c Qg D tys A r (pc + 1) (L) (.float FP.fconst0 :: S) h sz nc ns) : XS p l e R s m args below meth c Qg D tys A r (pc) (L) (S) h sz nc ns := by
  obtain ⟨hx, hb, -, hown, hts, -⟩ := C
  intro H locs ls k1 k2 k3 k4 k5 k6 k7
  exact lv_fconst0 hx hb  hd  (k H locs ls k1 k2 k3 k4 k5 k6 k7)
theorem sx_ldc (C : CX p l R s m args meth c r D tys E A d) {idx : Nat} {v : Int32} (hd : decode (mB r) pc = .ok (.ldc idx, 2)) (hw : Jvm.Cond.constant (mY r).cls idx v ∈ lw_gd) (k : XS p l e R s m args below meth c Qg D tys A r (pc + 2) (L) (.int v :: S) h sz nc ns) : XS p l e R s m args below meth c Qg D tys A r (pc) (L) (S) h sz nc ns := by
  obtain ⟨hx, hb, -, hown, hts, -⟩ := C
  intro H locs ls k1 k2 k3 k4 k5 k6 k7
  exact lv_ldc hx hb hown (hts _ hw) hd  (k H locs ls k1 k2 k3 k4 k5 k6 k7)
theorem sx_ldcw (C : CX p l R s m args meth c r D tys E A d) {idx : Nat} {v : Int32} (hd : decode (mB r) pc = .ok (.ldc_w idx, 3)) (hw : Jvm.Cond.constant (mY r).cls idx v ∈ lw_gd) (k : XS p l e R s m args below meth c Qg D tys A r (pc + 3) (L) (.int v :: S) h sz nc ns) : XS p l e R s m args below meth c Qg D tys A r (pc) (L) (S) h sz nc ns := by
  obtain ⟨hx, hb, -, hown, hts, -⟩ := C
  intro H locs ls k1 k2 k3 k4 k5 k6 k7
  exact lv_ldcw hx hb hown (hts _ hw) hd  (k H locs ls k1 k2 k3 k4 k5 k6 k7)
theorem sx_ldc2 (C : CX p l R s m args meth c r D tys E A d) {idx : Nat} {v : Int64} (hd : decode (mB r) pc = .ok (.ldc2_w idx, 3)) (hw : Jvm.Cond.constantLong (mY r).cls idx v ∈ lw_gd) (k : XS p l e R s m args below meth c Qg D tys A r (pc + 3) (L) (.long v :: S) h sz nc ns) : XS p l e R s m args below meth c Qg D tys A r (pc) (L) (S) h sz nc ns := by
  obtain ⟨hx, hb, -, hown, hts, -⟩ := C
  intro H locs ls k1 k2 k3 k4 k5 k6 k7
  exact lv_ldc2 hx hb hown (hts _ hw) hd  (k H locs ls k1 k2 k3 k4 k5 k6 k7)
theorem sx_ldc2d (C : CX p l R s m args meth c r D tys E A d) {idx : Nat} {v : UInt64} (hd : decode (mB r) pc = .ok (.ldc2_w idx, 3)) (hw : Jvm.Cond.constantDouble (mY r).cls idx v ∈ lw_gd) (k : XS p l e R s m args below meth c Qg D tys A r (pc + 3) (L) (.double v :: S) h sz nc ns) : XS p l e R s m args below meth c Qg D tys A r (pc) (L) (S) h sz nc ns := by
  obtain ⟨hx, hb, -, hown, hts, -⟩ := C
  intro H locs ls k1 k2 k3 k4 k5 k6 k7
  exact lv_ldc2d hx hb hown (hts _ hw) hd  (k H locs ls k1 k2 k3 k4 k5 k6 k7)
theorem sx_dup (C : CX p l R s m args meth c r D tys E A d) {v : Value} (hd : decode (mB r) pc = .ok (.dup, 1)) (hv : isw (some v) = false) (k : XS p l e R s m args below meth c Qg D tys A r (pc + 1) (L) (v :: v :: S) h sz nc ns) : XS p l e R s m args below meth c Qg D tys A r (pc) (L) (v :: S) h sz nc ns := by
  obtain ⟨hx, hb, -, hown, hts, -⟩ := C
  intro H locs ls k1 k2 k3 k4 k5 k6 k7
  exact lv_dup hx hb  hd (isw_cat1 hv) (k H locs ls k1 k2 k3 k4 k5 k6 k7)
theorem sx_pop (C : CX p l R s m args meth c r D tys E A d) {v : Value} (hd : decode (mB r) pc = .ok (.pop, 1)) (hv : isw (some v) = false) (k : XS p l e R s m args below meth c Qg D tys A r (pc + 1) (L) (S) h sz nc ns) : XS p l e R s m args below meth c Qg D tys A r (pc) (L) (v :: S) h sz nc ns := by
  obtain ⟨hx, hb, -, hown, hts, -⟩ := C
  intro H locs ls k1 k2 k3 k4 k5 k6 k7
  exact lv_pop hx hb  hd (isw_cat1 hv) (k H locs ls k1 k2 k3 k4 k5 k6 k7)
theorem sx_dup_x1 (C : CX p l R s m args meth c r D tys E A d) {v w : Value} (hd : decode (mB r) pc = .ok (.dup_x1, 1)) (hv : isw (some v) = false) (hw : isw (some w) = false) (k : XS p l e R s m args below meth c Qg D tys A r (pc + 1) (L) (v :: w :: v :: S) h sz nc ns) : XS p l e R s m args below meth c Qg D tys A r (pc) (L) (v :: w :: S) h sz nc ns := by
  obtain ⟨hx, hb, -, hown, hts, -⟩ := C
  intro H locs ls k1 k2 k3 k4 k5 k6 k7
  exact lv_dup_x1 hx hb  hd (isw_cat1 hv) (isw_cat1 hw) (k H locs ls k1 k2 k3 k4 k5 k6 k7)
theorem sx_dup2_11 (C : CX p l R s m args meth c r D tys E A d) {v w : Value} (hd : decode (mB r) pc = .ok (.dup2, 1)) (hv : isw (some v) = false) (hw : isw (some w) = false) (k : XS p l e R s m args below meth c Qg D tys A r (pc + 1) (L) (v :: w :: v :: w :: S) h sz nc ns) : XS p l e R s m args below meth c Qg D tys A r (pc) (L) (v :: w :: S) h sz nc ns := by
  obtain ⟨hx, hb, -, hown, hts, -⟩ := C
  intro H locs ls k1 k2 k3 k4 k5 k6 k7
  exact lv_dup2_11 hx hb  hd (isw_cat1 hv) (isw_cat1 hw) (k H locs ls k1 k2 k3 k4 k5 k6 k7)
theorem sx_iadd (C : CX p l R s m args meth c r D tys E A d) {a b : Int32} (hd : decode (mB r) pc = .ok (.iadd, 1))  (k : XS p l e R s m args below meth c Qg D tys A r (pc + 1) (L) (.int (a + b) :: S) h sz nc ns) : XS p l e R s m args below meth c Qg D tys A r (pc) (L) (.int b :: .int a :: S) h sz nc ns := by
  obtain ⟨hx, hb, -, hown, hts, -⟩ := C
  intro H locs ls k1 k2 k3 k4 k5 k6 k7
  exact lv_iadd hx hb  hd  (k H locs ls k1 k2 k3 k4 k5 k6 k7)
theorem sx_isub (C : CX p l R s m args meth c r D tys E A d) {a b : Int32} (hd : decode (mB r) pc = .ok (.isub, 1))  (k : XS p l e R s m args below meth c Qg D tys A r (pc + 1) (L) (.int (a - b) :: S) h sz nc ns) : XS p l e R s m args below meth c Qg D tys A r (pc) (L) (.int b :: .int a :: S) h sz nc ns := by
  obtain ⟨hx, hb, -, hown, hts, -⟩ := C
  intro H locs ls k1 k2 k3 k4 k5 k6 k7
  exact lv_isub hx hb  hd  (k H locs ls k1 k2 k3 k4 k5 k6 k7)
theorem sx_imul (C : CX p l R s m args meth c r D tys E A d) {a b : Int32} (hd : decode (mB r) pc = .ok (.imul, 1))  (k : XS p l e R s m args below meth c Qg D tys A r (pc + 1) (L) (.int (a * b) :: S) h sz nc ns) : XS p l e R s m args below meth c Qg D tys A r (pc) (L) (.int b :: .int a :: S) h sz nc ns := by
  obtain ⟨hx, hb, -, hown, hts, -⟩ := C
  intro H locs ls k1 k2 k3 k4 k5 k6 k7
  exact lv_imul hx hb  hd  (k H locs ls k1 k2 k3 k4 k5 k6 k7)
theorem sx_ishl (C : CX p l R s m args meth c r D tys E A d) {a b : Int32} (hd : decode (mB r) pc = .ok (.ishl, 1))  (k : XS p l e R s m args below meth c Qg D tys A r (pc + 1) (L) (.int (a <<< (b &&& 31)) :: S) h sz nc ns) : XS p l e R s m args below meth c Qg D tys A r (pc) (L) (.int b :: .int a :: S) h sz nc ns := by
  obtain ⟨hx, hb, -, hown, hts, -⟩ := C
  intro H locs ls k1 k2 k3 k4 k5 k6 k7
  exact lv_ishl hx hb  hd  (k H locs ls k1 k2 k3 k4 k5 k6 k7)
theorem sx_ishr (C : CX p l R s m args meth c r D tys E A d) {a b : Int32} (hd : decode (mB r) pc = .ok (.ishr, 1))  (k : XS p l e R s m args below meth c Qg D tys A r (pc + 1) (L) (.int (a >>> (b &&& 31)) :: S) h sz nc ns) : XS p l e R s m args below meth c Qg D tys A r (pc) (L) (.int b :: .int a :: S) h sz nc ns := by
  obtain ⟨hx, hb, -, hown, hts, -⟩ := C
  intro H locs ls k1 k2 k3 k4 k5 k6 k7
  exact lv_ishr hx hb  hd  (k H locs ls k1 k2 k3 k4 k5 k6 k7)
theorem sx_iand (C : CX p l R s m args meth c r D tys E A d) {a b : Int32} (hd : decode (mB r) pc = .ok (.iand, 1))  (k : XS p l e R s m args below meth c Qg D tys A r (pc + 1) (L) (.int (a &&& b) :: S) h sz nc ns) : XS p l e R s m args below meth c Qg D tys A r (pc) (L) (.int b :: .int a :: S) h sz nc ns := by
  obtain ⟨hx, hb, -, hown, hts, -⟩ := C
  intro H locs ls k1 k2 k3 k4 k5 k6 k7
  exact lv_iand hx hb  hd  (k H locs ls k1 k2 k3 k4 k5 k6 k7)
theorem sx_ior (C : CX p l R s m args meth c r D tys E A d) {a b : Int32} (hd : decode (mB r) pc = .ok (.ior, 1))  (k : XS p l e R s m args below meth c Qg D tys A r (pc + 1) (L) (.int (a ||| b) :: S) h sz nc ns) : XS p l e R s m args below meth c Qg D tys A r (pc) (L) (.int b :: .int a :: S) h sz nc ns := by
  obtain ⟨hx, hb, -, hown, hts, -⟩ := C
  intro H locs ls k1 k2 k3 k4 k5 k6 k7
  exact lv_ior hx hb  hd  (k H locs ls k1 k2 k3 k4 k5 k6 k7)
theorem sx_ixor (C : CX p l R s m args meth c r D tys E A d) {a b : Int32} (hd : decode (mB r) pc = .ok (.ixor, 1))  (k : XS p l e R s m args below meth c Qg D tys A r (pc + 1) (L) (.int (a ^^^ b) :: S) h sz nc ns) : XS p l e R s m args below meth c Qg D tys A r (pc) (L) (.int b :: .int a :: S) h sz nc ns := by
  obtain ⟨hx, hb, -, hown, hts, -⟩ := C
  intro H locs ls k1 k2 k3 k4 k5 k6 k7
  exact lv_ixor hx hb  hd  (k H locs ls k1 k2 k3 k4 k5 k6 k7)
theorem sx_idiv (C : CX p l R s m args meth c r D tys E A d) {a b : Int32} (hd : decode (mB r) pc = .ok (.idiv, 1)) (hv : ¬ b = 0) (k : XS p l e R s m args below meth c Qg D tys A r (pc + 1) (L) (.int (a / b) :: S) h sz nc ns) : XS p l e R s m args below meth c Qg D tys A r (pc) (L) (.int b :: .int a :: S) h sz nc ns := by
  obtain ⟨hx, hb, -, hown, hts, -⟩ := C
  intro H locs ls k1 k2 k3 k4 k5 k6 k7
  exact lv_idiv hx hb  hd hv (k H locs ls k1 k2 k3 k4 k5 k6 k7)
theorem sx_irem (C : CX p l R s m args meth c r D tys E A d) {a b : Int32} (hd : decode (mB r) pc = .ok (.irem, 1)) (hv : ¬ b = 0) (k : XS p l e R s m args below meth c Qg D tys A r (pc + 1) (L) (.int (a - a / b * b) :: S) h sz nc ns) : XS p l e R s m args below meth c Qg D tys A r (pc) (L) (.int b :: .int a :: S) h sz nc ns := by
  obtain ⟨hx, hb, -, hown, hts, -⟩ := C
  intro H locs ls k1 k2 k3 k4 k5 k6 k7
  exact lv_irem hx hb  hd hv (k H locs ls k1 k2 k3 k4 k5 k6 k7)
theorem sx_iushr (C : CX p l R s m args meth c r D tys E A d) {a b : Int32} (hd : decode (mB r) pc = .ok (.iushr, 1))  (k : XS p l e R s m args below meth c Qg D tys A r (pc + 1) (L) (.int (a.toUInt32 >>> (b.toUInt32 &&& Int32.toUInt32 31)).toInt32 :: S) h sz nc ns) : XS p l e R s m args below meth c Qg D tys A r (pc) (L) (.int b :: .int a :: S) h sz nc ns := by
  obtain ⟨hx, hb, -, hown, hts, -⟩ := C
  intro H locs ls k1 k2 k3 k4 k5 k6 k7
  exact lv_iushr hx hb  hd rfl (k H locs ls k1 k2 k3 k4 k5 k6 k7)
theorem sx_ineg (C : CX p l R s m args meth c r D tys E A d) {a : Int32} (hd : decode (mB r) pc = .ok (.ineg, 1))  (k : XS p l e R s m args below meth c Qg D tys A r (pc + 1) (L) (.int (-a) :: S) h sz nc ns) : XS p l e R s m args below meth c Qg D tys A r (pc) (L) (.int a :: S) h sz nc ns := by
  obtain ⟨hx, hb, -, hown, hts, -⟩ := C
  intro H locs ls k1 k2 k3 k4 k5 k6 k7
  exact lv_ineg hx hb  hd  (k H locs ls k1 k2 k3 k4 k5 k6 k7)
theorem sx_ladd (C : CX p l R s m args meth c r D tys E A d) {a b : Int64} (hd : decode (mB r) pc = .ok (.ladd, 1))  (k : XS p l e R s m args below meth c Qg D tys A r (pc + 1) (L) (.long (a + b) :: S) h sz nc ns) : XS p l e R s m args below meth c Qg D tys A r (pc) (L) (.long b :: .long a :: S) h sz nc ns := by
  obtain ⟨hx, hb, -, hown, hts, -⟩ := C
  intro H locs ls k1 k2 k3 k4 k5 k6 k7
  exact lv_ladd hx hb  hd  (k H locs ls k1 k2 k3 k4 k5 k6 k7)
theorem sx_lmul (C : CX p l R s m args meth c r D tys E A d) {a b : Int64} (hd : decode (mB r) pc = .ok (.lmul, 1))  (k : XS p l e R s m args below meth c Qg D tys A r (pc + 1) (L) (.long (a * b) :: S) h sz nc ns) : XS p l e R s m args below meth c Qg D tys A r (pc) (L) (.long b :: .long a :: S) h sz nc ns := by
  obtain ⟨hx, hb, -, hown, hts, -⟩ := C
  intro H locs ls k1 k2 k3 k4 k5 k6 k7
  exact lv_lmul hx hb  hd  (k H locs ls k1 k2 k3 k4 k5 k6 k7)
theorem sx_ldiv (C : CX p l R s m args meth c r D tys E A d) {a b : Int64} (hd : decode (mB r) pc = .ok (.ldiv, 1)) (hv : ¬ b = 0) (k : XS p l e R s m args below meth c Qg D tys A r (pc + 1) (L) (.long (a / b) :: S) h sz nc ns) : XS p l e R s m args below meth c Qg D tys A r (pc) (L) (.long b :: .long a :: S) h sz nc ns := by
  obtain ⟨hx, hb, -, hown, hts, -⟩ := C
  intro H locs ls k1 k2 k3 k4 k5 k6 k7
  exact lv_ldiv hx hb  hd hv (k H locs ls k1 k2 k3 k4 k5 k6 k7)
theorem sx_lrem (C : CX p l R s m args meth c r D tys E A d) {a b : Int64} (hd : decode (mB r) pc = .ok (.lrem, 1)) (hv : ¬ b = 0) (k : XS p l e R s m args below meth c Qg D tys A r (pc + 1) (L) (.long (a - a / b * b) :: S) h sz nc ns) : XS p l e R s m args below meth c Qg D tys A r (pc) (L) (.long b :: .long a :: S) h sz nc ns := by
  obtain ⟨hx, hb, -, hown, hts, -⟩ := C
  intro H locs ls k1 k2 k3 k4 k5 k6 k7
  exact lv_lrem hx hb  hd hv (k H locs ls k1 k2 k3 k4 k5 k6 k7)
theorem sx_lcmp (C : CX p l R s m args meth c r D tys E A d) {a b : Int64} (hd : decode (mB r) pc = .ok (.lcmp, 1))  (k : XS p l e R s m args below meth c Qg D tys A r (pc + 1) (L) (.int (lg_cmp a b) :: S) h sz nc ns) : XS p l e R s m args below meth c Qg D tys A r (pc) (L) (.long b :: .long a :: S) h sz nc ns := by
  obtain ⟨hx, hb, -, hown, hts, -⟩ := C
  intro H locs ls k1 k2 k3 k4 k5 k6 k7
  exact W.lcmp hx hb  hd  (k H locs ls k1 k2 k3 k4 k5 k6 k7)
theorem sx_i2l (C : CX p l R s m args meth c r D tys E A d) {a : Int32} (hd : decode (mB r) pc = .ok (.i2l, 1))  (k : XS p l e R s m args below meth c Qg D tys A r (pc + 1) (L) (.long a.toInt64 :: S) h sz nc ns) : XS p l e R s m args below meth c Qg D tys A r (pc) (L) (.int a :: S) h sz nc ns := by
  obtain ⟨hx, hb, -, hown, hts, -⟩ := C
  intro H locs ls k1 k2 k3 k4 k5 k6 k7
  exact lv_i2l hx hb  hd rfl (k H locs ls k1 k2 k3 k4 k5 k6 k7)
theorem sx_l2i (C : CX p l R s m args meth c r D tys E A d) {a : Int64} (hd : decode (mB r) pc = .ok (.l2i, 1))  (k : XS p l e R s m args below meth c Qg D tys A r (pc + 1) (L) (.int a.toInt32 :: S) h sz nc ns) : XS p l e R s m args below meth c Qg D tys A r (pc) (L) (.long a :: S) h sz nc ns := by
  obtain ⟨hx, hb, -, hown, hts, -⟩ := C
  intro H locs ls k1 k2 k3 k4 k5 k6 k7
  exact lv_l2i hx hb  hd rfl (k H locs ls k1 k2 k3 k4 k5 k6 k7)
theorem sx_i2c (C : CX p l R s m args meth c r D tys E A d) {a : Int32} (hd : decode (mB r) pc = .ok (.i2c, 1))  (k : XS p l e R s m args below meth c Qg D tys A r (pc + 1) (L) (.int (a.toUInt32 % 65536).toInt32 :: S) h sz nc ns) : XS p l e R s m args below meth c Qg D tys A r (pc) (L) (.int a :: S) h sz nc ns := by
  obtain ⟨hx, hb, -, hown, hts, -⟩ := C
  intro H locs ls k1 k2 k3 k4 k5 k6 k7
  exact lv_i2c hx hb  hd rfl (k H locs ls k1 k2 k3 k4 k5 k6 k7)
theorem sx_i2f (C : CX p l R s m args meth c r D tys E A d) {a : Int32} (hd : decode (mB r) pc = .ok (.i2f, 1))  (k : XS p l e R s m args below meth c Qg D tys A r (pc + 1) (L) (.float (FP.i2f a) :: S) h sz nc ns) : XS p l e R s m args below meth c Qg D tys A r (pc) (L) (.int a :: S) h sz nc ns := by
  obtain ⟨hx, hb, -, hown, hts, -⟩ := C
  intro H locs ls k1 k2 k3 k4 k5 k6 k7
  exact lv_i2f hx hb  hd  (k H locs ls k1 k2 k3 k4 k5 k6 k7)
theorem sx_i2d (C : CX p l R s m args meth c r D tys E A d) {a : Int32} (hd : decode (mB r) pc = .ok (.i2d, 1))  (k : XS p l e R s m args below meth c Qg D tys A r (pc + 1) (L) (.double (FP.i2d a) :: S) h sz nc ns) : XS p l e R s m args below meth c Qg D tys A r (pc) (L) (.int a :: S) h sz nc ns := by
  obtain ⟨hx, hb, -, hown, hts, -⟩ := C
  intro H locs ls k1 k2 k3 k4 k5 k6 k7
  exact lv_i2d hx hb  hd  (k H locs ls k1 k2 k3 k4 k5 k6 k7)
theorem sx_f2d (C : CX p l R s m args meth c r D tys E A d) {a : UInt32} (hd : decode (mB r) pc = .ok (.f2d, 1)) (hv : vf_n64 (FP.f2d a)) (k : XS p l e R s m args below meth c Qg D tys A r (pc + 1) (L) (.double (FP.f2d a) :: S) h sz nc ns) : XS p l e R s m args below meth c Qg D tys A r (pc) (L) (.float a :: S) h sz nc ns := by
  obtain ⟨hx, hb, -, hown, hts, -⟩ := C
  intro H locs ls k1 k2 k3 k4 k5 k6 k7
  exact lv_f2d hx hb  hd hv (k H locs ls k1 k2 k3 k4 k5 k6 k7)
theorem sx_fdiv (C : CX p l R s m args meth c r D tys E A d) {a b : UInt32} (hd : decode (mB r) pc = .ok (.fdiv, 1)) (hv : vf_n32 (FP.fdiv a b)) (k : XS p l e R s m args below meth c Qg D tys A r (pc + 1) (L) (.float (FP.fdiv a b) :: S) h sz nc ns) : XS p l e R s m args below meth c Qg D tys A r (pc) (L) (.float b :: .float a :: S) h sz nc ns := by
  obtain ⟨hx, hb, -, hown, hts, -⟩ := C
  intro H locs ls k1 k2 k3 k4 k5 k6 k7
  exact lv_fdiv hx hb  hd hv (k H locs ls k1 k2 k3 k4 k5 k6 k7)
theorem sx_ddiv (C : CX p l R s m args meth c r D tys E A d) {a b : UInt64} (hd : decode (mB r) pc = .ok (.ddiv, 1)) (hv : vf_n64 (FP.ddiv a b)) (k : XS p l e R s m args below meth c Qg D tys A r (pc + 1) (L) (.double (FP.ddiv a b) :: S) h sz nc ns) : XS p l e R s m args below meth c Qg D tys A r (pc) (L) (.double b :: .double a :: S) h sz nc ns := by
  obtain ⟨hx, hb, -, hown, hts, -⟩ := C
  intro H locs ls k1 k2 k3 k4 k5 k6 k7
  exact lv_ddiv hx hb  hd hv (k H locs ls k1 k2 k3 k4 k5 k6 k7)
theorem sx_fcmp (C : CX p l R s m args meth c r D tys E A d) {a b : UInt32} {op : CmpOp} (hd : decode (mB r) pc = .ok (.fcmp op, 1))  (k : XS p l e R s m args below meth c Qg D tys A r (pc + 1) (L) (.int (Op.cmpValue (FP.fcmp a b) op) :: S) h sz nc ns) : XS p l e R s m args below meth c Qg D tys A r (pc) (L) (.float b :: .float a :: S) h sz nc ns := by
  obtain ⟨hx, hb, -, hown, hts, -⟩ := C
  intro H locs ls k1 k2 k3 k4 k5 k6 k7
  exact lv_fcmp hx hb  hd  (k H locs ls k1 k2 k3 k4 k5 k6 k7)
theorem sx_dcmp (C : CX p l R s m args meth c r D tys E A d) {a b : UInt64} {op : CmpOp} (hd : decode (mB r) pc = .ok (.dcmp op, 1))  (k : XS p l e R s m args below meth c Qg D tys A r (pc + 1) (L) (.int (Op.cmpValue (FP.dcmp a b) op) :: S) h sz nc ns) : XS p l e R s m args below meth c Qg D tys A r (pc) (L) (.double b :: .double a :: S) h sz nc ns := by
  obtain ⟨hx, hb, -, hown, hts, -⟩ := C
  intro H locs ls k1 k2 k3 k4 k5 k6 k7
  exact lv_dcmp hx hb  hd  (k H locs ls k1 k2 k3 k4 k5 k6 k7)
theorem sx_if_eq (C : CX p l R s m args meth c r D tys E A d) {off : Int} {tgt : Nat} {a : Int32} (hd : decode (mB r) pc = .ok (.ifCond .eq off, 3)) (ht : (pc : Int) + off = (tgt : Int)) (kt : cnd .eq a 0 → XS p l e R s m args below meth c Qg D tys A r (tgt) (L) (S) h sz nc ns) (kf : ¬ cnd .eq a 0 → XS p l e R s m args below meth c Qg D tys A r (pc + 3) (L) (S) h sz nc ns) : XS p l e R s m args below meth c Qg D tys A r (pc) (L) (.int a :: S) h sz nc ns := by
  obtain ⟨hx, hb, -⟩ := C
  intro H locs ls k1 k2 k3 k4 k5 k6 k7
  exact lv_if_eq hx hb hd ht (fun q => kt q H locs ls k1 k2 k3 k4 k5 k6 k7) (fun q => kf q H locs ls k1 k2 k3 k4 k5 k6 k7)
theorem sx_icmp_eq (C : CX p l R s m args meth c r D tys E A d) {off : Int} {tgt : Nat} {a b : Int32} (hd : decode (mB r) pc = .ok (.if_icmp .eq off, 3)) (ht : (pc : Int) + off = (tgt : Int)) (kt : cnd .eq a b → XS p l e R s m args below meth c Qg D tys A r (tgt) (L) (S) h sz nc ns) (kf : ¬ cnd .eq a b → XS p l e R s m args below meth c Qg D tys A r (pc + 3) (L) (S) h sz nc ns) : XS p l e R s m args below meth c Qg D tys A r (pc) (L) (.int b :: .int a :: S) h sz nc ns := by
  obtain ⟨hx, hb, -⟩ := C
  intro H locs ls k1 k2 k3 k4 k5 k6 k7
  exact lv_icmp_eq hx hb hd ht (fun q => kt q H locs ls k1 k2 k3 k4 k5 k6 k7) (fun q => kf q H locs ls k1 k2 k3 k4 k5 k6 k7)
theorem sx_if_ne (C : CX p l R s m args meth c r D tys E A d) {off : Int} {tgt : Nat} {a : Int32} (hd : decode (mB r) pc = .ok (.ifCond .ne off, 3)) (ht : (pc : Int) + off = (tgt : Int)) (kt : cnd .ne a 0 → XS p l e R s m args below meth c Qg D tys A r (tgt) (L) (S) h sz nc ns) (kf : ¬ cnd .ne a 0 → XS p l e R s m args below meth c Qg D tys A r (pc + 3) (L) (S) h sz nc ns) : XS p l e R s m args below meth c Qg D tys A r (pc) (L) (.int a :: S) h sz nc ns := by
  obtain ⟨hx, hb, -⟩ := C
  intro H locs ls k1 k2 k3 k4 k5 k6 k7
  exact lv_if_ne hx hb hd ht (fun q => kt q H locs ls k1 k2 k3 k4 k5 k6 k7) (fun q => kf (fun z => z q) H locs ls k1 k2 k3 k4 k5 k6 k7)
theorem sx_icmp_ne (C : CX p l R s m args meth c r D tys E A d) {off : Int} {tgt : Nat} {a b : Int32} (hd : decode (mB r) pc = .ok (.if_icmp .ne off, 3)) (ht : (pc : Int) + off = (tgt : Int)) (kt : cnd .ne a b → XS p l e R s m args below meth c Qg D tys A r (tgt) (L) (S) h sz nc ns) (kf : ¬ cnd .ne a b → XS p l e R s m args below meth c Qg D tys A r (pc + 3) (L) (S) h sz nc ns) : XS p l e R s m args below meth c Qg D tys A r (pc) (L) (.int b :: .int a :: S) h sz nc ns := by
  obtain ⟨hx, hb, -⟩ := C
  intro H locs ls k1 k2 k3 k4 k5 k6 k7
  exact lv_icmp_ne hx hb hd ht (fun q => kt q H locs ls k1 k2 k3 k4 k5 k6 k7) (fun q => kf (fun z => z q) H locs ls k1 k2 k3 k4 k5 k6 k7)
theorem sx_if_lt (C : CX p l R s m args meth c r D tys E A d) {off : Int} {tgt : Nat} {a : Int32} (hd : decode (mB r) pc = .ok (.ifCond .lt off, 3)) (ht : (pc : Int) + off = (tgt : Int)) (kt : cnd .lt a 0 → XS p l e R s m args below meth c Qg D tys A r (tgt) (L) (S) h sz nc ns) (kf : ¬ cnd .lt a 0 → XS p l e R s m args below meth c Qg D tys A r (pc + 3) (L) (S) h sz nc ns) : XS p l e R s m args below meth c Qg D tys A r (pc) (L) (.int a :: S) h sz nc ns := by
  obtain ⟨hx, hb, -⟩ := C
  intro H locs ls k1 k2 k3 k4 k5 k6 k7
  exact lv_if_lt hx hb hd ht (fun q => kt q H locs ls k1 k2 k3 k4 k5 k6 k7) (fun q => kf q H locs ls k1 k2 k3 k4 k5 k6 k7)
theorem sx_icmp_lt (C : CX p l R s m args meth c r D tys E A d) {off : Int} {tgt : Nat} {a b : Int32} (hd : decode (mB r) pc = .ok (.if_icmp .lt off, 3)) (ht : (pc : Int) + off = (tgt : Int)) (kt : cnd .lt a b → XS p l e R s m args below meth c Qg D tys A r (tgt) (L) (S) h sz nc ns) (kf : ¬ cnd .lt a b → XS p l e R s m args below meth c Qg D tys A r (pc + 3) (L) (S) h sz nc ns) : XS p l e R s m args below meth c Qg D tys A r (pc) (L) (.int b :: .int a :: S) h sz nc ns := by
  obtain ⟨hx, hb, -⟩ := C
  intro H locs ls k1 k2 k3 k4 k5 k6 k7
  exact lv_icmp_lt hx hb hd ht (fun q => kt q H locs ls k1 k2 k3 k4 k5 k6 k7) (fun q => kf q H locs ls k1 k2 k3 k4 k5 k6 k7)
theorem sx_if_ge (C : CX p l R s m args meth c r D tys E A d) {off : Int} {tgt : Nat} {a : Int32} (hd : decode (mB r) pc = .ok (.ifCond .ge off, 3)) (ht : (pc : Int) + off = (tgt : Int)) (kt : cnd .ge a 0 → XS p l e R s m args below meth c Qg D tys A r (tgt) (L) (S) h sz nc ns) (kf : ¬ cnd .ge a 0 → XS p l e R s m args below meth c Qg D tys A r (pc + 3) (L) (S) h sz nc ns) : XS p l e R s m args below meth c Qg D tys A r (pc) (L) (.int a :: S) h sz nc ns := by
  obtain ⟨hx, hb, -⟩ := C
  intro H locs ls k1 k2 k3 k4 k5 k6 k7
  exact lv_if_ge hx hb hd ht (fun q => kt q H locs ls k1 k2 k3 k4 k5 k6 k7) (fun q => kf q H locs ls k1 k2 k3 k4 k5 k6 k7)
theorem sx_icmp_ge (C : CX p l R s m args meth c r D tys E A d) {off : Int} {tgt : Nat} {a b : Int32} (hd : decode (mB r) pc = .ok (.if_icmp .ge off, 3)) (ht : (pc : Int) + off = (tgt : Int)) (kt : cnd .ge a b → XS p l e R s m args below meth c Qg D tys A r (tgt) (L) (S) h sz nc ns) (kf : ¬ cnd .ge a b → XS p l e R s m args below meth c Qg D tys A r (pc + 3) (L) (S) h sz nc ns) : XS p l e R s m args below meth c Qg D tys A r (pc) (L) (.int b :: .int a :: S) h sz nc ns := by
  obtain ⟨hx, hb, -⟩ := C
  intro H locs ls k1 k2 k3 k4 k5 k6 k7
  exact lv_icmp_ge hx hb hd ht (fun q => kt q H locs ls k1 k2 k3 k4 k5 k6 k7) (fun q => kf q H locs ls k1 k2 k3 k4 k5 k6 k7)
theorem sx_if_gt (C : CX p l R s m args meth c r D tys E A d) {off : Int} {tgt : Nat} {a : Int32} (hd : decode (mB r) pc = .ok (.ifCond .gt off, 3)) (ht : (pc : Int) + off = (tgt : Int)) (kt : cnd .gt a 0 → XS p l e R s m args below meth c Qg D tys A r (tgt) (L) (S) h sz nc ns) (kf : ¬ cnd .gt a 0 → XS p l e R s m args below meth c Qg D tys A r (pc + 3) (L) (S) h sz nc ns) : XS p l e R s m args below meth c Qg D tys A r (pc) (L) (.int a :: S) h sz nc ns := by
  obtain ⟨hx, hb, -⟩ := C
  intro H locs ls k1 k2 k3 k4 k5 k6 k7
  exact lv_if_gt hx hb hd ht (fun q => kt q H locs ls k1 k2 k3 k4 k5 k6 k7) (fun q => kf q H locs ls k1 k2 k3 k4 k5 k6 k7)
theorem sx_icmp_gt (C : CX p l R s m args meth c r D tys E A d) {off : Int} {tgt : Nat} {a b : Int32} (hd : decode (mB r) pc = .ok (.if_icmp .gt off, 3)) (ht : (pc : Int) + off = (tgt : Int)) (kt : cnd .gt a b → XS p l e R s m args below meth c Qg D tys A r (tgt) (L) (S) h sz nc ns) (kf : ¬ cnd .gt a b → XS p l e R s m args below meth c Qg D tys A r (pc + 3) (L) (S) h sz nc ns) : XS p l e R s m args below meth c Qg D tys A r (pc) (L) (.int b :: .int a :: S) h sz nc ns := by
  obtain ⟨hx, hb, -⟩ := C
  intro H locs ls k1 k2 k3 k4 k5 k6 k7
  exact lv_icmp_gt hx hb hd ht (fun q => kt q H locs ls k1 k2 k3 k4 k5 k6 k7) (fun q => kf q H locs ls k1 k2 k3 k4 k5 k6 k7)
theorem sx_if_le (C : CX p l R s m args meth c r D tys E A d) {off : Int} {tgt : Nat} {a : Int32} (hd : decode (mB r) pc = .ok (.ifCond .le off, 3)) (ht : (pc : Int) + off = (tgt : Int)) (kt : cnd .le a 0 → XS p l e R s m args below meth c Qg D tys A r (tgt) (L) (S) h sz nc ns) (kf : ¬ cnd .le a 0 → XS p l e R s m args below meth c Qg D tys A r (pc + 3) (L) (S) h sz nc ns) : XS p l e R s m args below meth c Qg D tys A r (pc) (L) (.int a :: S) h sz nc ns := by
  obtain ⟨hx, hb, -⟩ := C
  intro H locs ls k1 k2 k3 k4 k5 k6 k7
  exact lv_if_le hx hb hd ht (fun q => kt q H locs ls k1 k2 k3 k4 k5 k6 k7) (fun q => kf q H locs ls k1 k2 k3 k4 k5 k6 k7)
theorem sx_icmp_le (C : CX p l R s m args meth c r D tys E A d) {off : Int} {tgt : Nat} {a b : Int32} (hd : decode (mB r) pc = .ok (.if_icmp .le off, 3)) (ht : (pc : Int) + off = (tgt : Int)) (kt : cnd .le a b → XS p l e R s m args below meth c Qg D tys A r (tgt) (L) (S) h sz nc ns) (kf : ¬ cnd .le a b → XS p l e R s m args below meth c Qg D tys A r (pc + 3) (L) (S) h sz nc ns) : XS p l e R s m args below meth c Qg D tys A r (pc) (L) (.int b :: .int a :: S) h sz nc ns := by
  obtain ⟨hx, hb, -⟩ := C
  intro H locs ls k1 k2 k3 k4 k5 k6 k7
  exact lv_icmp_le hx hb hd ht (fun q => kt q H locs ls k1 k2 k3 k4 k5 k6 k7) (fun q => kf q H locs ls k1 k2 k3 k4 k5 k6 k7)
theorem sx_goto (C : CX p l R s m args meth c r D tys E A d) {off : Int} {tgt : Nat} (hd : decode (mB r) pc = .ok (.goto off, 3)) (ht : (pc : Int) + off = (tgt : Int)) (k : XS p l e R s m args below meth c Qg D tys A r (tgt) (L) (S) h sz nc ns) : XS p l e R s m args below meth c Qg D tys A r (pc) (L) (S) h sz nc ns := by
  obtain ⟨hx, hb, -⟩ := C
  intro H locs ls k1 k2 k3 k4 k5 k6 k7
  exact lv_goto hx hb hd ht (k H locs ls k1 k2 k3 k4 k5 k6 k7)
theorem sx_ifnull_r (C : CX p l R s m args meth c r D tys E A d) {off : Int} {tgt a : Nat} (hd : decode (mB r) pc = .ok (.ifnull off, 3))  (k : XS p l e R s m args below meth c Qg D tys A r (pc + 3) (L) (S) h sz nc ns) : XS p l e R s m args below meth c Qg D tys A r (pc) (L) (.ref a :: S) h sz nc ns := by
  obtain ⟨hx, hb, -⟩ := C
  intro H locs ls k1 k2 k3 k4 k5 k6 k7
  exact lv_ifnull hx hb hd  (k H locs ls k1 k2 k3 k4 k5 k6 k7)
theorem sx_ifnull_n (C : CX p l R s m args meth c r D tys E A d) {off : Int} {tgt a : Nat} (hd : decode (mB r) pc = .ok (.ifnull off, 3)) (ht : (pc : Int) + off = (tgt : Int)) (k : XS p l e R s m args below meth c Qg D tys A r (tgt) (L) (S) h sz nc ns) : XS p l e R s m args below meth c Qg D tys A r (pc) (L) (.null :: S) h sz nc ns := by
  obtain ⟨hx, hb, -⟩ := C
  intro H locs ls k1 k2 k3 k4 k5 k6 k7
  exact lv_ifnullN hx hb hd ht (k H locs ls k1 k2 k3 k4 k5 k6 k7)
theorem sx_ifnonnull_r (C : CX p l R s m args meth c r D tys E A d) {off : Int} {tgt a : Nat} (hd : decode (mB r) pc = .ok (.ifnonnull off, 3)) (ht : (pc : Int) + off = (tgt : Int)) (k : XS p l e R s m args below meth c Qg D tys A r (tgt) (L) (S) h sz nc ns) : XS p l e R s m args below meth c Qg D tys A r (pc) (L) (.ref a :: S) h sz nc ns := by
  obtain ⟨hx, hb, -⟩ := C
  intro H locs ls k1 k2 k3 k4 k5 k6 k7
  exact lv_ifnonnull hx hb hd ht (k H locs ls k1 k2 k3 k4 k5 k6 k7)
theorem sx_ifnonnull_n (C : CX p l R s m args meth c r D tys E A d) {off : Int} {tgt a : Nat} (hd : decode (mB r) pc = .ok (.ifnonnull off, 3))  (k : XS p l e R s m args below meth c Qg D tys A r (pc + 3) (L) (S) h sz nc ns) : XS p l e R s m args below meth c Qg D tys A r (pc) (L) (.null :: S) h sz nc ns := by
  obtain ⟨hx, hb, -⟩ := C
  intro H locs ls k1 k2 k3 k4 k5 k6 k7
  exact lv_ifnonnullN hx hb hd  (k H locs ls k1 k2 k3 k4 k5 k6 k7)
theorem sx_acmp_eq (C : CX p l R s m args meth c r D tys E A d) {off : Int} {tgt a b : Nat} (hd : decode (mB r) pc = .ok (.if_acmp .eq off, 3)) (ht : (pc : Int) + off = (tgt : Int)) (kt : a = b → XS p l e R s m args below meth c Qg D tys A r tgt L S h sz nc ns) (kf : ¬ a = b → XS p l e R s m args below meth c Qg D tys A r (pc + 3) L S h sz nc ns) : XS p l e R s m args below meth c Qg D tys A r pc L (.ref b :: .ref a :: S) h sz nc ns := by
  obtain ⟨hx, hb, -⟩ := C
  intro H locs ls k1 k2 k3 k4 k5 k6 k7
  exact lv_acmp_eq (rx := some a) (ry := some b) hx hb hd ht (fun q => kt (Option.some.inj q) H locs ls k1 k2 k3 k4 k5 k6 k7) (fun q => kf (fun z => q (by rw [z])) H locs ls k1 k2 k3 k4 k5 k6 k7)
theorem sx_acmp_ne (C : CX p l R s m args meth c r D tys E A d) {off : Int} {tgt a b : Nat} (hd : decode (mB r) pc = .ok (.if_acmp .ne off, 3)) (ht : (pc : Int) + off = (tgt : Int)) (kt : ¬ a = b → XS p l e R s m args below meth c Qg D tys A r tgt L S h sz nc ns) (kf : a = b → XS p l e R s m args below meth c Qg D tys A r (pc + 3) L S h sz nc ns) : XS p l e R s m args below meth c Qg D tys A r pc L (.ref b :: .ref a :: S) h sz nc ns := by
  obtain ⟨hx, hb, -⟩ := C
  intro H locs ls k1 k2 k3 k4 k5 k6 k7
  exact lv_acmp_ne (rx := some a) (ry := some b) hx hb hd ht (fun q => kt (fun z => q (by rw [z])) H locs ls k1 k2 k3 k4 k5 k6 k7) (fun q => kf (Option.some.inj q) H locs ls k1 k2 k3 k4 k5 k6 k7)
theorem sx_table (C : CX p l R s m args meth c r D tys E A d) {df lo hi : Int} {os : Array Int} {len : Nat} {a : Int32} (hd : decode (mB r) pc = .ok (.tableswitch df lo hi os, len)) (hin : ∀ x : Int, ¬ x < lo → ¬ hi < x → ∃ off, os[(x - lo).toNat]? = some off ∧ 0 ≤ (pc : Int) + off) (hdf : 0 ≤ (pc : Int) + df) (k : XS p l e R s m args below meth c Qg D tys A r (tsw pc df lo hi os a) L S h sz nc ns) : XS p l e R s m args below meth c Qg D tys A r pc L (.int a :: S) h sz nc ns := by
  obtain ⟨hx, hb, -⟩ := C
  intro H locs ls k1 k2 k3 k4 k5 k6 k7
  by_cases hc : a.toInt < lo ∨ hi < a.toInt
  · have ht : tsw pc df lo hi os a = ((pc : Int) + df).toNat := by unfold tsw; rw [if_pos hc]
    rw [ht] at k
    exact lv_tableOut hx hb hd hc (by omega) (k H locs ls k1 k2 k3 k4 k5 k6 k7)
  · obtain ⟨off, ho, h0⟩ := hin a.toInt (fun q => hc (Or.inl q)) (fun q => hc (Or.inr q))
    have ht : tsw pc df lo hi os a = ((pc : Int) + off).toNat := by unfold tsw; rw [if_neg hc, ho]; rfl
    rw [ht] at k
    exact lv_tableIn hx hb hd (fun q => hc (Or.inl q)) (fun q => hc (Or.inr q)) ho (by omega) (k H locs ls k1 k2 k3 k4 k5 k6 k7)
/-- a field by the link of an instruction: k of each class that cc stands for -/
def FK (own : String) (idx cc k : Nat) : Prop := ∀ (ci : Nat) (rr : vw_C), subc cc ci = true → vwCl[ci]? = some rr → k < rr.2.2 ∧ ∃ ref, Jvm.Cond.fieldLink own idx ref (rr.2.1 k).2.1 (rr.2.1 k).2.2.1 ∈ lw_gd ∧ (ref = (rr.2.1 k).1 ∨ Jvm.Cond.sameField ref (rr.2.1 k).1 (rr.2.1 k).2.1 (rr.2.1 k).2.2.1 ∈ lw_gd)
theorem FK.at {own : String} {idx cc k ci : Nat} {rr : vw_C} (hF : FK own idx cc k) (hs : subc cc ci = true) (hr : vwCl[ci]? = some rr) (hts : ∀ w ∈ lw_gd, w.before args s = true) : k < rr.2.2 ∧ ∃ ref, (Jvm.Cond.fieldLink own idx ref (rr.2.1 k).2.1 (rr.2.1 k).2.2.1).before args s = true ∧ ∀ x, s.fieldFound? (rr.2.1 k).1 (rr.2.1 k).2.1 (rr.2.1 k).2.2.1 = some x → s.fieldFound? ref (rr.2.1 k).2.1 (rr.2.1 k).2.2.1 = some x := by
  obtain ⟨hk, ref, h1, h2⟩ := hF ci rr hs hr
  refine ⟨hk, ref, hts _ h1, fun x hx => ?_⟩
  rcases h2 with h2 | h2
  · rw [h2]; exact hx
  · exact u_same (hts _ h2) x hx
theorem cl_in : ∀ (ci : Nat) (rr : vw_C), vwCl[ci]? = some rr → ∀ w ∈ u_ws rr.1 rr.2.1 rr.2.2, w ∈ lw_gd := by
  intro ci rr h
  have key : ∀ q ∈ vwCl, ∀ w ∈ u_ws q.1 q.2.1 q.2.2, w ∈ lw_gd := by
    simp only [vwCl, List.forall_mem_cons]
    refine ⟨lays_in [63, 59, 61] (by decide +kernel),
      lays_in [139, 141, 143, 145, 147, 149] (by decide +kernel),
      lays_in [1096, 1097, 1094] (by decide +kernel),
      lays_in [1047, 1048, 1041, 1043, 1045] (by decide +kernel),
      lays_in [177, 179, 181, 183, 185, 187, 189, 191, 193, 195, 197, 199, 201, 203] (by decide +kernel),
      lays_in [787, 789, 783, 785] (by decide +kernel),
      lays_in [90, 92, 94, 96, 98, 100, 102, 104, 106] (by decide +kernel),
      lays_in [214, 216, 218, 220, 222] (by decide +kernel),
      lays_in [893, 894] (by decide +kernel),
      lays_in [867, 868, 863, 865] (by decide +kernel),
      lays_in [910, 911] (by decide +kernel),
      lays_in [235, 237, 239, 241, 243, 245, 247, 249, 251, 253] (by decide +kernel),
      lays_in [1212, 1214, 1216, 1218, 1220, 1222, 1224, 1226, 1228, 1230, 1232, 1234, 1236, 1238, 1240, 1242, 1244, 1246, 1248, 1250, 1252, 1254, 1256, 1258, 1260, 1262, 1264, 1266, 1268, 1270, 1272, 1274, 1276, 1278, 1280, 1282, 1284, 1286, 1288, 1290, 1292] (by decide +kernel), fun q hq => nomatch hq⟩
  exact key rr (List.mem_of_getElem? h)
theorem sx_getf (C : CX p l R s m args meth c r D tys E A d) {idx cc k ci a : Nat} {fs : List Value} (hd : decode (mB r) pc = .ok (.getfield idx, 3)) (hF : FK (mY r).cls idx cc k) (ha : h a = some (.inr (ci, fs))) (hs : subc cc ci = true) (kk : XS p l e R s m args below meth c Qg D tys A r (pc + 3) L (nf fs k :: S) h sz nc ns) : XS p l e R s m args below meth c Qg D tys A r pc L (.ref a :: S) h sz nc ns := by
  obtain ⟨hx, hb, -, hown, hts, hK, -⟩ := C
  intro H locs ls k1 k2 k3 k4 k5 k6 k7
  obtain ⟨rr, hr, cell, q1, q2, q3, q4⟩ := k1 a _ ha
  obtain ⟨hk, ref, hlink, hsame⟩ := hF.at hs hr hts
  obtain ⟨hS, hfc, kC, hkC, hkind⟩ := hK.1 ci _ hr
  obtain ⟨cf, kf, fi, f, hi, hsl⟩ := hS k hk
  refine W.getf hx hb hown hlink (hsame _ hi) (u_facts hfc hkC (u_lays hts (cl_in ci rr hr) hk) hi).1 q1 (by rw [q3]; exact fun h => by cases h) (v := nf fs k) ?_ rfl rfl hd (kk H locs ls k1 k2 k3 k4 k5 k6 k7)
  rw [hsl, q4 k hk, nf_eq]
/-- .. and how it may be written -/
def FP (r : MI) (idx cc k t : Nat) : Prop := FK (mY r).cls idx cc k ∧ ∀ (ci : Nat) (rr : vw_C), subc cc ci = true → vwCl[ci]? = some rr → (∀ v, vok t v → narrow (tyF ci k) v = v ∧ fits (tyF ci k) v = true) ∧ ((rr.2.1 k).2.2.2 = false ∨ ((mY r).name = "<init>" ∧ (rr.2.1 k).1 = (mY r).cls))
theorem ty_ok : ∀ (ci : Nat) (rr : vw_C), vwCl[ci]? = some rr → (∀ k, k < rr.2.2 → parseFieldDescriptor (rr.2.1 k).2.2.1 = some (tyF ci k)) ∧ (∀ a, a < rr.2.2 → ∀ b, b < rr.2.2 → a ≠ b → (rr.2.1 a).2.1 ≠ (rr.2.1 b).2.1) := by
  intro ci rr h
  match ci, h with
  | 0, h => cases h; exact ⟨tyJx4a65c_ok, nmJx4a65c⟩
  | 1, h => cases h; exact ⟨tyX0_ok, nmX0⟩
  | 2, h => cases h; exact ⟨tyX1_ok, nmX1⟩
  | 3, h => cases h; exact ⟨tyX2_ok, nmX2⟩
  | 4, h => cases h; exact ⟨tyX4_ok, nmX4⟩
  | 5, h => cases h; exact ⟨tyX5_ok, nmX5⟩
  | 6, h => cases h; exact ⟨tyX6_ok, nmX6⟩
  | 7, h => cases h; exact ⟨tyX7_ok, nmX7⟩
  | 8, h => cases h; exact ⟨tyX8_ok, nmX8⟩
  | 9, h => cases h; exact ⟨tyX9_ok, nmX9⟩
  | 10, h => cases h; exact ⟨tyX10_ok, nmX10⟩
  | 11, h => cases h; exact ⟨tyX11_ok, nmX11⟩
  | 12, h => cases h; exact ⟨tyX12_ok, nmX12⟩
  | ci + 13, h => cases h
theorem sx_putf (C : CX p l R s m args meth c r D tys E A d) {idx cc k t ci a : Nat} {fs : List Value} {v : Value} (hd : decode (mB r) pc = .ok (.putfield idx, 3)) (hF : FP r idx cc k t) (ha : h a = some (.inr (ci, fs))) (hs : subc cc ci = true) (hl : lnb fs k = true) (hv : vok t v) (kk : XS p l e R s m args below meth c Qg D tys A r (pc + 3) L S (hup h a (.inr (ci, pf fs k v))) sz nc ns) : XS p l e R s m args below meth c Qg D tys A r pc L (v :: .ref a :: S) h sz nc ns := by
  obtain ⟨hx, hb, -, hown, hts, hK, -, -, hnm, -⟩ := C
  intro H locs ls k1 k2 k3 k4 k5 k6 k7
  have h1 := k1 a _ ha
  have hlt := h1.lt
  obtain ⟨rr, hr, cell, q1, q2, q3, q4⟩ := h1
  obtain ⟨hk, ref, hlink, hsame⟩ := hF.1.at hs hr hts
  obtain ⟨hS, hfc, kC, hkC, hkind⟩ := hK.1 ci _ hr
  obtain ⟨cf, kf, fi, f, hi, hsl⟩ := hS k hk
  obtain ⟨hty, hnmm⟩ := ty_ok ci rr hr
  have hap := va_apart (own := (mY r).cls) hts (cl_in ci rr hr) (tyF ci) hty hnmm hK hr
  obtain ⟨hvo, hfin⟩ := hF.2 ci rr hs hr
  obtain ⟨hnar, hfit⟩ := hvo v hv
  have hst := (u_facts hfc hkC (u_lays hts (cl_in ci rr hr) hk) hi).1
  have fin : ∀ H' : Heap, H'[a]? = some (cell.setSlot (D.2 ci k) v) → H'.size = H.size → (∀ q, q ≠ a → H'[q]? = H[q]?) → W p l e R s m args below meth c H' (locs ++ [⟨a, D.2 ci k⟩]) nc ns Qg (F0 m (pc + 3) ls S) := by
    intro H' e1 e2 e3
    refine kk H' _ ls (k1.up ⟨rr, hr, t_OB.to (V := updV (vp_V fs) k v) ⟨_, e1, q2, q3, t_set q4 hap hk v⟩ (fun j _ => by rw [pf_eq]; exact vp_updV_set (lnb_lt hl) v j)⟩ e3) (by rw [e2]; exact k2) (fun q x hq => ?_) (k4.put e2 e3 (k3 a _ ha)) k5 k6 k7
    by_cases hqa : q = a
    · subst hqa; exact k3 q _ ha
    · rw [hup_ne _ _ hqa] at hq; exact k3 q x hq
  by_cases hff : (rr.2.1 k).2.2.2 = false
  · have hlay := hts _ (cl_in ci rr hr _ (u_in_lay hk))
    unfold u_lay at hlay
    rw [if_neg (by rw [hff]; decide)] at hlay
    have h6 := u_store hfc hkC hkind hlay hi (hty k hk) hnar hfit
    refine W.putK hx hb (f := f) ⟨hown, hlink, ⟨_, _, _, hsame _ hi⟩, hst⟩ (by rw [q2]; exact h6) q1 q3 (by rw [hsl]; exact k2_hasslot (q4 k hk)) rfl rfl hd fun H' e1 e2 e3 => ?_
    rw [hsl] at e1 ⊢
    exact fin H' e1 e2 e3
  · have hff' : (rr.2.1 k).2.2.2 = true := by simpa using hff
    obtain ⟨hin2, hdecl⟩ : (mY r).name = "<init>" ∧ (rr.2.1 k).1 = (mY r).cls := by
      rcases hfin with q | q
      · exact absurd q hff
      · exact q
    have hlay := hts _ (cl_in ci rr hr _ (u_in_lay hk))
    unfold u_lay at hlay
    rw [if_pos hff'] at hlay
    have hcf : m.cls = cf := by
      obtain ⟨_, _, c', _, _, _, -, -, hf', -, -, -, hown2, -⟩ := Cond.laysFinal_spec hlay
      have e1 : c' = cf := by have := hi.symm.trans hf'; simp at this; exact this.1.symm
      rw [hdecl] at hown2
      rw [← e1]; exact Option.some.inj (hown.symm.trans hown2)
    have h6 := u_fits hfc hkC hkind (Or.inr hlay) hi (hty k hk) hnar hfit
    refine W.putFinK hx hb hown hlink (hsame _ hi) hst hcf (hnm.trans hin2) (by rw [q2]; exact h6) q1 q3 (by rw [hsl]; exact k2_hasslot (q4 k hk)) rfl rfl hd fun H' e1 e2 e3 => ?_
    rw [hsl] at e1 ⊢
    exact fin H' e1 e2 e3
end SND
