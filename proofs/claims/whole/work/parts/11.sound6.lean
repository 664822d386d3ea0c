/-! ===== a throw of an exception whose constructor names the one above by any index (no stack traces); follows vx_throwS ===== -/
set_option maxHeartbeats 1000000 in
theorem nx_ctor {p : Program} {l : Launch} {e : Env} {R : Room} {s : State} {m₀ : MethodId} {args : Array Value} {below : List Frame} {meth : Method} {c : Code} {W : State} {cells slots : Nat} (X : Stand p l e R s m₀ args below meth c W [] cells slots) (hexec : p.tables.exec = Jvm.exec) (htr : e.platform.stackTraces = false) {own cls : String} {names : List String} {ic ix : Nat} {rx : ByteArray}
    (x0 : decode rx 0 = .ok (.aload_n 0, 1)) (x1 : decode rx 1 = .ok (.aload_n 1, 1)) (x2 : decode rx 2 = .ok (.invokespecial ix, 3)) (x5 : decode rx 5 = .ok (.return_, 1))
    (hown : s.vm.findClass own = some m₀.cls) (hcls : Bundle.fit cls = true) (hnames : ∀ n ∈ names, Bundle.fit n = true) (h : ∀ w ∈ Bundle.ownAtomsX own ic cls ix rx names, w.before args s = true)
    {a : Addr} {cX : ClassId} {kX : Class} (hfX : s.vm.findClass cls = some cX) (hkX : s.vm.classes[cX]? = some kX) (hcell : W.heap[a]? = some (freshCell cX kX)) (hnew : s.heap.size ≤ a) {sa : Nat}
    {pc : Nat} {ls : Array Slot} (hsize : ls.size = c.maxLocals) {rest : List Value} (hd6 : decode c.code pc = .ok (.invokespecial ic, 3)) (hd9 : decode c.code (pc + 3) = .ok (.athrow, 1)) (hout : ∀ x ∈ c.exceptionTable.toList, covers x (pc + 3) = false)
    (hRf : names.length + 3 < R.frames) (hRl : (rest.map fun v => v.category).sum + (13 * (names.length + 1) + 43) ≤ R.locals) (hlocks : meth.locks = false) :
    ∃ U : State, Steps p.tables e below (W.setTop (F0 m₀ pc ls (.ref sa :: .ref a :: .ref a :: rest))) U ∧ U.status = .running ∧ Ended U below (.threw a) ∧ s.WarmedH U.vm ∧ s.sameButNew ({ U with vm := s.vm } : State) [] cells slots ∧ ∃ ce, U.heap[a]? = some ce ∧ s.vm.findClass cls = some ce.cls ∧ ce.vm = .none := by
  have hpl : e.platform.magicAccessors = ({} : Platform).magicAccessors := by rw [X.admits.platform]
  have hfm : e.platform.frameOwnsMonitors = true := by rw [X.admits.platform]
  have hfz : e.platform.finalization = false := by rw [X.admits.platform]
  have inX : ∀ w, w ∈ Bundle.ownAtomsX own ic cls ix rx names → w.before args s = true := h
  obtain ⟨T, Z0, TL, -, TY⟩ := ThrowableC.of_atoms (args := args) hfm hfz hpl (fun w hw => inX w (by simp [Bundle.ownAtomsX, hw]))
  obtain ⟨Z, M, ZL, ML, hZ⟩ := Init0T.ofS_atoms (args := args) hpl TL TY (fun w hw => inX w (by simp [Bundle.ownAtomsX, hw]))
  obtain ⟨P, Ps, hlen, PL, PsL, hPm, hl1, hl2⟩ := Bundle.chainSX (args := args) hpl hZ x0 x1 x2 x5 names cls hcls hnames (fun w hw => inX w (by simp [Bundle.ownAtomsX, hw]))
  have hf : s.vm.findClass cls = some P.m.cls := findClass_of_methodNamed hPm
  cases Option.some.inj (hfX.symm.trans hf)
  obtain ⟨cZ, kZ, z1, hk, hord, -, -, -⟩ := Cond.instantiable_spec (inX (.instantiable cls 6) (by simp [Bundle.ownAtomsX]))
  cases Option.some.inj (z1.symm.trans hf)
  cases Option.some.inj (hkX.symm.trans hk)
  have hs0 : selectMethod e.platform s.vm P.m.cls T.fill0 = .method T.fill0 := by
    obtain ⟨_, _, _, q1, q2, q3, q4, -⟩ := Cond.selects_spec (inX (.selects cls Bundle.tFill0 Bundle.tFill0) (by simp [Bundle.ownAtomsX]))
    cases Option.some.inj (q1.symm.trans hf)
    cases Option.some.inj (q2.symm.trans (State.methodFound?_of_named TY.fill0 (by decide)))
    cases Option.some.inj (q3.symm.trans TY.fill0)
    rw [Launch.admits_selectMethod X.admits]; exact q4
  have hsF : selectMethod e.platform s.vm P.m.cls T.fill = .method T.fill := by
    obtain ⟨_, _, _, q1, q2, q3, q4, -⟩ := Cond.selects_spec (inX (.selects cls Bundle.tFill Bundle.tFill) (by simp [Bundle.ownAtomsX]))
    cases Option.some.inj (q1.symm.trans hf)
    cases Option.some.inj (q2.symm.trans (State.methodFound?_of_named TY.fill (by decide)))
    cases Option.some.inj (q3.symm.trans TY.fill)
    rw [Launch.admits_selectMethod X.admits]; exact q4
  obtain ⟨cS, hcS, hst⟩ := TY.statics
  obtain ⟨u0, hu0⟩ := Cond.staticRefV TY.unassigned TL.unassignedStatic TL.statics hcS hst (inX (.isRef (.static Bundle.tN "UNASSIGNED_STACK" Bundle.steD)) (by simp [Bundle.ownAtomsX]))
  obtain ⟨sen, hsen⟩ := Cond.staticRefV TY.sentinel TL.sentinelStatic TL.statics hcS hst (inX (.isRef (.static Bundle.tN "SUPPRESSED_SENTINEL" Bundle.listD)) (by simp [Bundle.ownAtomsX]))
  obtain ⟨ci, ii, fB, b1, b2, b3, b4, -, b5, b6, b7⟩ := Cond.ownField (t := .object "java/lang/Object") TY.found TL.cls (by decide +kernel) (inX (.fieldLink Bundle.tN 198 Bundle.tN "backtrace" "Ljava/lang/Object;") (by simp [Bundle.ownAtomsX])) (inX (.lays Bundle.tN Bundle.tN "backtrace" "Ljava/lang/Object;") (by simp [Bundle.ownAtomsX])) e.platform hpl
  obtain ⟨cS', hcS', hvS, -, hkp⟩ := X.same.2.2.2.2.2 T.aS cS hcS
  have hkn : cS'.vm ≠ .unknown := by
    rw [hvS]; intro hu
    rw [show cS.vm = .unknown from hu] at hst
    cases hst
  have hne : T.aS ≠ a := Nat.ne_of_lt (Nat.lt_of_lt_of_le (Array.getElem?_eq_some_iff.mp hcS).1 hnew)
  obtain ⟨iM, hM⟩ := TY.msg
  obtain ⟨ty1, p1, q1, r1⟩ := Cond.laysAt hf hk TY.cause (inX (.lays cls Bundle.tN "cause" "Ljava/lang/Throwable;") (by simp [Bundle.ownAtomsX]))
  obtain ⟨ty2, p2, q2, r2⟩ := Cond.laysAt hf hk TY.stack (inX (.lays cls Bundle.tN "stackTrace" Bundle.steD) (by simp [Bundle.ownAtomsX]))
  obtain ⟨ty3, p3, q3, r3⟩ := Cond.laysAt hf hk TY.supp (inX (.lays cls Bundle.tN "suppressedExceptions" Bundle.listD) (by simp [Bundle.ownAtomsX]))
  obtain ⟨ty4, p4, q4, r4⟩ := Cond.laysAt hf hk hM (inX (.lays cls Bundle.tN "detailMessage" "Ljava/lang/String;") (by simp [Bundle.ownAtomsX]))
  obtain ⟨ty5, p5, q5, r5⟩ := Cond.laysAt hf hk b7 (inX (.lays cls Bundle.tN "backtrace" "Ljava/lang/Object;") (by simp [Bundle.ownAtomsX]))
  have n1 := Cond.laysApart q5 q1 r5 r1 (by rw [b5, TY.causeName]; decide)
  have n2 := Cond.laysApart q5 q2 r5 r2 (by rw [b5, TY.stackName]; decide)
  have n3 := Cond.laysApart q5 q3 r5 r3 (by rw [b5, TY.suppName]; decide)
  have hskip : SkipFacts T e.platform s (fun u => u) u0 ((preparedCellV T.toThrowableT (freshCell P.m.cls kX) a u0 sen).withEntry W.cur) :=
    ⟨{ ci198 := ci, i198 := ii, fBack := fB }, ⟨b1, b2, b3, b4⟩, by
      have h9 := fresh_default (c := P.m.cls) ty5
      rw [b6] at h9
      simpa [preparedCellV, Cell.setSlot, Cell.withEntry, Array.getElem?_setIfInBounds, n1, n2, n3, n1.symm, n2.symm, n3.symm, defaultValue] using h9, fun _ _ => rfl⟩
  obtain ⟨tm, -, -, -, vm₁, hnC, -, -, -, -, -, -, -, hW₁, st1⟩ := Steps.initColdS (tb := p.tables) (e := e) (below := below) (s := s) (U := W) X.here hexec X.warmed hpl hown (t := Bundle.initS cls) rfl rfl (Bundle.fit_spec hcls).2
    (inX (.methodLink own ic (Bundle.initS cls)) (by simp [Bundle.ownAtomsX])) (inX (.instanceMethod (Bundle.initS cls)) (by cases names <;> simp [Bundle.ownAtomsX, Bundle.chainSAtomsX, Bundle.passSAtoms])) (bytes := rx) (maxL := 2) (inX (.code (Bundle.initS cls) rx 2 none) (by cases names <;> simp [Bundle.ownAtomsX, Bundle.chainSAtomsX, Bundle.passSAtoms]))
    (f := F0 m₀ pc ls (.ref sa :: .ref a :: .ref a :: rest)) rfl (a := a) (msg := .ref sa) (rest := .ref a :: rest) rfl hd6
  cases Option.some.inj (hnC.symm.trans hPm)
  obtain ⟨vm₂, X₂, st2⟩ := (X.noted hW₁).ctorMessageOffV hexec (g := F0 m₀ pc ls (.ref a :: rest)) rfl hsize T TL Z ZL M ML (P :: Ps)
    (fun Q hQ => by rcases List.mem_cons.mp hQ with rfl | hQ; exact PL; exact PsL Q hQ) ⟨hl1, hl2⟩ (u0 := u0) (sen := sen) (self := a) (msg := .ref sa) rfl (cell := freshCell P.m.cls kX) (cellS := cS')
    hcell (fun _ => by simp) (by simp) rfl rfl hs0 hsF hcS' hne hkn (by rw [hkp _ (fun hm => nomatch hm)]; exact hu0) (by rw [hkp _ (fun hm => nomatch hm)]; exact hsen)
    (Takes.of_laid hk hord ty1 (by rw [TY.causeType]; rfl)) (Takes.of_laid hk hord ty2 (by rw [TY.stackType]; exact fits_refV_array _ u0)) (Takes.of_laid hk hord ty3 (by rw [TY.suppType]; exact fits_refV_object _ sen))
    (Takes.of_laid hk hord ty4 (by rw [TY.msgType]; exact fits_refV_object _ ⟨.ref sa, rfl⟩)) TY.objLocals hskip htr [] hd6
    (by simp only [List.length_cons, hlen]; omega) (by simp only [List.length_cons, hlen]; show 2 * 0 + (1 + (rest.map fun v => v.category).sum) + _ ≤ _; omega)
  obtain ⟨hwalk, hrun, hend, hWU, hsm⟩ := X₂.athrowLeaves hexec (g := F0 m₀ (pc + 3) ls (.ref a :: rest)) rfl rfl rfl hout (a := a) (rest := rest) rfl hd9
  have hlt : a < ((W.setVm vm₁).setVm vm₂).heap.size := (Array.getElem?_eq_some_iff.mp hcell).1
  refine ⟨_, st1 _ (fun acts => ?_), hrun, hend, hWU, hsm.weaken (fun y hy hlt' => ?_) (Nat.le_refl _) (Nat.le_refl _), _, heapAt_setCell_self (s := (W.setVm vm₁).setVm vm₂) (plainBareV T.toThrowableT (freshCell P.m.cls kX) a u0 sen (.ref sa)) hlt, hf, rfl⟩
  · rw [doInvoke_state]
    exact st2 _ hwalk
  · exfalso
    have hb : y.base = a := by
      simp only [List.nil_append, List.mem_cons, List.not_mem_nil, or_false] at hy
      rcases hy with rfl | rfl | rfl | rfl | rfl <;> rfl
    rw [hb] at hlt'
    exact Nat.not_lt.mpr hnew hlt'
def nx_at (own : String) (ic : Nat) (X : String) (ix : Nat) (rx : ByteArray) (names : List String) : List Cond := (Bundle.ownAtomsX own ic X ix rx names).filter vx_no
theorem nx_throw {p : Program} {l : Launch} {e : Env} {R : Room} {s : State} {m : MethodId} {args : Array Value} {below : List Frame} {meth : Method} {c : Code} {H : Heap} {locs : List Loc} {cells slots : Nat} {ls : Array Slot} {rest : List Value} {free : Addr → Prop} {Qc : Array Value → State → Outcome → State → Prop} {XC : String → State → State → Prop}
    {cc : ByteArray} {pc : Nat} (hexec : p.tables.exec = Jvm.exec) (hb : c.code = cc) (hl : l.stackTraces = false) {own cls text : String} {names : List String} {ik is ic ix mc ms sa : Nat} {rx : ByteArray} {A : Nat → Prop}
    (x0 : decode rx 0 = .ok (.aload_n 0, 1)) (x1 : decode rx 1 = .ok (.aload_n 1, 1)) (x2 : decode rx 2 = .ok (.invokespecial ix, 3)) (x5 : decode rx 5 = .ok (.return_, 1))
    (hown : s.vm.findClass own = some m.cls) (hcls : Bundle.fit cls = true) (hnames : ∀ n ∈ names, Bundle.fit n = true)
    (hk : (Cond.classLink own ik cls).before args s = true) (hini : (Cond.initialized cls).before args s = true) (hstr : vk_R own is text sa s) (hat : ∀ w ∈ nx_at own ic cls ix rx names, w.before args s = true)
    (hgood : ∀ w ∈ nx_at own ic cls ix rx names, vx_ot w = true)
    (hU : vx_Zq Bundle.tN "UNASSIGNED_STACK" Bundle.steD A s s.heap) (hN : vx_Zq Bundle.tN "SUPPRESSED_SENTINEL" Bundle.listD A s s.heap) (hS : va_S A s.heap H locs) (hsize : ls.size = c.maxLocals)
    (d0 : decode cc pc = .ok (.new ik, 3)) (d3 : decode cc (pc + 3) = .ok (.dup, 1))
    (dd : (decode cc (pc + 4) = .ok (.ldc is, 2) ∧ decode cc (pc + 6) = .ok (.invokespecial ic, 3) ∧ decode cc (pc + 9) = .ok (.athrow, 1)) ∨ (decode cc (pc + 4) = .ok (.ldc_w is, 3) ∧ decode cc (pc + 7) = .ok (.invokespecial ic, 3) ∧ decode cc (pc + 10) = .ok (.athrow, 1)))
    (hout : ∀ k : Nat, ∀ x ∈ c.exceptionTable.toList, covers x k = false)
    (hRframes : names.length + 3 < R.frames) (hRlocals : (rest.map fun v => v.category).sum + (13 * (names.length + 1) + 43) ≤ R.locals) (hRcells : cells + 1 ≤ R.cells) (hRslots : slots + 6 ≤ R.slots) (hlocks : meth.locks = false)
    (hx : ∀ t : State, s.vm.Alike t.vm → H.size ≤ t.heap.size → (∀ q : Nat, q < H.size → t.heap[q]? = H[q]?) → XC cls s t)
    (hf : ∀ z ∈ locs, free z.base) (hc : cells + 1 ≤ mc) (hs : slots + 6 ≤ ms) :
    W p l e R s m args below meth c H locs cells slots (vx_MQ below Qc XC args s mc ms free) (F0 m pc ls rest) := by
  intro T hT X
  have htr : e.platform.stackTraces = false := (show e.platform.stackTraces = l.stackTraces by rw [X.admits.platform]).trans hl
  have Y := vx_rebase X (R' := { frames := R.frames, locals := R.locals, cells := 1, slots := 6 }) (Nat.le_refl _) (Nat.le_refl _) hRcells hRslots
  obtain ⟨s', hA⟩ : ∃ z, z = (T.setVm s.vm).setFrames (.invoking m args :: below) := ⟨_, rfl⟩
  rw [← hA] at Y
  have hvm : s'.vm = s.vm := by rw [hA]; rfl
  have hhp : s'.heap = H := by rw [hA]; exact hT
  have hW0 : s.WarmedH s'.vm := by rw [hvm]; exact State.WarmedH.refl s
  have hU' : vx_Zq Bundle.tN "UNASSIGNED_STACK" Bundle.steD A s' s'.heap := by rw [hhp]; exact vx_Zq.moved hW0.alike (hU.kept hS.2.1)
  have hN' : vx_Zq Bundle.tN "SUPPRESSED_SENTINEL" Bundle.listD A s' s'.heap := by rw [hhp]; exact vx_Zq.moved hW0.alike (hN.kept hS.2.1)
  have h : ∀ w ∈ Bundle.ownAtomsX own ic cls ix rx names, w.before args s' = true := vx_own (fun w hw => vx_ot_at hW0 hvm.symm (hgood w hw) (hat w hw)) (vx_isRefq hU'.1) (vx_isRefq hN'.1) hU'.2.word hN'.2.word
  have hk' : (Cond.classLink own ik cls).before args s' = true := vx_ot_at hW0 hvm.symm rfl hk
  have hini' : (Cond.initialized cls).before args s' = true := vx_ot_at hW0 hvm.symm rfl hini
  have hown' : s'.vm.findClass own = some m.cls := by rw [hvm]; exact hown
  have hins : (Cond.instantiable cls 6).before args s' = true := h _ (by simp [Bundle.ownAtomsX])
  obtain ⟨vm₁, cX, kX, hfX, hkX, -, -, X₁, st1⟩ := Y.newCold hexec (own := own) (C := cls) (index := ik) (n := 6) hown' hk' hins hini' (g := F0 m pc ls rest) rfl (by rw [hb]; exact d0) (Nat.le_refl _) (Nat.le_refl _)
  generalize hT1 : (T.setVm vm₁).pushCell { cls := cX, slots := kX.instanceTypes.map defaultValue, vm := .none } = T1 at X₁ st1
  have hcat : (Value.ref T.heap.size).category = 1 := rfl
  have hcellA : T1.heap[T.heap.size]? = some (freshCell cX kX) := by rw [← hT1]; exact State.heap_pushCell_size _ _
  have d3' : decode c.code (pc + 3) = .ok (.dup, 1) := by rw [hb]; exact d3
  have hstr' : vk_R own is text sa s' := vk_R.warm hW0 hstr
  have key : ∀ pc1 : Nat, decode cc pc1 = .ok (.invokespecial ic, 3) → decode cc (pc1 + 3) = .ok (.athrow, 1) → (∀ U, Steps p.tables e below (T1.setTop (F0 m pc1 ls (.ref sa :: .ref T.heap.size :: .ref T.heap.size :: rest))) U → Steps p.tables e below (T.setTop (F0 m pc ls rest)) U) → ∃ t, Steps p.tables e below (T.setTop (F0 m pc ls rest)) t ∧ vx_MQ below Qc XC args s mc ms free t := by
    intro pc1 d6 d9 hst
    obtain ⟨U, hsteps, hrun, hend, hW, hsame, ce, hce, hcls9, hvm9⟩ := nx_ctor X₁ hexec htr (own := own) (cls := cls) (names := names) (ic := ic) x0 x1 x2 x5 hown' hcls hnames h hfX hkX hcellA (by rw [hhp, hT]; exact Nat.le_refl _) (sa := sa) (pc := pc1) (ls := ls) hsize (rest := rest) (by rw [hb]; exact d6) (by rw [hb]; exact d9) (hout _) hRframes hRlocals hlocks
    obtain ⟨f1, f2⟩ := vx_frame hsame
    rw [hhp] at f1 f2
    have hWs : s.WarmedH U.vm := State.WarmedH.trans hW0 hW
    have hcl : s.vm.findClass cls = some ce.cls := by rw [← hvm]; exact hcls9
    have hall : s.sameButNew ({ U with vm := s.vm } : State) locs mc ms := by
      subst hA
      obtain ⟨e1, e2⟩ := hsame
      rw [State.setFrames_setFrames] at e1
      have h2 : (T.setVm s.vm).sameButNew ({ U with vm := s.vm } : State) [] (0 + 1) (0 + 6) := ⟨e1, e2⟩
      have h3 := X.same.trans h2
      rw [List.append_nil] at h3
      exact h3.mono hc hs
    exact ⟨U, hst _ hsteps, .threw T.heap.size, hrun, hend, Or.inr ⟨T.heap.size, rfl, cls, ce, locs, hx U hWs.alike f1 (fun q hq => f2 q hq (fun z hz => nomatch hz)), hce, hvm9, hcl, hWs, hall, hf⟩⟩
  rcases dd with ⟨d4, d6, d9⟩ | ⟨d4, d6, d9⟩
  · refine key (pc + 6) d6 d9 fun U hsteps => st1 _ ?_
    have d4' : decode c.code (pc + 4) = .ok (.ldc is, 2) := by rw [hb]; exact d4
    show Steps p.tables e below (T1.setTop { method := m, pc := pc + 3, locals := ls, stack := .ref T.heap.size :: rest, locked := none }) _
    jvm_step X₁.here [X₁.here.top, hexec, d3', Value.category]
    exact X₁.ldcString hexec (own := own) (text := text) (index := is) (a := sa) hown' hstr'.1 hstr'.2 (g := { method := m, pc := pc + 4, locals := ls, stack := .ref T.heap.size :: .ref T.heap.size :: rest, locked := none }) rfl d4' _ hsteps
  · refine key (pc + 7) d6 d9 fun U hsteps => st1 _ ?_
    have d4' : decode c.code (pc + 4) = .ok (.ldc_w is, 3) := by rw [hb]; exact d4
    show Steps p.tables e below (T1.setTop { method := m, pc := pc + 3, locals := ls, stack := .ref T.heap.size :: rest, locked := none }) _
    jvm_step X₁.here [X₁.here.top, hexec, d3', Value.category]
    exact X₁.ldcStringW hexec (own := own) (text := text) (index := is) (a := sa) hown' hstr'.1 hstr'.2 (g := { method := m, pc := pc + 4, locals := ls, stack := .ref T.heap.size :: .ref T.heap.size :: rest, locked := none }) rfl d4' _ hsteps
/-! ===== the interpreter's soundness: ends ===== -/
/-- an end's kind, what it leaves, what it answers -/
def rtOK (r : MI) (i : Instr) (y : Nat) (S : List Value) (vo : Option Value) : Prop := match i with
  | .ireturn => ∃ v, S = [.int v] ∧ vo = some (.int v) ∧ vok y (.int v) ∧ ((y = 0 ∧ mT r = some .int) ∨ (y = 1 ∧ mT r = some .boolean) ∨ (y = 2 ∧ mT r = some .char))
  | .lreturn => ∃ v, S = [.long v] ∧ vo = some (.long v) ∧ mT r = some .long
  | .freturn => ∃ v, S = [.float v] ∧ vo = some (.float v) ∧ mT r = some .float
  | .dreturn => ∃ v, S = [.double v] ∧ vo = some (.double v) ∧ mT r = some .double
  | .areturn => ∃ v, S = [v] ∧ vo = some v ∧ (v = .null ∨ ∃ a, v = .ref a) ∧ ∃ rt, mT r = some rt ∧ ((∃ n, rt = .object n) ∨ ∃ t, rt = .array t)
  | .return_ => S = [] ∧ vo = none ∧ mT r = none
  | _ => False
/-- how the walk ends where the method answers -/
def RT (p : Program) (l : Launch) (e : Env) (R : Room) (s : State) (m : MethodId) (args : Array Value) (below : List Frame) (meth : Method) (c : Code) (Qg : State → Prop) (D : va_G) (tys : List (ClassId × FieldType)) (A : Nat → Prop) (r : MI) (Q : QT) : Prop :=
  ∀ (i : Instr) (pc y : Nat) (S : List Value) (vo : Option Value) (h : AH) (H : Heap) (locs : List Loc) (ls : Array Slot) (nc ns : Nat), decode (mB r) pc = .ok (i, 1) → rtOK r i y S vo → Q (.ok vo) h H.size → hrl D tys h H → (∀ q x, h q = some x → A q) → va_S A s.heap H locs → nc ≤ mC r → ns ≤ mS r → W p l e R s m args below meth c H locs nc ns Qg (F0 m pc ls S)
/-- what a throw's instructions are -/
def THW (r : MI) (pc idx x : Nat) : Prop := ∃ (is ic ix : Nat) (text : String) (rx : ByteArray),
  Jvm.Cond.classLink (mY r).cls idx (exn (x - 900)) ∈ lw_gd ∧ Jvm.Cond.initialized (exn (x - 900)) ∈ lw_gd ∧ ((mY r).cls, is, text) ∈ strL ∧ Bundle.fit (exn (x - 900)) = true ∧
  (decode rx 0 = .ok (.aload_n 0, 1) ∧ decode rx 1 = .ok (.aload_n 1, 1) ∧ decode rx 2 = .ok (.invokespecial ix, 3) ∧ decode rx 5 = .ok (.return_, 1)) ∧
  (∀ w ∈ nx_at (mY r).cls ic (exn (x - 900)) ix rx ["java/lang/RuntimeException", "java/lang/Exception"], w ∈ lw_gd ∨ w ∈ dclL) ∧ decode (mB r) (pc + 3) = .ok (.dup, 1) ∧
  ((decode (mB r) (pc + 4) = .ok (.ldc is, 2) ∧ decode (mB r) (pc + 6) = .ok (.invokespecial ic, 3) ∧ decode (mB r) (pc + 9) = .ok (.athrow, 1)) ∨
   (decode (mB r) (pc + 4) = .ok (.ldc_w is, 3) ∧ decode (mB r) (pc + 7) = .ok (.invokespecial ic, 3) ∧ decode (mB r) (pc + 10) = .ok (.athrow, 1))) ∧ mH r = []
/-- how the walk ends where the method throws -/
def TW (p : Program) (l : Launch) (e : Env) (R : Room) (s : State) (m : MethodId) (args : Array Value) (below : List Frame) (meth : Method) (c : Code) (Qg : State → Prop) (D : va_G) (tys : List (ClassId × FieldType)) (A : Nat → Prop) (r : MI) (Q : QT) : Prop :=
  ∀ (pc idx x : Nat) (S : List Value) (h : AH) (H : Heap) (locs : List Loc) (ls : Array Slot) (nc ns : Nat), decode (mB r) pc = .ok (.new idx, 3) → THW r pc idx x → catS S ≤ 8 → nc + 1 ≤ mC r → ns + 6 ≤ mS r → (∀ sz', H.size ≤ sz' → Q (.error (exn (x - 900))) h sz') → hrl D tys h H → (∀ q x, h q = some x → A q) → va_S A s.heap H locs → ls.size = mL r → W p l e R s m args below meth c H locs nc ns Qg (F0 m pc ls S)
theorem nI_back {v : Int32} (h : 0 ≤ v) : nI v.toNatClampNeg = v := by
  have h0 : (0 : Int) ≤ v.toInt := by simpa using Int32.le_iff_toInt_le.mp h
  have h1 := v.toInt_lt
  apply Int32.toInt_inj.mp
  rw [nI_toInt (by show v.toInt.toNat < _; omega)]
  show ((v.toInt.toNat : Nat) : Int) = _
  omega
theorem nar_c {v : Int32} (hv : vok 2 (.int v)) : narrow .char (.int v) = .int v := by
  obtain ⟨h1, h2⟩ := hv
  have h3 : v.toInt ≤ 65535 := by simpa using Int32.le_iff_toInt_le.mp h2
  have h4 := (pk_charN (q := v.toNatClampNeg) (by show v.toInt.toNat < _; omega)).1
  rw [nI_back h1] at h4
  exact h4
section SND5
variable {p : Program} {l : Launch} {e : Env} {R : Room} {s : State} {m : MethodId} {args : Array Value} {below : List Frame} {meth : Method} {c : Code} {D : va_G} {tys : List (ClassId × FieldType)} {r : MI} {E : EX} {d : Nat}
variable {h0 : AH} {sz0 : Nat} {Q : QT}
theorem qcc_now {h : AH} {H : Heap} {locs : List Loc} {vo : Option Value} (k1 : hrl D tys h H) (k3 : ∀ q x, h q = some x → Afr h0 sz0 q) (k4 : va_S (Afr h0 sz0) s.heap H locs) (hQ : Q (.ok vo) h H.size) : ∀ t : State, t.heap = H → s.WarmedH t.vm → Qcc D tys h0 sz0 Q args s (.returned vo) t := fun t ht _ => ⟨vo, h, rfl, by rw [ht]; exact hQ, by rw [ht]; exact k1, k3, k4.F ht⟩
theorem rt_met (C : CX p l R s m args meth c r D tys E (Afr h0 sz0) d) (hr : meth.sig.returnType = mT r) : RT p l e R s m args below meth c (vx_MQ below (Qcc D tys h0 sz0 Q) (XCC D tys h0 sz0 Q) args s (mC r) (mS r) (Afr h0 sz0)) D tys (Afr h0 sz0) r Q := by
  obtain ⟨hx, hb, hml, hown, hts, hK, hA, hlk, -⟩ := C
  intro i pc y S vo h H locs ls nc ns hd hrt hQ k1 k3 k4 g1 g2
  refine vx_ret (W.widen g1 g2 ?_)
  have hq := qcc_now (args := args) k1 k3 k4 hQ
  cases i
  case ireturn =>
    obtain ⟨v, rfl, rfl, hv, hy⟩ := hrt
    rcases hy with ⟨rfl, hm⟩ | ⟨rfl, hm⟩ | ⟨rfl, hm⟩
    · exact W.iret hx hb (hr.trans hm) hq k4.2.2 hd hlk
    · refine W.zret hx hb (hr.trans hm) ?_ hq k4.2.2 hd hlk
      rcases hv with rfl | rfl <;> rfl
    · exact W.zret hx hb (hr.trans hm) (nar_c hv) hq k4.2.2 hd hlk
  case lreturn =>
    obtain ⟨v, rfl, rfl, hm⟩ := hrt
    exact W.lret hx hb (hr.trans hm) hq k4.2.2 hd hlk
  case freturn =>
    obtain ⟨v, rfl, rfl, hm⟩ := hrt
    exact W.fret hx hb (hr.trans hm) hq k4.2.2 hd hlk
  case dreturn =>
    obtain ⟨v, rfl, rfl, hm⟩ := hrt
    exact W.dret hx hb (hr.trans hm) hq k4.2.2 hd hlk
  case areturn =>
    obtain ⟨v, rfl, rfl, hv, rt, hm, hrt⟩ := hrt
    exact W.aret hx hb (hr.trans hm) hrt hv hq k4.2.2 hd hlk
  case return_ =>
    obtain ⟨rfl, rfl, hm⟩ := hrt
    exact W.vret hx hb (hr.trans hm) hq k4.2.2 hd hlk
  all_goals exact hrt.elim
theorem th_met (C : CX p l R s m args meth c r D tys E (Afr h0 sz0) d) : TH p l e R s m args below meth c (vx_MQ below (Qcc D tys h0 sz0 Q) (XCC D tys h0 sz0 Q) args s (mC r) (mS r) (Afr h0 sz0)) D tys (Afr h0 sz0) r Q := by
  obtain ⟨hx, hb, hml, hown, hts, hK, hA, hlk, -, -, -, -, htab, -⟩ := C
  intro Ex h' H locs ls pc rest q ce nc ns hQ k1 k3 k4 g1 g2 hce hcv hcl hem
  refine vx_out (E := Ex) (ce := ce) (fun x hx => ?_) hlk hce hcv hcl (fun t ht _ => ⟨h', by rw [ht]; exact hQ, by rw [ht]; exact k1, k3, k4.F ht⟩) k4.2.2 g1 g2
  rw [htab, List.isEmpty_iff.mp hem] at hx
  cases hx
theorem tw_met (C : CX p l R s m args meth c r D tys E (Afr h0 sz0) d) (h6 : 6 ≤ d) : TW p l e R s m args below meth c (vx_MQ below (Qcc D tys h0 sz0 Q) (XCC D tys h0 sz0 Q) args s (mC r) (mS r) (Afr h0 sz0)) D tys (Afr h0 sz0) r Q := by
  have C' := C
  obtain ⟨hx, hb, hml, hown, hts, hK, hA, hlk, -, ⟨r1, r2, r3, r4⟩, ⟨hU, hN, hstr, -⟩, hfl, htab, -⟩ := C
  intro pc idx x S h H locs ls nc ns hd hT hc g1 g2 hQ k1 k3 k4 k5
  obtain ⟨is, ic, ix, text, rx, w1, w2, w3, w4, ⟨x0, x1, x2, x5⟩, w5, d3, hdd, hem⟩ := hT
  obtain ⟨sa, hsa⟩ := hstr _ w3
  have hl : l.stackTraces = false := by unfold Jvm.Launch.stackTraces; rw [hfl]; decide
  have hat : ∀ w ∈ nx_at (mY r).cls ic (exn (x - 900)) ix rx ["java/lang/RuntimeException", "java/lang/Exception"], w.before args s = true := by
    intro w hw
    rcases w5 w hw with q | q
    · exact hts w q
    · exact va_Nw.use (by have h9 := dcl_all w q; cases w <;> first | rfl | (simp [dcl_ok] at h9)) (CX.dcl C' q)
  have hgood : ∀ w ∈ nx_at (mY r).cls ic (exn (x - 900)) ix rx ["java/lang/RuntimeException", "java/lang/Exception"], vx_ot w = true := by
    intro w hw
    rcases w5 w hw with q | q
    · have h9 := (List.mem_filter.mp q).2
      unfold vx_ot
      rw [h9, Bool.or_true]
    · have h9 := dcl_all w q
      cases w <;> first | rfl | (simp [dcl_ok] at h9)
  have hnm : ∀ n ∈ ["java/lang/RuntimeException", "java/lang/Exception"], Bundle.fit n = true := by decide
  have hout : ∀ k : Nat, ∀ x ∈ c.exceptionTable.toList, covers x k = false := by
    intro k x hx
    rw [htab, hem] at hx
    cases hx
  rw [catS_eq] at hc
  have hrl' : (S.map fun v => v.category).sum + (13 * (["java/lang/RuntimeException", "java/lang/Exception"].length + 1) + 43) ≤ R.locals := by
    show _ + (13 * (2 + 1) + 43) ≤ _
    omega
  have hX : ∀ t : State, s.vm.Alike t.vm → H.size ≤ t.heap.size → (∀ q : Nat, q < H.size → t.heap[q]? = H[q]?) → XCC D tys h0 sz0 Q (exn (x - 900)) s t := fun t _ q1 q2 =>
    ⟨h, hQ _ q1, k1.kept q2, k3, Nat.le_trans k4.1 q1, fun q q3 q4 => (q2 q (Nat.lt_of_lt_of_le q3 k4.1)).trans (k4.2.1 q q3 q4)⟩
  exact nx_throw hx hb hl x0 x1 x2 x5 hown w4 hnm (hts _ w1) (hts _ w2) hsa hat hgood hU hN k4 (k5.trans hml.symm) hd d3 hdd hout (by show 2 + 3 < _; omega) hrl' (Nat.le_trans g1 r3) (Nat.le_trans g2 r4) hlk hX k4.2.2 g1 g2
end SND5
