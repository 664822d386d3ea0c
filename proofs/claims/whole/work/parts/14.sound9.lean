section SND8
variable {p : Program} {l : Launch} {e : Env} {R : Room} {s : State} {m : MethodId} {args : Array Value} {below : List Frame} {meth : Method} {c : Code} {Qg : State → Prop} {D : va_G} {tys : List (ClassId × FieldType)} {A : Nat → Prop} {r : MI} {E : EX} {d : Nat}
variable {pc : Nat} {L : LV} {S : List Value} {h : AH} {sz nc ns : Nat} {call : CT} {Q : QT}
theorem sx_step (C : CX p l R s m args meth c r D tys E A d) (hTH : TH p l e R s m args below meth c Qg D tys A r Q) (hRT : RT p l e R s m args below meth c Qg D tys A r Q) (hTW : 6 ≤ d → TW p l e R s m args below meth c Qg D tys A r Q) (hHF : HF r) (hcall : ∀ cm as h sz Q', call cm as h sz Q' → ∀ rc, mtab[cm]? = some rc → MS rc → ∃ d', d = d' + 1 ∧ Ctr l D tys E d' rc as h sz Q') {i : Instr} {n x y : Nat} (hd : decode (mB r) pc = .ok (i, n - pc)) (ha : arB r pc i n x y = true) (hw : WDI r pc i x y) {Y : AST} (hY : ∀ pc L S h sz nc ns, Y pc L S h sz nc ns → XS p l e R s m args below meth c Qg D tys A r pc L S h sz nc ns) (k : stI E (mcsT mtab) call d r Q Y i n x y pc L S h sz nc ns) : XS p l e R s m args below meth c Qg D tys A r pc L S h sz nc ns := by
  cases i
  case aconst_null => exact st_aconst_null C hd ha hY k
  case aload => exact st_aload C hd ha hY k
  case aload_n => exact st_aload_n C hd ha hY k
  case iload => exact st_iload C hd ha hY k
  case iload_n => exact st_iload_n C hd ha hY k
  case lload => exact st_lload C hd ha hY k
  case lload_n => exact st_lload_n C hd ha hY k
  case fload => exact st_fload C hd ha hY k
  case fload_n => exact st_fload_n C hd ha hY k
  case dload => exact st_dload C hd ha hY k
  case dload_n => exact st_dload_n C hd ha hY k
  case astore => exact st_astore C hd ha hY k
  case astore_n => exact st_astore_n C hd ha hY k
  case istore => exact st_istore C hd ha hY k
  case istore_n => exact st_istore_n C hd ha hY k
  case fstore => exact st_fstore C hd ha hY k
  case fstore_n => exact st_fstore_n C hd ha hY k
  case lstore => exact st_lstore C hd ha hY k
  case lstore_n => exact st_lstore_n C hd ha hY k
  case dstore => exact st_dstore C hd ha hY k
  case dstore_n => exact st_dstore_n C hd ha hY k
  case iinc => exact st_iinc C hd ha hY k
  case iconst => exact st_iconst C hd ha hY k
  case bipush => exact st_bipush C hd ha hY k
  case sipush => exact st_sipush C hd ha hY k
  case lconst => exact st_lconst C hd ha hY k
  case fconst => exact st_fconst C hd ha hY k
  case ldc => exact st_ldc C hd ha hw hY k
  case ldc_w => exact st_ldc_w C hd ha hw hY k
  case ldc2_w => exact st_ldc2_w C hd ha hw hY k
  case dup => exact st_dup C hd ha hY k
  case pop => exact st_pop C hd ha hY k
  case dup_x1 => exact st_dup_x1 C hd ha hY k
  case dup2 => exact st_dup2 C hd ha hY k
  case iadd => exact st_iadd C hd ha hY k
  case isub => exact st_isub C hd ha hY k
  case imul => exact st_imul C hd ha hY k
  case ineg => exact st_ineg C hd ha hY k
  case ishl => exact st_ishl C hd ha hY k
  case ishr => exact st_ishr C hd ha hY k
  case iushr => exact st_iushr C hd ha hY k
  case iand => exact st_iand C hd ha hY k
  case ior => exact st_ior C hd ha hY k
  case ixor => exact st_ixor C hd ha hY k
  case ladd => exact st_ladd C hd ha hY k
  case lmul => exact st_lmul C hd ha hY k
  case lcmp => exact st_lcmp C hd ha hY k
  case i2l => exact st_i2l C hd ha hY k
  case l2i => exact st_l2i C hd ha hY k
  case i2c => exact st_i2c C hd ha hY k
  case i2f => exact st_i2f C hd ha hY k
  case i2d => exact st_i2d C hd ha hY k
  case idiv => exact st_idiv C hd ha hY k
  case irem => exact st_irem C hd ha hY k
  case ldiv => exact st_ldiv C hd ha hY k
  case lrem => exact st_lrem C hd ha hY k
  case f2d => exact st_f2d C hd ha hY k
  case fdiv => exact st_fdiv C hd ha hY k
  case ddiv => exact st_ddiv C hd ha hY k
  case fcmp => exact st_fcmp C hd ha hY k
  case dcmp => exact st_dcmp C hd ha hY k
  case goto => exact st_goto C hd ha hY k
  case ifCond => exact st_ifCond C hd ha hY k
  case if_icmp => exact st_if_icmp C hd ha hY k
  case if_acmp => exact st_if_acmp C hd ha hY k
  case ifnull => exact st_ifnull C hd ha hY k
  case ifnonnull => exact st_ifnonnull C hd ha hY k
  case tableswitch => exact st_tableswitch C hd ha hY k
  case getfield => exact st_getfield C hd ha hw hY k
  case putfield => exact st_putfield C hd ha hw hY k
  case getstatic => exact st_getstatic C hd ha hw hY k
  case new => exact st_new C hd ha hw hTW hY k
  case newarray => exact st_newarray C hd ha hw hY k
  case anewarray => exact st_anewarray C hd ha hw hY k
  case arraylength => exact st_arraylength C hd ha hY k
  case iaload => exact st_iaload C hd ha hY k
  case baload => exact st_baload C hd ha hY k
  case laload => exact st_laload C hd ha hY k
  case daload => exact st_daload C hd ha hY k
  case aaload => exact st_aaload C hd ha hY k
  case iastore => exact st_iastore C hd ha hY k
  case bastore => exact st_bastore C hd ha hY k
  case lastore => exact st_lastore C hd ha hY k
  case dastore => exact st_dastore C hd ha hY k
  case aastore => exact st_aastore C hd ha hY k
  case checkcast => exact st_checkcast C hd ha hw hY k
  case invokestatic => exact st_invokestatic C hd ha hw hTH hHF hcall hY k
  case invokespecial => exact st_invokespecial C hd ha hw hTH hHF hcall hY k
  case invokevirtual => exact st_invokevirtual C hd ha hw hTH hHF hcall hY k
  case ireturn => exact st_ireturn C hd ha hRT hY k
  case lreturn => exact st_lreturn C hd ha hRT hY k
  case freturn => exact st_freturn C hd ha hRT hY k
  case dreturn => exact st_dreturn C hd ha hRT hY k
  case areturn => exact st_areturn C hd ha hRT hY k
  case return_ => exact st_return_ C hd ha hRT hY k
  all_goals exact k.elim
theorem Rr_sound (C : CX p l R s m args meth c r D tys E A d) (hTH : TH p l e R s m args below meth c Qg D tys A r Q) (hRT : RT p l e R s m args below meth c Qg D tys A r Q) (hTW : 6 ≤ d → TW p l e R s m args below meth c Qg D tys A r Q) (hHF : HF r) (hSF : ∀ t ∈ mI r, SF r t) (hcall : ∀ cm as h sz Q', call cm as h sz Q' → ∀ rc, mtab[cm]? = some rc → MS rc → ∃ d', d = d' + 1 ∧ Ctr l D tys E d' rc as h sz Q') (k : Rr E (mcsT mtab) call d r Q pc L S h sz nc ns) : XS p l e R s m args below meth c Qg D tys A r pc L S h sz nc ns := by
  refine k _ (fun pc L S h sz nc ns Y hY hs => ?_) (fun pc L L' S h sz nc ns hw hx => ?_)
  · unfold stp at hs
    split at hs
    · exact hs.elim
    · rename_i b i n x y hl
      obtain ⟨h1, h2, h3⟩ := hSF _ (lkp_mem hl)
      exact sx_step C hTH hRT hTW hHF hcall h1 h2 h3 hY hs
  · intro H locs ls k1 k2 k3 k4 k5 k6 k7
    exact hx H locs ls k1 k2 k3 k4 (k5.wk hw) k6 k7
end SND8
/-! ===== the interpreter's soundness: whole methods, by depth ===== -/
/-- what is checked of all methods -/
def MFa : Prop := ∀ (k : Nat) (r : MI), mtab[k]? = some r → HF r ∧ ∀ t ∈ mI r, SF r t
theorem Sp_sound (hMF : MFa) (l : Launch) (hfl : l.flags = flags0) (D : va_G) (tys : List (ClassId × FieldType)) (hcs : ∃ cs : List ClassId, tys = [(cs.getD 0 0, .int), (cs.getD 1 0, .boolean), (cs.getD 2 0, .object "Dominofs$Game"), (cs.getD 3 0, .object "java/lang/Object"), (cs.getD 4 0, .long), (cs.getD 5 0, .double)]) (E : EX) :
    ∀ (d m : Nat) (as : List Value) (h : AH) (sz : Nat) (Q : QT), Sp E d m as h sz Q → ∀ rc, mtab[m]? = some rc → MS rc → ∃ d', d = d' + 1 ∧ Ctr l D tys E d' rc as h sz Q := by
  intro d
  induction d with
  | zero => intro m as h sz Q hh; exact hh.elim
  | succ d ih =>
    intro m as h sz Q hh rc hrc hms
    refine ⟨d, rfl, ?_⟩
    obtain ⟨r, hr, hlen, hR⟩ := hh
    cases hrc.symm.trans hr
    obtain ⟨hHF, hSF⟩ := hMF m rc hrc
    have key : ∀ (p : Program) (e : Env) (s : State) (mm : MethodId) (args : Array Value) (below : List Frame) (meth : Method) (c : Code) (s₁ : State), BodyLoose p l (mY rc) (headSpec (wsm rc) { frames := d, cells := mC rc, slots := mS rc, locals := 37 * d }) (mB rc) (mL rc) (mT rc) e s mm args below meth c s₁ → c.maxLocals = mL rc → c.exceptionTable.toList = tableOf ((mH rc).map fun q => (q.1, q.2.1, q.2.2.1, q.2.2.2.1)) → Pcc D tys E as h sz args s →
        W p l e { frames := d, cells := mC rc, slots := mS rc, locals := 37 * d } s mm args below meth c s.heap [] 0 0 (vx_MQ below (Qcc D tys h sz Q) (XCC D tys h sz Q) args s (mC rc) (mS rc) (Afr h sz)) (entryFrame mm args (mL rc)) := by
      intro p e s mm args below meth c s₁ B hml htab hP
      obtain ⟨rfl, hsz, hh1, hK, hZ⟩ := hP
      have C : CX p l { frames := d, cells := mC rc, slots := mS rc, locals := 37 * d } s mm as.toArray meth c rc D tys E (Afr h sz) d :=
        ⟨B.exec, B.bytes, hml, findClass_of_methodNamed B.named, fun w hw => atoms_spec (ws := wsm rc) B.pre w (List.mem_cons_of_mem _ hw), hK, fun q hq => Or.inr (by rw [← hsz]; exact hq), B.notSynchronized, (name_of_methodNamed B.named B.method).1, ⟨Nat.le_refl _, Nat.le_refl _, Nat.le_refl _, Nat.le_refl _⟩, hZ, hfl, htab, hcs⟩
      rw [lg_entry_eq]
      exact Rr_sound C (th_met C) (rt_met C B.returns) (fun h6 => tw_met C h6) hHF hSF ih hR s.heap [] _ hh1 hsz (fun q x hx => Or.inl ⟨x, hx⟩) va_S.rf (LH.entry hlen) (Nat.zero_le _) (Nat.zero_le _)
    by_cases hemp : (mH rc).isEmpty = true
    · have hcw : wsm rc = Jvm.Cond.code (mY rc) (mB rc) (mL rc) (mT rc) :: lw_gd := by unfold wsm codeW; rw [if_pos hemp]
      refine vx_ofW (cc := mB rc) (maxL := mL rc) (ret := mT rc) hms.2.2.1 hcw fun p e s mm args below meth c s₁ B hml ht hP => ?_
      refine key p e s mm args below meth c s₁ B hml ?_ hP
      rw [List.isEmpty_iff.mp hemp]
      exact List.eq_nil_iff_forall_not_mem.mpr ht
    · have hcw : wsm rc = Jvm.Cond.codeWith (mY rc) (mB rc) (mL rc) (mT rc) ((mH rc).map fun q => (q.1, q.2.1, q.2.2.1, q.2.2.2.1)) :: lw_gd := by unfold wsm codeW; rw [if_neg hemp]
      refine vx_ofWH (cc := mB rc) (maxL := mL rc) (ret := mT rc) hms.2.2.1 hcw fun p e s mm args below meth c s₁ B hml hP => ?_
      exact key p e s mm args below meth c s₁ B hml (vx_table (x := mY rc) B (atoms_spec (ws := wsm rc) B.pre _ (by rw [hcw]; exact List.mem_cons_self))) hP
/-! ===== the facts of the printed instructions ===== -/
theorem FK_one {own ref : String} {idx cc k : Nat} {rr : vw_C} (hcc : Nat.beq cc 50 = false) (hr : vwCl[cc]? = some rr) (hk : k < rr.2.2) (h1 : Jvm.Cond.fieldLink own idx ref (rr.2.1 k).2.1 (rr.2.1 k).2.2.1 ∈ lw_gd) (h2 : ref = (rr.2.1 k).1 ∨ Jvm.Cond.sameField ref (rr.2.1 k).1 (rr.2.1 k).2.1 (rr.2.1 k).2.2.1 ∈ lw_gd) : FK own idx cc k := by
  intro ci rr' hs hr'
  have hc : ci = cc := by
    simp only [subc, hcc, Bool.false_and, Bool.or_false] at hs
    exact (Nat.eq_of_beq_eq_true hs).symm
  subst hc
  cases hr.symm.trans hr'
  exact ⟨hk, ref, h1, h2⟩
theorem sub50 {ci : Nat} (h : subc 50 ci = true) (hr : ∃ rr, vwCl[ci]? = some rr) : ci = 2 ∨ ci = 3 ∨ ci = 5 ∨ ci = 8 ∨ ci = 9 ∨ ci = 10 := by
  obtain ⟨rr, hr⟩ := hr
  match ci, h, hr with
  | 0, h, _ => cases h
  | 1, h, _ => cases h
  | 2, _, _ => simp
  | 3, _, _ => simp
  | 4, h, _ => cases h
  | 5, _, _ => simp
  | 6, h, _ => cases h
  | 7, h, _ => cases h
  | 8, _, _ => simp
  | 9, _, _ => simp
  | 10, _, _ => simp
  | 11, h, _ => cases h
  | 12, h, _ => cases h
  | ci + 13, _, hr => cases hr
theorem sub50' {ci : Nat} (h : subc 50 ci = true) : ci = 2 ∨ ci = 3 ∨ ci = 5 ∨ ci = 8 ∨ ci = 9 ∨ ci = 10 ∨ ci = 50 := by
  simp only [subc, Bool.or_eq_true, Bool.and_eq_true] at h
  rcases h with h | ⟨-, ((((h | h) | h) | h) | h) | h⟩ <;> have := Nat.eq_of_beq_eq_true h <;> omega
theorem FK_e {own ref nm ds : String} {idx k : Nat} (h1 : Jvm.Cond.fieldLink own idx ref nm ds ∈ lw_gd) (h : ∀ ci ∈ [2, 3, 5, 8, 9, 10], ∀ rr : vw_C, vwCl[ci]? = some rr → k < rr.2.2 ∧ (rr.2.1 k).2.1 = nm ∧ (rr.2.1 k).2.2.1 = ds ∧ ref = (rr.2.1 k).1) : FK own idx 50 k := by
  intro ci rr hs hr
  have hm : ci ∈ [2, 3, 5, 8, 9, 10] := by
    rcases sub50 hs ⟨rr, hr⟩ with rfl | rfl | rfl | rfl | rfl | rfl <;> simp
  obtain ⟨a1, a2, a3, a4⟩ := h ci hm rr hr
  refine ⟨a1, ref, ?_, Or.inl a4⟩
  rw [a2, a3]
  exact h1
def tyB : Nat → FieldType → Bool
  | 0, .int => true
  | 1, .boolean => true
  | 2, .char => true
  | 3, .object _ => true
  | 3, .array _ => true
  | 4, .long => true
  | _, _ => false
theorem tyB_ok {t : Nat} {ty : FieldType} {v : Value} (h : tyB t ty = true) (hv : vok t v) : narrow ty v = v ∧ fits ty v = true := by
  match t, ty, h with
  | 0, .int, _ => cases v <;> first | exact hv.elim | exact ⟨vp_nar_int _, rfl⟩
  | 1, .boolean, _ =>
    cases v <;> try exact hv.elim
    rcases hv with rfl | rfl <;> exact ⟨rfl, rfl⟩
  | 2, .char, _ =>
    cases v <;> try exact hv.elim
    rename_i v
    refine ⟨nar_c hv, ?_⟩
    obtain ⟨h1, h2⟩ := hv
    have h3 : v.toInt ≤ 65535 := by simpa using Int32.le_iff_toInt_le.mp h2
    have h4 := (pk_charN (q := v.toNatClampNeg) (by show v.toInt.toNat < _; omega)).2
    rw [nI_back h1] at h4
    exact h4
  | 3, .object _, _ => cases v <;> first | exact hv.elim | exact ⟨rfl, rfl⟩
  | 3, .array _, _ => cases v <;> first | exact hv.elim | exact ⟨rfl, rfl⟩
  | 4, .long, _ => cases v <;> first | exact hv.elim | exact ⟨rfl, rfl⟩
theorem FP_one {r : MI} {idx cc k t : Nat} {rr : vw_C} (hF : FK (mY r).cls idx cc k) (hcc : Nat.beq cc 50 = false) (hr : vwCl[cc]? = some rr) (ht : tyB t (tyF cc k) = true) (hfin : (rr.2.1 k).2.2.2 = false ∨ ((mY r).name = "<init>" ∧ (rr.2.1 k).1 = (mY r).cls)) : FP r idx cc k t := by
  refine ⟨hF, fun ci rr' hs hr' => ?_⟩
  have hc : ci = cc := by
    simp only [subc, hcc, Bool.false_and, Bool.or_false] at hs
    exact (Nat.eq_of_beq_eq_true hs).symm
  subst hc
  cases hr.symm.trans hr'
  exact ⟨fun v hv => tyB_ok ht hv, hfin⟩
theorem FP_e {r : MI} {idx k t : Nat} (hF : FK (mY r).cls idx 50 k) (h : ∀ ci ∈ [2, 3, 5, 8, 9, 10], ∀ rr : vw_C, vwCl[ci]? = some rr → tyB t (tyF ci k) = true ∧ ((rr.2.1 k).2.2.2 = false ∨ ((mY r).name = "<init>" ∧ (rr.2.1 k).1 = (mY r).cls))) : FP r idx 50 k t := by
  refine ⟨hF, fun ci rr hs hr => ?_⟩
  have hm : ci ∈ [2, 3, 5, 8, 9, 10] := by
    rcases sub50 hs ⟨rr, hr⟩ with rfl | rfl | rfl | rfl | rfl | rfl <;> simp
  obtain ⟨h1, h2⟩ := h ci hm rr hr
  exact ⟨fun v hv => tyB_ok h1 hv, h2⟩
theorem all6 {P : Nat → vw_C → Prop} (h2 : ∀ rr : vw_C, vwCl[2]? = some rr → P 2 rr) (h3 : ∀ rr : vw_C, vwCl[3]? = some rr → P 3 rr) (h5 : ∀ rr : vw_C, vwCl[5]? = some rr → P 5 rr) (h8 : ∀ rr : vw_C, vwCl[8]? = some rr → P 8 rr) (h9 : ∀ rr : vw_C, vwCl[9]? = some rr → P 9 rr) (h10 : ∀ rr : vw_C, vwCl[10]? = some rr → P 10 rr) : ∀ ci ∈ [2, 3, 5, 8, 9, 10], ∀ rr : vw_C, vwCl[ci]? = some rr → P ci rr := by
  intro ci hm
  simp only [List.mem_cons, List.not_mem_nil, or_false] at hm
  rcases hm with rfl | rfl | rfl | rfl | rfl | rfl
  · exact h2
  · exact h3
  · exact h5
  · exact h8
  · exact h9
  · exact h10
theorem ot_in {ws : List Jvm.Cond} (ps qs : List Nat) (h1 : (ps.map fun i => tables_1[i]?) = (ws.filter goodWord).map some) (h2 : (qs.map fun i => dclL[i]?) = (ws.filter fun w => !goodWord w).map some) : ∀ w ∈ ws, w ∈ lw_gd ∨ w ∈ dclL := by
  intro w hw
  by_cases g : goodWord w = true
  · left
    have h3 : some w ∈ (ws.filter goodWord).map some := List.mem_map.mpr ⟨w, List.mem_filter.mpr ⟨hw, g⟩, rfl⟩
    rw [← h1] at h3
    obtain ⟨i, -, hi⟩ := List.mem_map.mp h3
    exact gd_t i hi g
  · right
    have h3 : some w ∈ (ws.filter fun w => !goodWord w).map some := List.mem_map.mpr ⟨w, List.mem_filter.mpr ⟨hw, by simpa using g⟩, rfl⟩
    rw [← h2] at h3
    obtain ⟨i, -, hi⟩ := List.mem_map.mp h3
    exact List.mem_of_getElem? hi
/-- the checks of a list of instructions, but the words -/
def dcB (r : MI) (t : Nat × RI) : Bool := decide (decode (mB r) t.1 = .ok (t.2.2.1, t.2.2.2.1 - t.1)) && arB r t.1 t.2.2.1 t.2.2.2.1 t.2.2.2.2.1 t.2.2.2.2.2
def isWI : Instr → Bool
  | .ldc _ => true
  | .ldc_w _ => true
  | .ldc2_w _ => true
  | .getfield _ => true
  | .putfield _ => true
  | .getstatic _ => true
  | .new _ => true
  | .newarray _ => true
  | .anewarray _ => true
  | .checkcast _ => true
  | .invokestatic _ => true
  | .invokevirtual _ => true
  | .invokespecial _ => true
  | _ => false
theorem WDI_no {r : MI} {pc x y : Nat} {i : Instr} (h : isWI i = false) : WDI r pc i x y := by
  cases i <;> first | exact trivial | (exact absurd h (by simp [isWI]))
/-- the words of a list of instructions -/
def WDs (r : MI) : List (Nat × RI) → Prop
  | [] => True
  | t :: l => if isWI t.2.2.1 = true then WDI r t.1 t.2.2.1 t.2.2.2.2.1 t.2.2.2.2.2 ∧ WDs r l else WDs r l
theorem SF_all {r : MI} : ∀ {l : List (Nat × RI)}, l.all (dcB r) = true → WDs r l → ∀ t ∈ l, SF r t
  | [], _, _, t, ht => nomatch ht
  | q :: l, h1, h2, t, ht => by
    simp only [List.all_cons, Bool.and_eq_true] at h1
    obtain ⟨ha, hb⟩ := h1
    unfold WDs at h2
    have hq : WDI r q.1 q.2.2.1 q.2.2.2.2.1 q.2.2.2.2.2 ∧ WDs r l := by
      by_cases hw : isWI q.2.2.1 = true
      · rw [if_pos hw] at h2; exact h2
      · rw [if_neg hw] at h2; exact ⟨WDI_no (by simpa using hw), h2⟩
    rcases List.mem_cons.mp ht with rfl | ht
    · simp only [dcB, Bool.and_eq_true, decide_eq_true_eq] at ha
      exact ⟨ha.1, ha.2, hq.1⟩
    · exact SF_all hb hq.2 t ht
theorem SF_app {r : MI} {l1 l2 : List (Nat × RI)} (h1 : ∀ t ∈ l1, SF r t) (h2 : ∀ t ∈ l2, SF r t) : ∀ t ∈ l1 ++ l2, SF r t := fun t ht => (List.mem_append.mp ht).elim (h1 t) (h2 t)
