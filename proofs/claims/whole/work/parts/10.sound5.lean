/-! contracts of whole methods -/
def codeW (r : MI) : Jvm.Cond := if (mH r).isEmpty = true then .code (mY r) (mB r) (mL r) (mT r) else .codeWith (mY r) (mB r) (mL r) (mT r) ((mH r).map fun q => (q.1, q.2.1, q.2.2.1, q.2.2.2.1))
noncomputable def wsm (r : MI) : List Jvm.Cond := codeW r :: lw_gd
def Afr (h : AH) (sz : Nat) : Nat → Prop := fun q => (∃ x, h q = some x) ∨ sz ≤ q
def Pcc (D : va_G) (tys : List (ClassId × FieldType)) (E : EX) (as : List Value) (h : AH) (sz : Nat) : Array Value → State → Prop := fun v U => v = as.toArray ∧ U.heap.size = sz ∧ hrl D tys h U.heap ∧ va_K D vwCl tys U ∧ ZZ E (Afr h sz) U U.heap
def Qcc (D : va_G) (tys : List (ClassId × FieldType)) (h : AH) (sz : Nat) (Q : QT) : Array Value → State → Outcome → State → Prop := fun _ st o t => ∃ (vo : Option Value) (h' : AH), o = .returned vo ∧ Q (.ok vo) h' t.heap.size ∧ hrl D tys h' t.heap ∧ (∀ q x, h' q = some x → Afr h sz q) ∧ va_F (Afr h sz) st t
def XCC (D : va_G) (tys : List (ClassId × FieldType)) (h : AH) (sz : Nat) (Q : QT) : String → State → State → Prop := fun Ex st t => ∃ h' : AH, Q (.error Ex) h' t.heap.size ∧ hrl D tys h' t.heap ∧ (∀ q x, h' q = some x → Afr h sz q) ∧ va_F (Afr h sz) st t
theorem Pcc.blind {D : va_G} {tys : List (ClassId × FieldType)} {E : EX} {as : List Value} {h : AH} {sz : Nat} : FrameBlind (Pcc D tys E as h sz) := by
  intro a U g mk q
  obtain ⟨q0, q1, q2, q3, q4⟩ := q
  exact ⟨q0, q1, q2, va_K.moved (u := U) (U := U.calling g mk a) (Vm.Alike.refl U.vm) q3, ZZ.same (s := U) (U := U.calling g mk a) rfl q4⟩
abbrev Ctr (l : Launch) (D : va_G) (tys : List (ClassId × FieldType)) (E : EX) (d : Nat) (r : MI) (as : List Value) (h : AH) (sz : Nat) (Q : QT) : Prop :=
  vx_Met l (mY r) (wsm r) ({ frames := d, cells := mC r, slots := mS r, locals := 37 * d }) (Pcc D tys E as h sz) (Qcc D tys h sz Q) (XCC D tys h sz Q) (mC r) (mS r) (Afr h sz)
/-- what the tables say of every method -/
def MS (r : MI) : Prop := codeW r ∈ lw_tbl ∧ Jvm.Cond.initialized (mY r).cls ∈ lw_gd ∧ plainName (mY r).cls = true ∧ ((mY r).cls ≠ "java/lang/invoke/MethodHandle" ∧ (mY r).cls ≠ "java/lang/invoke/VarHandle") ∧ mL r ≤ 18
theorem codeW_good (r : MI) : goodWord (codeW r) = true := by
  unfold codeW
  split <;> rfl
theorem wsm_good {r : MI} (h : MS r) : GoodIn lw_tbl (wsm r) := by
  intro w hw
  rcases List.mem_cons.mp hw with rfl | hw
  · exact ⟨h.1, good_of_word (codeW_good r)⟩
  · exact gd_good w hw
theorem gd_code {r : MI} (h : MS r) : codeW r ∈ lw_gd := gd_in h.1 (codeW_good r)
theorem wsm_gd {r : MI} (h : MS r) : GoodIn lw_gd (wsm r) := by
  intro w hw
  rcases List.mem_cons.mp hw with rfl | hw
  · exact ⟨gd_code h, good_of_word (codeW_good r)⟩
  · exact ⟨hw, (gd_good w hw).2⟩
section SND4
variable {p : Program} {l : Launch} {e : Env} {R : Room} {s : State} {m : MethodId} {args : Array Value} {below : List Frame} {meth : Method} {c : Code} {Qg : State → Prop} {D : va_G} {tys : List (ClassId × FieldType)} {A : Nat → Prop} {r : MI} {E : EX} {d : Nat}
variable {pc : Nat} {L : LV} {S : List Value} {h : AH} {sz nc ns : Nat}
/-- where a callee has thrown and nothing here catches -/
def TH (p : Program) (l : Launch) (e : Env) (R : Room) (s : State) (m : MethodId) (args : Array Value) (below : List Frame) (meth : Method) (c : Code) (Qg : State → Prop) (D : va_G) (tys : List (ClassId × FieldType)) (A : Nat → Prop) (r : MI) (Q : QT) : Prop :=
  ∀ (Ex : String) (h' : AH) (H : Heap) (locs : List Loc) (ls : Array Slot) (pc : Nat) (rest : List Value) (q : Addr) (ce : Cell) (nc ns : Nat), Q (.error Ex) h' H.size → hrl D tys h' H → (∀ q x, h' q = some x → A q) → va_S A s.heap H locs → nc ≤ mC r → ns ≤ mS r → H[q]? = some ce → ce.vm = .none → s.vm.findClass Ex = some ce.cls → (mH r).isEmpty = true → vx_W p l e R s m args below meth c H locs nc ns Qg (F0 m pc ls rest) q
/-- behind a call -/
theorem sx_back (C : CX p l R s m args meth c r D tys E A d) {Q Q' : QT} {n mc ms : Nat} {a : Array Value} {rest st0 : List Value} {H : Heap} {locs : List Loc} {ls : Array Slot} (hTH : TH p l e R s m args below meth c Qg D tys A r Q)
    (hcat : ∀ x ∈ mH r, Jvm.Cond.classLink (mY r).cls x.2.2.2.1 x.2.2.2.2 ∈ lw_gd ∧ x.2.2.2.1 ≠ 0 ∧ Jvm.Cond.castable x.2.2.2.2 x.2.2.2.2 ∈ dclL) (hnc : (mH r).Pairwise (fun x y => (y.2.2.2.2, x.2.2.2.2) ∈ ncL))
    (k1 : hrl D tys h H) (k2 : H.size = sz) (k3 : ∀ q x, h q = some x → A q) (k4 : va_S A s.heap H locs) (k5 : LH ls (mL r) L) (g1 : nc + mc ≤ mC r) (g2 : ns + ms ≤ mS r) (hn : n = pc + 3)
    (hr : vx_Run p l e R s m args below meth c H locs nc ns mc ms (F0 m pc ls st0) rest (Qcc D tys h sz Q' a) (XCC D tys h sz Q') (Afr h sz))
    (K : ∀ o h' sz', Q' o h' sz' → aft r Q (XS p l e R s m args below meth c Qg D tys A r) pc n L rest (nc + mc) (ns + ms) o h' sz') : W p l e R s m args below meth c H locs nc ns Qg (F0 m pc ls st0) := by
  have hAf : ∀ q, Afr h sz q → A q := by
    intro q hq
    rcases hq with ⟨x, hq⟩ | hq
    · exact k3 q x hq
    · obtain ⟨-, -, -, -, -, -, hA, -⟩ := C
      exact hA q (Nat.le_trans k4.1 (by rw [k2]; exact hq))
  intro T hT X
  rcases hr T hT X with ⟨v, st₀, t, T', Lc, h0, X', hL, e1, e2, ⟨vo, h', hv, hq, hh, hdom, hF⟩, st⟩ | ⟨q, st₀, t, T', Lc, Ex, ce, h0, X', hL, e1, e2, ⟨h', hq, hh, hdom, hF⟩, hce, hcv, hcl, st⟩
  · cases hv
    obtain ⟨-, -, j3⟩ := vx_keep h0 e1 k4 (fun q _ h9 => hAf q h9) hAf hL hF
    have h9 := K _ _ _ hq
    subst hn
    cases v with
    | none =>
      obtain ⟨t2, a1, b1⟩ := h9 T'.heap (locs ++ Lc) ls (by rw [e1]; exact hh) (by rw [e1]) (fun q x hx => hAf q (hdom q x hx)) j3 k5 g1 g2 T' rfl X'
      exact ⟨t2, st t2 a1, b1⟩
    | some v =>
      obtain ⟨t2, a1, b1⟩ := h9 T'.heap (locs ++ Lc) ls (by rw [e1]; exact hh) (by rw [e1]) (fun q x hx => hAf q (hdom q x hx)) j3 k5 g1 g2 T' rfl X'
      exact ⟨t2, st t2 a1, b1⟩
  · obtain ⟨-, -, j3⟩ := vx_keep h0 e1 k4 (fun q _ h9 => hAf q h9) hAf hL hF
    have h9 := K _ _ _ hq
    simp only [aft] at h9
    cases hh9 : hnd (mH r) pc Ex with
    | none =>
      simp only [hh9] at h9
      obtain ⟨hemp, hQ⟩ := h9
      obtain ⟨t2, a1, b1⟩ := hTH Ex h' T'.heap (locs ++ Lc) ls pc rest q ce (nc + mc) (ns + ms) (by rw [e1]; exact hQ) (by rw [e1]; exact hh) (fun q x hx => hAf q (hdom q x hx)) j3 g1 g2 (by rw [e1]; exact hce) hcv hcl (by rw [hemp]; rfl) T' rfl X'
      exact ⟨t2, st.trans a1, b1⟩
    | some hp =>
      simp only [hh9] at h9
      have C' := C
      obtain ⟨hx, hb, hml, hown, hts, hK, hA, -, -, -, ⟨-, -, -, -, -, -, -, -, hNc, -⟩, -, htab, -⟩ := C
      have key : ∀ (hs : List (Nat × Nat × Nat × Nat × String)), (∀ x ∈ hs, x ∈ mH r) → hs.Pairwise (fun x y => (y.2.2.2.2, x.2.2.2.2) ∈ ncL) → hnd hs pc Ex = some hp →
          ∃ pre x suf, hs = pre ++ x :: suf ∧ (∀ z ∈ pre, ¬ (z.1 ≤ pc ∧ pc < z.2.1) ∨ (Ex, z.2.2.2.2) ∈ ncL) ∧ (x.1 ≤ pc ∧ pc < x.2.1) ∧ x.2.2.2.2 = Ex ∧ x.2.2.1 = hp := by
        intro hs
        induction hs with
        | nil => intro _ _ h8; cases h8
        | cons z hs ih =>
          intro hm hpw h8
          obtain ⟨za, zb, zp, zt, zE⟩ := z
          unfold hnd at h8
          by_cases hc : za ≤ pc ∧ pc < zb ∧ zE = Ex
          · rw [if_pos hc] at h8
            cases h8
            exact ⟨[], _, hs, rfl, fun z hz => (by cases hz), ⟨hc.1, hc.2.1⟩, hc.2.2, rfl⟩
          · rw [if_neg hc] at h8
            obtain ⟨hp1, hp2⟩ := List.pairwise_cons.mp hpw
            obtain ⟨pre, x, suf, e3, e4, e5, e6, e7⟩ := ih (fun x hx => hm x (List.mem_cons_of_mem _ hx)) hp2 h8
            refine ⟨(za, zb, zp, zt, zE) :: pre, x, suf, by rw [e3]; rfl, fun z hz => ?_, e5, e6, e7⟩
            rcases List.mem_cons.mp hz with rfl | hz
            · right
              have h7 := hp1 x (by rw [e3]; exact List.mem_append_right _ List.mem_cons_self)
              rw [e6] at h7
              exact h7
            · exact e4 z hz
      obtain ⟨pre, x, suf, e3, e4, e5, e6, e7⟩ := key (mH r) (fun x hx => hx) hnc hh9
      obtain ⟨hc1, hc2, hc3⟩ := hcat x (by rw [e3]; exact List.mem_append_right _ List.mem_cons_self)
      have hcov : ∀ z : Nat × Nat × Nat × Nat × String, covers (⟨z.1, z.2.1, z.2.2.1, z.2.2.2.1⟩ : ExceptionTableEntry) pc = true ↔ (z.1 ≤ pc ∧ pc < z.2.1) := fun z => by simp [covers]
      have hcatch : vx_W p l e R s m args below meth c T'.heap (locs ++ Lc) (nc + mc) (ns + ms) Qg (F0 m pc ls rest) q := by
        refine vx_catch (own := (mY r).cls) (name := x.2.2.2.2) hown (tableOf (pre.map fun q => (q.1, q.2.1, q.2.2.1, q.2.2.2.1))) ⟨x.1, x.2.1, x.2.2.1, x.2.2.2.1⟩ (tableOf (suf.map fun q => (q.1, q.2.1, q.2.2.1, q.2.2.2.1))) (by rw [htab, e3]; simp [tableOf]) (fun z hz => ?_) ((hcov x).mpr e5) hc2 (hts _ hc1) (va_Nw.use rfl (by rw [← e6]; exact CX.dcl C' hc3)) (by rw [e1]; exact hce) hcv hcl ?_
        · simp only [tableOf, List.mem_map, List.map_map] at hz
          obtain ⟨z0, hz0, rfl⟩ := hz
          by_cases hcz : z0.1 ≤ pc ∧ pc < z0.2.1
          · right
            rcases e4 z0 hz0 with q9 | q9
            · exact absurd hcz q9
            · obtain ⟨hd1, hd2, -⟩ := hcat z0 (by rw [e3]; exact List.mem_append_left _ hz0)
              exact ⟨hd2, _, hts _ hd1, hNc _ q9⟩
          · left
            have h6 : ¬ covers (⟨z0.1, z0.2.1, z0.2.2.1, z0.2.2.2.1⟩ : ExceptionTableEntry) pc = true := fun q9 => hcz ((hcov z0).mp q9)
            simpa using h6
        · show W p l e R s m args below meth c T'.heap (locs ++ Lc) (nc + mc) (ns + ms) Qg (F0 m x.2.2.1 ls [.ref q])
          rw [e7]
          exact h9 q T'.heap (locs ++ Lc) ls (by rw [e1]; exact hh) (by rw [e1]) (fun q x hx => hAf q (hdom q x hx)) j3 k5 g1 g2
      obtain ⟨t2, a1, b1⟩ := hcatch T' rfl X'
      exact ⟨t2, st.trans a1, b1⟩
/-- a call's facts by the tables: 0 static, 1 special, 2 virtual (its class), 3 virtual by the receiver's class -/
def CF (own : String) (idx n : Nat) (rc : MI) : Prop := Jvm.Cond.methodLink own idx (mY rc) ∈ lw_gd ∧ (parseMethodDescriptor (mY rc).desc).map (fun d => d.parameters.length) = some n
theorem pcc_now (C : CX p l R s m args meth c r D tys E A d) {H : Heap} {locs : List Loc} {as : List Value} (k1 : hrl D tys h H) (k2 : H.size = sz) (k3 : ∀ q x, h q = some x → A q) (k4 : va_S A s.heap H locs) : ∀ U : State, U.heap = H → s.WarmedH U.vm → Pcc D tys E as h sz as.toArray U := by
  obtain ⟨-, -, -, -, -, hK, hA, -, -, -, hZ, -⟩ := C
  intro U hU hW
  refine ⟨rfl, by rw [hU]; exact k2, by rw [hU]; exact k1, va_K.moved hW.alike hK, ?_⟩
  rw [hU]
  refine ZZ.warm hW (ZZ.narrow (A := A) (fun q hq => ?_) (ZZ.kept k4.2.1 hZ))
  rcases hq with ⟨x, hq⟩ | hq
  · exact k3 q x hq
  · exact hA q (Nat.le_trans k4.1 (by rw [k2]; exact hq))
theorem sx_callS (C : CX p l R s m args meth c r D tys E A (d + 1)) {Q Q' : QT} {idx n : Nat} {as rest : List Value} {rc : MI} (hTH : TH p l e R s m args below meth c Qg D tys A r Q)
    (hcat : ∀ x ∈ mH r, Jvm.Cond.classLink (mY r).cls x.2.2.2.1 x.2.2.2.2 ∈ lw_gd ∧ x.2.2.2.1 ≠ 0 ∧ Jvm.Cond.castable x.2.2.2.2 x.2.2.2.2 ∈ dclL) (hnc : (mH r).Pairwise (fun x y => (y.2.2.2.2, x.2.2.2.2) ∈ ncL))
    (hd : decode (mB r) pc = .ok (.invokestatic idx, 3)) (hM : Ctr l D tys E d rc as h sz Q') (hms : MS rc) (hcf : CF (mY r).cls idx as.length rc) (hst : Jvm.Cond.static (mY rc) ∈ lw_gd) (hS : S = as.reverse ++ rest) (hc : catS rest ≤ 8) (g1 : nc + mC rc ≤ mC r) (g2 : ns + mS rc ≤ mS r) (hn : n = pc + 3)
    (K : ∀ o h' sz', Q' o h' sz' → aft r Q (XS p l e R s m args below meth c Qg D tys A r) pc n L rest (nc + mC rc) (ns + mS rc) o h' sz') : XS p l e R s m args below meth c Qg D tys A r pc L S h sz nc ns := by
  intro H locs ls k1 k2 k3 k4 k5 k6 k7
  refine sx_back C hTH hcat hnc k1 k2 k3 k4 k5 g1 g2 hn (mc := mC rc) (ms := mS rc) ?_ K (a := as.toArray)
  have hpc := pcc_now C (as := as) k1 k2 k3 k4
  obtain ⟨hx, hb, hml, hown, hts, hK, hA, -, -, ⟨r1, r2, r3, r4⟩, -⟩ := C
  rw [catS_eq] at hc
  have hW : 2 * (F0 m pc ls S).monitorRoom + (rest.map fun v => v.category).sum ≤ 8 := by show 2 * 0 + _ ≤ 8; omega
  have hgw := wsm_gd hms
  obtain ⟨hm1, hm2, hm3, hm4, hm5⟩ := hms
  have hroom : ({ frames := d, cells := mC rc, slots := mS rc, locals := 37 * d } : Room).frames + 1 ≤ R.frames ∧ 8 + (mL rc + 11) + ({ frames := d, cells := mC rc, slots := mS rc, locals := 37 * d } : Room).locals ≤ R.locals := ⟨r1, by show 8 + (mL rc + 11) + 37 * d ≤ _; omega⟩
  have hTs : ∀ w ∈ va_wsS (mY r).cls idx (mY rc) (wsm rc), w ∈ lw_gd := by
    intro w hw
    simp only [va_wsS, List.mem_append, List.mem_cons, List.not_mem_nil, or_false] at hw
    rcases hw with (rfl | rfl | rfl) | hw
    · exact hcf.1
    · exact hst
    · exact hm2
    · exact (hgw w hw).1
  have hGI : GoodIn lw_gd (va_wsS (mY r).cls idx (mY rc) (wsm rc)) := fun w hw => ⟨hTs w hw, (gd_good w (hTs w hw)).2⟩
  by_cases hemp : (mH rc).isEmpty = true
  · have hcw : wsm rc = Jvm.Cond.code (mY rc) (mB rc) (mL rc) (mT rc) :: lw_gd := by unfold wsm codeW; rw [if_pos hemp]
    exact vx_runS (own := (mY r).cls) (Ts := lw_gd) (nL := mL r) ⟨hx, hb, hml, hown, hts⟩ hM (va_cwS as.length hts hGI hcw rfl rfl ⟨hm4.1, hm4.2, hcf.2⟩ hroom) ⟨Pcc.blind, hpc⟩ rfl rfl k5.1 hS hW hd ⟨Nat.le_trans g1 r3, Nat.le_trans g2 r4⟩
  · have hcw : wsm rc = Jvm.Cond.codeWith (mY rc) (mB rc) (mL rc) (mT rc) ((mH rc).map fun q => (q.1, q.2.1, q.2.2.1, q.2.2.2.1)) :: lw_gd := by unfold wsm codeW; rw [if_neg hemp]
    exact vx_runSX (own := (mY r).cls) (Ts := lw_gd) (nL := mL r) ⟨hx, hb, hml, hown, hts⟩ hM (vx_cwSW as.length hts hGI hcw rfl rfl ⟨hm4.1, hm4.2, hcf.2⟩ hroom) ⟨Pcc.blind, hpc⟩ rfl rfl k5.1 hS hW hd ⟨Nat.le_trans g1 r3, Nat.le_trans g2 r4⟩
theorem sx_callI (C : CX p l R s m args meth c r D tys E A (d + 1)) {Q Q' : QT} {idx n a : Nat} {as rest : List Value} {rc : MI} (hTH : TH p l e R s m args below meth c Qg D tys A r Q)
    (hcat : ∀ x ∈ mH r, Jvm.Cond.classLink (mY r).cls x.2.2.2.1 x.2.2.2.2 ∈ lw_gd ∧ x.2.2.2.1 ≠ 0 ∧ Jvm.Cond.castable x.2.2.2.2 x.2.2.2.2 ∈ dclL) (hnc : (mH r).Pairwise (fun x y => (y.2.2.2.2, x.2.2.2.2) ∈ ncL))
    (hd : decode (mB r) pc = .ok (.invokespecial idx, 3)) (hM : Ctr l D tys E d rc (.ref a :: as) h sz Q') (hms : MS rc) (hcf : CF (mY r).cls idx as.length rc) (hin : Jvm.Cond.instanceMethod (mY rc) ∈ lw_gd) (hnm : (mY rc).name = "<init>") (hvd : mT rc = none) (hnh : (mH rc).isEmpty = true) (hS : S = as.reverse ++ .ref a :: rest) (hc : catS rest ≤ 8) (g1 : nc + mC rc ≤ mC r) (g2 : ns + mS rc ≤ mS r) (hn : n = pc + 3)
    (K : ∀ o h' sz', Q' o h' sz' → aft r Q (XS p l e R s m args below meth c Qg D tys A r) pc n L rest (nc + mC rc) (ns + mS rc) o h' sz') : XS p l e R s m args below meth c Qg D tys A r pc L S h sz nc ns := by
  intro H locs ls k1 k2 k3 k4 k5 k6 k7
  refine sx_back C hTH hcat hnc k1 k2 k3 k4 k5 g1 g2 hn (mc := mC rc) (ms := mS rc) ?_ K (a := (Value.ref a :: as).toArray)
  have hpc := pcc_now C (as := .ref a :: as) k1 k2 k3 k4
  obtain ⟨hx, hb, hml, hown, hts, hK, hA, -, -, ⟨r1, r2, r3, r4⟩, -⟩ := C
  rw [catS_eq] at hc
  have hW : 2 * (F0 m pc ls S).monitorRoom + (rest.map fun v => v.category).sum ≤ 8 := by show 2 * 0 + _ ≤ 8; omega
  have hgw := wsm_gd hms
  obtain ⟨hm1, hm2, hm3, hm4, hm5⟩ := hms
  have hroom : ({ frames := d, cells := mC rc, slots := mS rc, locals := 37 * d } : Room).frames + 1 ≤ R.frames ∧ 8 + (mL rc + 11) + ({ frames := d, cells := mC rc, slots := mS rc, locals := 37 * d } : Room).locals ≤ R.locals := ⟨r1, by show 8 + (mL rc + 11) + 37 * d ≤ _; omega⟩
  have hcw : wsm rc = Jvm.Cond.code (mY rc) (mB rc) (mL rc) none :: lw_gd := by unfold wsm codeW; rw [if_pos hnh, hvd]
  exact vx_runI (own := (mY r).cls) (Ts := lw_gd) (nL := mL r) ⟨hx, hb, hml, hown, hts⟩ hM (cwI as.length hts hgw hcw rfl rfl (hts _ hm2) (hts _ hcf.1) (hts _ hin) hnm ⟨hm4.1, hm4.2, hcf.2⟩ hroom) ⟨Pcc.blind, hpc⟩ rfl rfl k5.1 hS hW hd ⟨Nat.le_trans g1 r3, Nat.le_trans g2 r4⟩
theorem sx_callV (C : CX p l R s m args meth c r D tys E A (d + 1)) {Q Q' : QT} {idx n a ci : Nat} {fs as rest : List Value} {rc : MI} {rr : vw_C} (hTH : TH p l e R s m args below meth c Qg D tys A r Q)
    (hcat : ∀ x ∈ mH r, Jvm.Cond.classLink (mY r).cls x.2.2.2.1 x.2.2.2.2 ∈ lw_gd ∧ x.2.2.2.1 ≠ 0 ∧ Jvm.Cond.castable x.2.2.2.2 x.2.2.2.2 ∈ dclL) (hnc : (mH r).Pairwise (fun x y => (y.2.2.2.2, x.2.2.2.2) ∈ ncL))
    (hd : decode (mB r) pc = .ok (.invokevirtual idx, 3)) (ha : h a = some (.inr (ci, fs))) (hrr : vwCl[ci]? = some rr) (hrc : rr.1 = (mY rc).cls) (hM : Ctr l D tys E d rc (.ref a :: as) h sz Q') (hms : MS rc) (hcf : CF (mY r).cls idx as.length rc) (hin : Jvm.Cond.instanceMethod (mY rc) ∈ lw_gd) (hsel : Jvm.Cond.selects (mY rc).cls (mY rc) (mY rc) ∈ lw_gd) (hnh : (mH rc).isEmpty = true) (hS : S = as.reverse ++ .ref a :: rest) (hc : catS rest ≤ 8) (g1 : nc + mC rc ≤ mC r) (g2 : ns + mS rc ≤ mS r) (hn : n = pc + 3)
    (K : ∀ o h' sz', Q' o h' sz' → aft r Q (XS p l e R s m args below meth c Qg D tys A r) pc n L rest (nc + mC rc) (ns + mS rc) o h' sz') : XS p l e R s m args below meth c Qg D tys A r pc L S h sz nc ns := by
  intro H locs ls k1 k2 k3 k4 k5 k6 k7
  refine sx_back C hTH hcat hnc k1 k2 k3 k4 k5 g1 g2 hn (mc := mC rc) (ms := mS rc) ?_ K (a := (Value.ref a :: as).toArray)
  have hpc := pcc_now C (as := .ref a :: as) k1 k2 k3 k4
  obtain ⟨hx, hb, hml, hown, hts, hK, hA, -, -, ⟨r1, r2, r3, r4⟩, -⟩ := C
  rw [catS_eq] at hc
  have hW : 2 * (F0 m pc ls S).monitorRoom + (rest.map fun v => v.category).sum ≤ 8 := by show 2 * 0 + _ ≤ 8; omega
  have hgw := wsm_gd hms
  obtain ⟨hm1, hm2, hm3, hm4, hm5⟩ := hms
  have hroom : ({ frames := d, cells := mC rc, slots := mS rc, locals := 37 * d } : Room).frames + 1 ≤ R.frames ∧ 8 + (mL rc + 11) + ({ frames := d, cells := mC rc, slots := mS rc, locals := 37 * d } : Room).locals ≤ R.locals := ⟨r1, by show 8 + (mL rc + 11) + 37 * d ≤ _; omega⟩
  have hcw : wsm rc = Jvm.Cond.code (mY rc) (mB rc) (mL rc) (mT rc) :: lw_gd := by unfold wsm codeW; rw [if_pos hnh]
  have hTs : ∀ w ∈ wsV (mY r).cls idx (mY rc).cls (mY rc) (wsm rc), w ∈ lw_gd := by
    intro w hw
    simp only [wsV, List.mem_append, List.mem_cons, List.not_mem_nil, or_false] at hw
    rcases hw with (rfl | rfl | rfl | rfl) | hw
    · exact hcf.1
    · exact hin
    · exact hsel
    · exact hm2
    · exact (hgw w hw).1
  have hGI : GoodIn lw_gd (wsV (mY r).cls idx (mY rc).cls (mY rc) (wsm rc)) := fun w hw => ⟨hTs w hw, (gd_good w (hTs w hw)).2⟩
  have hrec := va_recv hK (k1 a _ ha).PO (q0 := 0) hrr rfl
  rw [hrc] at hrec
  exact vx_runV (own := (mY r).cls) (Ts := lw_gd) (nL := mL r) (C := (mY rc).cls) ⟨hx, hb, hml, hown, hts⟩ hM (cwV as.length hts hGI hcw rfl rfl ⟨rfl, hm4.1, hm4.2, hcf.2⟩ hroom) ⟨Pcc.blind, hrec, hpc⟩ rfl rfl k5.1 hS hW hd ⟨Nat.le_trans g1 r3, Nat.le_trans g2 r4⟩
def yDO : MethodName := ⟨"Dominofs$Entry", "doOn", "(LDominofs$Table;)V"⟩
theorem sx_callU (C : CX p l R s m args meth c r D tys E A (d + 1)) {Q Q' : QT} {idx n a ci : Nat} {fs as rest : List Value} {rc : MI} {rr : vw_C} (hTH : TH p l e R s m args below meth c Qg D tys A r Q)
    (hcat : ∀ x ∈ mH r, Jvm.Cond.classLink (mY r).cls x.2.2.2.1 x.2.2.2.2 ∈ lw_gd ∧ x.2.2.2.1 ≠ 0 ∧ Jvm.Cond.castable x.2.2.2.2 x.2.2.2.2 ∈ dclL) (hnc : (mH r).Pairwise (fun x y => (y.2.2.2.2, x.2.2.2.2) ∈ ncL))
    (hd : decode (mB r) pc = .ok (.invokevirtual idx, 3)) (ha : h a = some (.inr (ci, fs))) (hrr : vwCl[ci]? = some rr) (hM : Ctr l D tys E d rc (.ref a :: as) h sz Q') (hms : MS rc) (hl1 : as.length = 1) (hlk : Jvm.Cond.methodLink (mY r).cls idx yDO ∈ lw_gd) (hsm : Jvm.Cond.sameMethod "Dominofs$Entry" "Dominofs$Entry" "doOn" "(LDominofs$Table;)V" ∈ lw_gd) (hdc : Jvm.Cond.declares yDO ∈ dclL) (hin : Jvm.Cond.instanceMethod (mY rc) ∈ lw_gd) (hsel : Jvm.Cond.selects rr.1 yDO (mY rc) ∈ lw_gd) (hnh : (mH rc).isEmpty = true) (hS : S = as.reverse ++ .ref a :: rest) (hc : catS rest ≤ 8) (g1 : nc + mC rc ≤ mC r) (g2 : ns + mS rc ≤ mS r) (hn : n = pc + 3)
    (K : ∀ o h' sz', Q' o h' sz' → aft r Q (XS p l e R s m args below meth c Qg D tys A r) pc n L rest (nc + mC rc) (ns + mS rc) o h' sz') : XS p l e R s m args below meth c Qg D tys A r pc L S h sz nc ns := by
  intro H locs ls k1 k2 k3 k4 k5 k6 k7
  refine sx_back C hTH hcat hnc k1 k2 k3 k4 k5 g1 g2 hn (mc := mC rc) (ms := mS rc) ?_ K (a := (Value.ref a :: as).toArray)
  have hpc := pcc_now C (as := .ref a :: as) k1 k2 k3 k4
  have hz := CX.dcl C hdc
  obtain ⟨hx, hb, hml, hown, hts, hK, hA, -, -, ⟨r1, r2, r3, r4⟩, -⟩ := C
  rw [catS_eq] at hc
  have hW : 2 * (F0 m pc ls S).monitorRoom + (rest.map fun v => v.category).sum ≤ 8 := by show 2 * 0 + _ ≤ 8; omega
  have hgw := wsm_gd hms
  obtain ⟨hm1, hm2, hm3, hm4, hm5⟩ := hms
  have hroom : ({ frames := d, cells := mC rc, slots := mS rc, locals := 37 * d } : Room).frames + 1 ≤ R.frames ∧ 8 + (mL rc + 11) + ({ frames := d, cells := mC rc, slots := mS rc, locals := 37 * d } : Room).locals ≤ R.locals := ⟨r1, by show 8 + (mL rc + 11) + 37 * d ≤ _; omega⟩
  have hcw : wsm rc = Jvm.Cond.code (mY rc) (mB rc) (mL rc) (mT rc) :: lw_gd := by unfold wsm codeW; rw [if_pos hnh]
  have hTs : ∀ w ∈ va_wsU (mY r).cls idx rr.1 "Dominofs$Entry" yDO (mY rc) (wsm rc), w ∈ lw_gd := by
    intro w hw
    simp only [va_wsU, List.mem_append, List.mem_cons, List.not_mem_nil, or_false] at hw
    rcases hw with (rfl | rfl | rfl | rfl | rfl) | hw
    · exact hlk
    · exact hsm
    · exact hsel
    · exact hin
    · exact hm2
    · exact (hgw w hw).1
  have hGI : GoodIn lw_gd (va_wsU (mY r).cls idx rr.1 "Dominofs$Entry" yDO (mY rc) (wsm rc)) := fun w hw => ⟨hTs w hw, (gd_good w (hTs w hw)).2⟩
  have hrec := va_recv hK (k1 a _ ha).PO (q0 := 0) hrr rfl
  exact vx_runU (x := yDO) (own := (mY r).cls) (Ts := lw_gd) (nL := mL r) (C := rr.1) (owner := "Dominofs$Entry") ⟨hx, hb, hml, hown, hts⟩ hM (va_cwA as.length hts hGI hcw rfl rfl hz ⟨by decide, by decide, by rw [hl1]; decide +kernel⟩ hroom) ⟨Pcc.blind, hrec, hpc⟩ rfl rfl k5.1 hS hW hd ⟨Nat.le_trans g1 r3, Nat.le_trans g2 r4⟩
end SND4
