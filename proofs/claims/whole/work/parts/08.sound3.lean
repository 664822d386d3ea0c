section SND2
variable {p : Program} {l : Launch} {e : Env} {R : Room} {s : State} {m : MethodId} {args : Array Value} {below : List Frame} {meth : Method} {c : Code} {Qg : State → Prop} {D : va_G} {tys : List (ClassId × FieldType)} {A : Nat → Prop} {r : MI} {E : EX} {d : Nat}
variable {pc : Nat} {L : LV} {S : List Value} {h : AH} {sz nc ns : Nat}
def tyk : Nat → FieldType
  | 0 => .int
  | 1 => .boolean
  | 2 => .object "Dominofs$Game"
  | 3 => .object "java/lang/Object"
  | 4 => .long
  | _ => .double
theorem CX.ty (C : CX p l R s m args meth c r D tys E A d) {k : Nat} {t : ClassId × FieldType} (ht : tys[k]? = some t) : t.2 = tyk k := by
  obtain ⟨-, -, -, -, -, -, -, -, -, -, -, -, -, cs, hc⟩ := C
  subst hc
  match k, ht with
  | 0, ht => cases ht; rfl
  | 1, ht => cases ht; rfl
  | 2, ht => cases ht; rfl
  | 3, ht => cases ht; rfl
  | 4, ht => cases ht; rfl
  | 5, ht => cases ht; rfl
  | k + 6, ht => cases ht
theorem dom_up {A : Nat → Prop} {h : AH} {a : Nat} {x : va_E} (k : ∀ q x, h q = some x → A q) (ha : A a) : ∀ q y, hup h a x q = some y → A q := by
  intro q y hq
  by_cases hqa : q = a
  · subst hqa; exact ha
  · rw [hup_ne _ _ hqa] at hq; exact k q y hq
theorem sx_iald (C : CX p l R s m args meth c r D tys E A d) {a n : Nat} {f : Nat → Int32} {j : Int32} (hd : decode (mB r) pc = .ok (.iaload, 1)) (ha : h a = some (.inl (0, n, .inl f))) (hin : vp_in j n) (kk : XS p l e R s m args below meth c Qg D tys A r (pc + 1) (L) (.int (f j.toNatClampNeg) :: S) h sz nc ns) : XS p l e R s m args below meth c Qg D tys A r (pc) (L) (.int j :: .ref a :: S) h sz nc ns := by
  intro H locs ls k1 k2 k3 k4 k5 k6 k7
  obtain ⟨t, ht, hP⟩ := (k1 a _ ha).P
  have hty := CX.ty C ht
  obtain ⟨hx, hb, -, -, -, hK, -⟩ := C
  obtain ⟨cA, ty⟩ := t
  simp only [tyk] at hty
  subst hty
  exact va_iald hx hb hK hP 0 0 rfl ht hin hd (kk H locs ls k1 k2 k3 k4 k5 k6 k7)
theorem sx_bald (C : CX p l R s m args meth c r D tys E A d) {a n : Nat} {f : Nat → Int32} {j : Int32} (hd : decode (mB r) pc = .ok (.baload, 1)) (ha : h a = some (.inl (1, n, .inl f))) (hin : vp_in j n) (kk : XS p l e R s m args below meth c Qg D tys A r (pc + 1) (L) (.int (f j.toNatClampNeg) :: S) h sz nc ns) : XS p l e R s m args below meth c Qg D tys A r (pc) (L) (.int j :: .ref a :: S) h sz nc ns := by
  intro H locs ls k1 k2 k3 k4 k5 k6 k7
  obtain ⟨t, ht, hP⟩ := (k1 a _ ha).P
  have hty := CX.ty C ht
  obtain ⟨hx, hb, -, -, -, hK, -⟩ := C
  obtain ⟨cA, ty⟩ := t
  simp only [tyk] at hty
  subst hty
  exact va_zald hx hb hK hP 0 1 rfl ht hin hd (kk H locs ls k1 k2 k3 k4 k5 k6 k7)
theorem sx_lald (C : CX p l R s m args meth c r D tys E A d) {a n : Nat} {f : Nat → Int64} {j : Int32} (hd : decode (mB r) pc = .ok (.laload, 1)) (ha : h a = some (.inl (4, n, .inr (.inl f)))) (hin : vp_in j n) (kk : XS p l e R s m args below meth c Qg D tys A r (pc + 1) (L) (.long (f j.toNatClampNeg) :: S) h sz nc ns) : XS p l e R s m args below meth c Qg D tys A r (pc) (L) (.int j :: .ref a :: S) h sz nc ns := by
  intro H locs ls k1 k2 k3 k4 k5 k6 k7
  obtain ⟨t, ht, hP⟩ := (k1 a _ ha).P
  have hty := CX.ty C ht
  obtain ⟨hx, hb, -, -, -, hK, -⟩ := C
  obtain ⟨cA, ty⟩ := t
  simp only [tyk] at hty
  subst hty
  exact va_lald hx hb hK hP 0 4 rfl ht hin hd (kk H locs ls k1 k2 k3 k4 k5 k6 k7)
theorem sx_dald (C : CX p l R s m args meth c r D tys E A d) {a n : Nat} {f : Nat → UInt64} {j : Int32} (hd : decode (mB r) pc = .ok (.daload, 1)) (ha : h a = some (.inl (5, n, .inr (.inr (.inr (.inl f)))))) (hin : vp_in j n) (kk : XS p l e R s m args below meth c Qg D tys A r (pc + 1) (L) (.double (f j.toNatClampNeg) :: S) h sz nc ns) : XS p l e R s m args below meth c Qg D tys A r (pc) (L) (.int j :: .ref a :: S) h sz nc ns := by
  intro H locs ls k1 k2 k3 k4 k5 k6 k7
  obtain ⟨t, ht, hP⟩ := (k1 a _ ha).P
  have hty := CX.ty C ht
  obtain ⟨hx, hb, -, -, -, hK, -⟩ := C
  obtain ⟨cA, ty⟩ := t
  simp only [tyk] at hty
  subst hty
  exact va_dald hx hb hK hP 0 5 rfl ht hin hd (kk H locs ls k1 k2 k3 k4 k5 k6 k7)
theorem sx_aald (C : CX p l R s m args meth c r D tys E A d) {a k n : Nat} {f : Nat → Option Nat} {j : Int32} (hd : decode (mB r) pc = .ok (.aaload, 1)) (ha : h a = some (.inl (k, n, refA f))) (hk : k = 2 ∨ k = 3) (hin : vp_in j n) (kk : XS p l e R s m args below meth c Qg D tys A r (pc + 1) L (va_rf (f j.toNatClampNeg) :: S) h sz nc ns) : XS p l e R s m args below meth c Qg D tys A r pc L (.int j :: .ref a :: S) h sz nc ns := by
  intro H locs ls k1 k2 k3 k4 k5 k6 k7
  obtain ⟨t, ht, hP⟩ := (k1 a _ ha).P
  have hty := CX.ty C ht
  obtain ⟨hx, hb, -, -, -, hK, -⟩ := C
  obtain ⟨cA, ty⟩ := t
  rcases hk with rfl | rfl
  · simp only [tyk] at hty
    subst hty
    exact va_aldq hx hb hK hP 0 2 rfl ht hin hd (kk H locs ls k1 k2 k3 k4 k5 k6 k7)
  · simp only [tyk] at hty
    subst hty
    exact va_aldq hx hb hK hP 0 3 rfl ht hin hd (kk H locs ls k1 k2 k3 k4 k5 k6 k7)
theorem sx_iast (C : CX p l R s m args meth c r D tys E A d) {a n : Nat} {f : Nat → Int32} {j : Int32} {v : Int32} (hd : decode (mB r) pc = .ok (.iastore, 1)) (ha : h a = some (.inl (0, n, .inl (f)))) (hin : vp_in j n) (kk : XS p l e R s m args below meth c Qg D tys A r (pc + 1) L S (hup h a (.inl (0, n, .inl (upd f j.toNatClampNeg v)))) sz nc ns) : XS p l e R s m args below meth c Qg D tys A r (pc) (L) (.int v :: .int j :: .ref a :: S) h sz nc ns := by
  intro H locs ls k1 k2 k3 k4 k5 k6 k7
  obtain ⟨t, ht, h2⟩ := k1 a _ ha
  have hty := CX.ty C ht
  obtain ⟨hx, hb, -, -, -, hK, -⟩ := C
  obtain ⟨cA, ty⟩ := t
  simp only [tyk] at hty
  subst hty
  refine W.iast hx hb h2 ((hK.2 0 _ ht).1 n (fun j => .int (f j))) (fun q => by cases q) (by show ¬ (j < 0 ∨ (arrV _ _ _).slots.size ≤ _); rw [arrV_size]; exact hin) rfl rfl hd fun H1 e z oq => ?_
  refine kk H1 _ ls (k1.up ⟨_, ht, ?_⟩ oq) (by rw [z]; exact k2) (dom_up k3 (k3 a _ ha)) (k4.put z oq (k3 a _ ha)) k5 k6 k7
  show H1[a]? = some (vp_cell _ _)
  rw [e]
  rw [vp_cell_i, vp_cell_i, arrV_store]
  congr 2
  funext q
  by_cases hq : q = j.toNatClampNeg
  · subst hq
    simp [updV, upd, vp_updL, vf_upd, vp_nar]
    try rfl
  · simp [updV, upd, vp_updL, vf_upd, hq]
theorem sx_bast (C : CX p l R s m args meth c r D tys E A d) {a n : Nat} {f : Nat → Int32} {j : Int32} {v : Int32} (hd : decode (mB r) pc = .ok (.bastore, 1)) (ha : h a = some (.inl (1, n, .inl (f)))) (hin : vp_in j n) (kk : XS p l e R s m args below meth c Qg D tys A r (pc + 1) L S (hup h a (.inl (1, n, .inl (upd f j.toNatClampNeg (vp_nar .boolean v))))) sz nc ns) : XS p l e R s m args below meth c Qg D tys A r (pc) (L) (.int v :: .int j :: .ref a :: S) h sz nc ns := by
  intro H locs ls k1 k2 k3 k4 k5 k6 k7
  obtain ⟨t, ht, h2⟩ := k1 a _ ha
  have hty := CX.ty C ht
  obtain ⟨hx, hb, -, -, -, hK, -⟩ := C
  obtain ⟨cA, ty⟩ := t
  simp only [tyk] at hty
  subst hty
  refine W.zast hx hb h2 ((hK.2 1 _ ht).1 n (fun j => .int (f j))) (fun q => by cases q) (by show ¬ (j < 0 ∨ (arrV _ _ _).slots.size ≤ _); rw [arrV_size]; exact hin) rfl rfl hd fun H1 e z oq => ?_
  refine kk H1 _ ls (k1.up ⟨_, ht, ?_⟩ oq) (by rw [z]; exact k2) (dom_up k3 (k3 a _ ha)) (k4.put z oq (k3 a _ ha)) k5 k6 k7
  show H1[a]? = some (vp_cell _ _)
  rw [e]
  rw [vp_cell_i, vp_cell_i, arrV_store]
  congr 2
  funext q
  by_cases hq : q = j.toNatClampNeg
  · subst hq
    simp [updV, upd, vp_updL, vf_upd, vp_nar]
    try rfl
  · simp [updV, upd, vp_updL, vf_upd, hq]
theorem sx_last (C : CX p l R s m args meth c r D tys E A d) {a n : Nat} {f : Nat → Int64} {j : Int32} {v : Int64} (hd : decode (mB r) pc = .ok (.lastore, 1)) (ha : h a = some (.inl (4, n, .inr (.inl (f))))) (hin : vp_in j n) (kk : XS p l e R s m args below meth c Qg D tys A r (pc + 1) L S (hup h a (.inl (4, n, .inr (.inl (vp_updL f j.toNatClampNeg v))))) sz nc ns) : XS p l e R s m args below meth c Qg D tys A r (pc) (L) (.long v :: .int j :: .ref a :: S) h sz nc ns := by
  intro H locs ls k1 k2 k3 k4 k5 k6 k7
  obtain ⟨t, ht, h2⟩ := k1 a _ ha
  have hty := CX.ty C ht
  obtain ⟨hx, hb, -, -, -, hK, -⟩ := C
  obtain ⟨cA, ty⟩ := t
  simp only [tyk] at hty
  subst hty
  refine W.last hx hb h2 ((hK.2 4 _ ht).1 n (fun j => .long (f j))) (fun q => by cases q) (by show ¬ (j < 0 ∨ (arrV _ _ _).slots.size ≤ _); rw [arrV_size]; exact hin) rfl rfl hd fun H1 e z oq => ?_
  refine kk H1 _ ls (k1.up ⟨_, ht, ?_⟩ oq) (by rw [z]; exact k2) (dom_up k3 (k3 a _ ha)) (k4.put z oq (k3 a _ ha)) k5 k6 k7
  show H1[a]? = some (vp_cell _ _)
  rw [e]
  rw [vp_cell_l, vp_cell_l, arrV_store]
  congr 2
  funext q
  by_cases hq : q = j.toNatClampNeg
  · subst hq
    simp [updV, upd, vp_updL, vf_upd, vp_nar]
    try rfl
  · simp [updV, upd, vp_updL, vf_upd, hq]
theorem sx_dast (C : CX p l R s m args meth c r D tys E A d) {a n : Nat} {f : Nat → UInt64} {j : Int32} {v : UInt64} (hd : decode (mB r) pc = .ok (.dastore, 1)) (ha : h a = some (.inl (5, n, .inr (.inr (.inr (.inl (f))))))) (hin : vp_in j n) (kk : XS p l e R s m args below meth c Qg D tys A r (pc + 1) L S (hup h a (.inl (5, n, .inr (.inr (.inr (.inl (vf_upd f j.toNatClampNeg v))))))) sz nc ns) : XS p l e R s m args below meth c Qg D tys A r (pc) (L) (.double v :: .int j :: .ref a :: S) h sz nc ns := by
  intro H locs ls k1 k2 k3 k4 k5 k6 k7
  obtain ⟨t, ht, h2⟩ := k1 a _ ha
  have hty := CX.ty C ht
  obtain ⟨hx, hb, -, -, -, hK, -⟩ := C
  obtain ⟨cA, ty⟩ := t
  simp only [tyk] at hty
  subst hty
  refine W.dast hx hb h2 ((hK.2 5 _ ht).1 n (fun j => .double (f j))) (fun q => by cases q) (by show ¬ (j < 0 ∨ (arrV _ _ _).slots.size ≤ _); rw [arrV_size]; exact hin) rfl rfl hd fun H1 e z oq => ?_
  refine kk H1 _ ls (k1.up ⟨_, ht, ?_⟩ oq) (by rw [z]; exact k2) (dom_up k3 (k3 a _ ha)) (k4.put z oq (k3 a _ ha)) k5 k6 k7
  show H1[a]? = some (vp_cell _ _)
  rw [e]
  rw [vp_cell_d, vp_cell_d, arrV_store]
  congr 2
  funext q
  by_cases hq : q = j.toNatClampNeg
  · subst hq
    simp [updV, upd, vp_updL, vf_upd, vp_nar]
    try rfl
  · simp [updV, upd, vp_updL, vf_upd, hq]
theorem sx_aastN (C : CX p l R s m args meth c r D tys E A d) {a k n : Nat} {f : Nat → Option Nat} {j : Int32} (hd : decode (mB r) pc = .ok (.aastore, 1)) (ha : h a = some (.inl (k, n, refA f))) (hk : k = 2 ∨ k = 3) (hin : vp_in j n) (kk : XS p l e R s m args below meth c Qg D tys A r (pc + 1) L S (hup h a (.inl (k, n, refA (va_up f j.toNatClampNeg none)))) sz nc ns) : XS p l e R s m args below meth c Qg D tys A r pc L (.null :: .int j :: .ref a :: S) h sz nc ns := by
  intro H locs ls k1 k2 k3 k4 k5 k6 k7
  obtain ⟨t, ht, h2⟩ := k1 a _ ha
  have hty := CX.ty C ht
  obtain ⟨hx, hb, -, -, -, hK, -⟩ := C
  obtain ⟨cA, ty⟩ := t
  have key : ∃ C0, ty = .object C0 := by
    rcases hk with rfl | rfl
    · exact ⟨_, hty⟩
    · exact ⟨_, hty⟩
  obtain ⟨C0, rfl⟩ := key
  refine va_WaastN (C := C0) hx hb h2 ((hK.2 k _ ht).1 n (fun j => va_rf (f j))) (fun h => by cases h) (by show ¬ (j < 0 ∨ (arrV _ _ _).slots.size ≤ _); rw [arrV_size]; exact hin) rfl rfl hd fun H1 e z oq => ?_
  refine kk H1 _ ls (k1.up ⟨_, ht, ?_⟩ oq) (by rw [z]; exact k2) (dom_up k3 (k3 a _ ha)) (k4.put z oq (k3 a _ ha)) k5 k6 k7
  show H1[a]? = some (vp_cell _ _)
  rw [e]
  rw [vp_cell_q, vp_cell_q, arrV_store]
  congr 2
  funext q
  by_cases hq : q = j.toNatClampNeg
  · subst hq
    simp [updV, va_up, va_rf]
  · simp [updV, va_up, hq]
theorem CX.dcl (C : CX p l R s m args meth c r D tys E A d) {w : Jvm.Cond} (hw : w ∈ dclL) : va_Nw w s := by
  obtain ⟨-, -, -, -, -, -, -, -, -, -, ⟨-, -, -, -, -, -, h7, -⟩, -⟩ := C
  exact h7 w hw
theorem cast_ok : ∀ q ∈ vwCl, Jvm.Cond.castable q.1 "java/lang/Object" ∈ dclL := by
  simp only [vwCl, List.forall_mem_cons]
  exact ⟨List.mem_of_getElem? (i := 20) rfl, List.mem_of_getElem? (i := 23) rfl, List.mem_of_getElem? (i := 35) rfl, List.mem_of_getElem? (i := 34) rfl, List.mem_of_getElem? (i := 18) rfl, List.mem_of_getElem? (i := 28) rfl, List.mem_of_getElem? (i := 21) rfl, List.mem_of_getElem? (i := 22) rfl, List.mem_of_getElem? (i := 31) rfl, List.mem_of_getElem? (i := 30) rfl, List.mem_of_getElem? (i := 32) rfl, List.mem_of_getElem? (i := 19) rfl, List.mem_of_getElem? (i := 24) rfl, fun q hq => nomatch hq⟩
theorem objAny (C : CX p l R s m args meth c r D tys E A d) {H : Heap} {w ci : Nat} {fs : List Value} (hw : hat D tys w (.inr (ci, fs)) H) (hc : ci < 13) : va_Any "java/lang/Object" s H w := by
  have C' := C
  obtain ⟨-, -, -, -, hts, hK, -⟩ := C
  obtain ⟨rr, hr, cell, q1, q2, q3, q4⟩ := hw
  obtain ⟨-, hfc, kC, hkC, -⟩ := hK.1 ci _ hr
  exact ⟨cell, q1, by rw [q3]; rfl, ⟨kC, by rw [q2]; exact hkC⟩, fun comp hcomp => vb_asgC (CX.dcl C' (cast_ok rr (List.mem_of_getElem? hr))) comp _ hcomp (by rw [q2]; exact hfc)⟩
theorem sx_aast (C : CX p l R s m args meth c r D tys E A d) {a w k n ci : Nat} {fs : List Value} {f : Nat → Option Nat} {j : Int32} (hd : decode (mB r) pc = .ok (.aastore, 1)) (ha : h a = some (.inl (k, n, refA f))) (hw : h w = some (.inr (ci, fs))) (hk : (k = 2 ∧ ci = 4) ∨ (k = 3 ∧ ci < 13)) (hin : vp_in j n) (kk : XS p l e R s m args below meth c Qg D tys A r (pc + 1) L S (hup h a (.inl (k, n, refA (va_up f j.toNatClampNeg (some w))))) sz nc ns) : XS p l e R s m args below meth c Qg D tys A r pc L (.ref w :: .int j :: .ref a :: S) h sz nc ns := by
  intro H locs ls k1 k2 k3 k4 k5 k6 k7
  have C' := C
  obtain ⟨t, ht, h2⟩ := k1 a _ ha
  have hty := CX.ty C ht
  obtain ⟨hx, hb, -, -, -, hK, -⟩ := C
  obtain ⟨cA, ty⟩ := t
  have hlt : j.toNatClampNeg < n := Nat.not_le.mp fun q => hin (Or.inr q)
  have h0 : ¬ j < 0 := fun q => hin (Or.inl q)
  have key : ∃ C0, ty = .object C0 ∧ va_Any C0 s H w := by
    rcases hk with ⟨rfl, rfl⟩ | ⟨rfl, hci⟩
    · refine ⟨_, hty, ?_⟩
      obtain ⟨rr, hr, cell, q1, q2, q3, q4⟩ := k1 w _ hw
      cases hr
      have hcl := (hK.1 4 _ rfl).2
      obtain ⟨kC, hkC, -⟩ := hcl.2
      refine ⟨cell, q1, by rw [q3]; rfl, ⟨kC, by rw [q2]; exact hkC⟩, fun comp hcomp => ?_⟩
      have e1 : comp = D.1 4 := Option.some.inj (hcomp.symm.trans hcl.1)
      rw [e1, q2]
      exact va_assign hcl
    · exact ⟨_, hty, objAny C' (k1 w _ hw) hci⟩
  obtain ⟨C0, rfl, cellV, g1, g3, ⟨kC, hkC⟩, hasg⟩ := key
  obtain ⟨kA, comp, e1, e2, e3, -⟩ := (hK.2 k _ ht).2
  obtain ⟨kE, hkE, -⟩ := Vm.findClass_spec e3
  refine W.aast hx hb h2 (fun q h => by cases h) (fun h => by cases h) e1 e2 rfl hkE ⟨h0, by show _ < (arrV _ _ _).slots.size; rw [arrV_size]; exact hlt⟩ g1 (fun q h => by rw [h] at g3; cases g3) hkC (hasg _ e3) rfl rfl hd fun H1 e z oq => ?_
  refine kk H1 _ ls (k1.up ⟨_, ht, ?_⟩ oq) (by rw [z]; exact k2) (dom_up k3 (k3 a _ ha)) (k4.put z oq (k3 a _ ha)) k5 k6 k7
  show H1[a]? = some (vp_cell _ _)
  rw [e]
  rw [vp_cell_q, vp_cell_q, arrV_store]
  congr 2
  funext q
  by_cases hq : q = j.toNatClampNeg
  · subst hq
    simp [updV, va_up, va_rf]
  · simp [updV, va_up, hq]
theorem sx_alen (C : CX p l R s m args meth c r D tys E A d) {a k : Nat} {x : vp_A} (hd : decode (mB r) pc = .ok (.arraylength, 1)) (ha : h a = some (.inl (k, x))) (kk : XS p l e R s m args below meth c Qg D tys A r (pc + 1) L (.int (nI x.1) :: S) h sz nc ns) : XS p l e R s m args below meth c Qg D tys A r pc L (.ref a :: S) h sz nc ns := by
  intro H locs ls k1 k2 k3 k4 k5 k6 k7
  obtain ⟨t, ht, hP⟩ := (k1 a _ ha).P
  obtain ⟨hx, hb, -, -, -, hK, -⟩ := C
  exact va_alen hx hb hK hP 0 k rfl ht rfl hd (kk H locs ls k1 k2 k3 k4 k5 k6 k7)
theorem sx_alen0 (C : CX p l R s m args meth c r D tys E A d) (hd : decode (mB r) pc = .ok (.arraylength, 1)) (kk : XS p l e R s m args below meth c Qg D tys A r (pc + 1) L (.int (nI 0) :: S) h sz nc ns) : XS p l e R s m args below meth c Qg D tys A r pc L (.ref E.2.1 :: S) h sz nc ns := by
  intro H locs ls k1 k2 k3 k4 k5 k6 k7
  obtain ⟨hx, hb, -, -, -, hK, -, -, -, -, ⟨-, -, -, -, ⟨f, hT⟩, -⟩, -⟩ := C
  exact va_tlen hx hb hT k4 rfl hd (kk H locs ls k1 k2 k3 k4 k5 k6 k7)
theorem sx_alenS (C : CX p l R s m args meth c r D tys E A d) (hd : decode (mB r) pc = .ok (.arraylength, 1)) (kk : XS p l e R s m args below meth c Qg D tys A r (pc + 1) L (.int (nI E.1.2.1) :: S) h sz nc ns) : XS p l e R s m args below meth c Qg D tys A r pc L (.ref E.1.1 :: S) h sz nc ns := by
  intro H locs ls k1 k2 k3 k4 k5 k6 k7
  obtain ⟨hx, hb, -, -, -, hK, -, -, -, -, ⟨-, -, -, -, -, -, -, ⟨hX, hbA⟩, -⟩, -⟩ := C
  have hbl : E.1.1 < s.heap.size := by
    obtain ⟨scr, q, -⟩ := hX
    exact (Array.getElem?_eq_some_iff.mp q).1
  exact va_slen hx hb hX hbl hbA k4 hd (kk H locs ls k1 k2 k3 k4 k5 k6 k7)
theorem sx_ialdS (C : CX p l R s m args meth c r D tys E A d) {j : Int32} (hd : decode (mB r) pc = .ok (.iaload, 1)) (hin : vp_in j E.1.2.1) (kk : XS p l e R s m args below meth c Qg D tys A r (pc + 1) L (.int (E.1.2.2 j.toNatClampNeg) :: S) h sz nc ns) : XS p l e R s m args below meth c Qg D tys A r pc L (.int j :: .ref E.1.1 :: S) h sz nc ns := by
  intro H locs ls k1 k2 k3 k4 k5 k6 k7
  obtain ⟨hx, hb, -, -, -, hK, -, -, -, -, ⟨-, -, -, -, -, -, -, ⟨hX, hbA⟩, -⟩, -⟩ := C
  have hbl : E.1.1 < s.heap.size := by
    obtain ⟨scr, q, -⟩ := hX
    exact (Array.getElem?_eq_some_iff.mp q).1
  exact va_sld hx hb hX hbl hbA k4 hin hd (kk H locs ls k1 k2 k3 k4 k5 k6 k7)
theorem sx_gets (C : CX p l R s m args meth c r D tys E A d) {idx : Nat} (hd : decode (mB r) pc = .ok (.getstatic idx, 3)) (hw : Jvm.Cond.fieldLink (mY r).cls idx "java/util/ArrayList" "DEFAULTCAPACITY_EMPTY_ELEMENTDATA" "[Ljava/lang/Object;" ∈ lw_gd) (kk : XS p l e R s m args below meth c Qg D tys A r (pc + 3) L (.ref E.2.1 :: S) h sz nc ns) : XS p l e R s m args below meth c Qg D tys A r pc L S h sz nc ns := by
  intro H locs ls k1 k2 k3 k4 k5 k6 k7
  obtain ⟨hx, hb, -, hown, hts, hK, -, -, -, -, ⟨-, -, -, hZ, -⟩, -⟩ := C
  exact va_gets hx hb hZ k4 hown (hts _ hw) (fun _ h9 => h9) hd (kk H locs ls k1 k2 k3 k4 k5 k6 k7)
theorem sx_cast (C : CX p l R s m args meth c r D tys E A d) {idx a ci : Nat} {fs : List Value} {nm : String} (hd : decode (mB r) pc = .ok (.checkcast idx, 3)) (ha : h a = some (.inr (ci, fs))) (hw : Jvm.Cond.classLink (mY r).cls idx nm ∈ lw_gd) (hc : ∀ rr : vw_C, vwCl[ci]? = some rr → rr.1 = nm ∨ Jvm.Cond.castable rr.1 nm ∈ dclL) (kk : XS p l e R s m args below meth c Qg D tys A r (pc + 3) L (.ref a :: S) h sz nc ns) : XS p l e R s m args below meth c Qg D tys A r pc L (.ref a :: S) h sz nc ns := by
  intro H locs ls k1 k2 k3 k4 k5 k6 k7
  have C' := C
  obtain ⟨hx, hb, -, hown, hts, hK, -⟩ := C
  have h1 := k1 a _ ha
  obtain ⟨rr, hr, -⟩ := id h1
  have hrec := va_recv hK h1.PO (q0 := 0) hr rfl
  rcases hc rr hr with q | q
  · subst q
    exact va_castS hx hb hown (hts _ hw) (hK.1 ci rr hr).2 hrec hd (kk H locs ls k1 k2 k3 k4 k5 k6 k7)
  · exact va_castY hx hb hown (hts _ hw) (CX.dcl C' q) hrec hd (kk H locs ls k1 k2 k3 k4 k5 k6 k7)
theorem dfl_ok : ∀ (ci : Nat) (rr : vw_C), vwCl[ci]? = some rr → ∀ j, j < rr.2.2 → defaultValue (tyF ci j) = vp_V (dfl ci) j := by
  intro ci rr h
  match ci, h with
  | 0, h => cases h; decide
  | 1, h => cases h; decide
  | 2, h => cases h; decide
  | 3, h => cases h; decide
  | 4, h => cases h; decide
  | 5, h => cases h; decide
  | 6, h => cases h; decide
  | 7, h => cases h; decide
  | 8, h => cases h; decide
  | 9, h => cases h; decide
  | 10, h => cases h; decide
  | 11, h => cases h; decide
  | 12, h => cases h; decide +kernel
  | ci + 13, h => cases h
theorem sx_new (C : CX p l R s m args meth c r D tys E A d) {idx ci : Nat} {rr : vw_C} (hd : decode (mB r) pc = .ok (.new idx, 3)) (hr : vwCl[ci]? = some rr) (w1 : Jvm.Cond.classLink (mY r).cls idx rr.1 ∈ lw_gd) (w2 : Jvm.Cond.instantiable rr.1 rr.2.2 ∈ lw_gd) (w3 : Jvm.Cond.initialized rr.1 ∈ lw_gd) (g1 : nc + 1 ≤ mC r) (g2 : ns + rr.2.2 ≤ mS r) (kk : XS p l e R s m args below meth c Qg D tys A r (pc + 3) L (.ref sz :: S) (hup h sz (.inr (ci, dfl ci))) (sz + 1) (nc + 1) (ns + rr.2.2)) : XS p l e R s m args below meth c Qg D tys A r pc L S h sz nc ns := by
  intro H locs ls k1 k2 k3 k4 k5 k6 k7
  obtain ⟨hx, hb, -, hown, hts, hK, hA, -, -, ⟨-, -, r1, r2⟩, -⟩ := C
  have hKn := hK.1 ci _ hr
  subst k2
  refine W.newcK hx hb hown (hts _ w1) (hts _ w2) (hts _ w3) rfl hd (Nat.le_trans g1 r1) (Nat.le_trans g2 r2) hKn.2.1 rfl fun H1 kC hkC e1 z1 o1 => ?_
  refine kk H1 locs ls (k1.new ⟨rr, hr, (u_born (tyF ci) hts (cl_in ci rr hr) hKn hkC e1 (ty_ok ci rr hr).1).to (dfl_ok ci rr hr)⟩ o1) z1 (dom_up k3 (hA _ k4.1)) ⟨Nat.le_trans k4.1 (by omega), fun x q1 q2 => (o1 x (Nat.lt_of_lt_of_le q1 k4.1)).trans (k4.2.1 x q1 q2), k4.2.2⟩ k5 g1 g2
theorem sx_newa (C : CX p l R s m args meth c r D tys E A d) {at' : ArrayType} {k : Nat} {v : Int32} (hd : decode (mB r) pc = .ok (.newarray at', 2)) (hk : newarray.typeOf at' = tyk k) (hk6 : k < 6) (hw : Jvm.Cond.arrayClass (newarray.typeOf at') ∈ lw_gd) (hdf : ∀ (cA : ClassId) (n : Nat), vp_cell cA (dfa k n) = arrV cA n (fun _ => defaultValue (newarray.typeOf at'))) (g0 : ¬ v < 0) (g3 : v.toNatClampNeg ≤ 4096) (g1 : nc + 1 ≤ mC r) (g2 : ns + v.toNatClampNeg ≤ mS r) (kk : XS p l e R s m args below meth c Qg D tys A r (pc + 2) L (.ref sz :: S) (hup h sz (.inl (k, dfa k v.toNatClampNeg))) (sz + 1) (nc + 1) (ns + v.toNatClampNeg)) : XS p l e R s m args below meth c Qg D tys A r pc L (.int v :: S) h sz nc ns := by
  intro H locs ls k1 k2 k3 k4 k5 k6 k7
  have hty : ∀ t : ClassId × FieldType, tys[k]? = some t → t.2 = tyk k := fun t ht => CX.ty C ht
  obtain ⟨hx, hb, -, hown, hts, hK, hA, -, -, ⟨-, -, r1, r2⟩, -, -, -, cs, hcs⟩ := C
  obtain ⟨t, ht⟩ : ∃ t, tys[k]? = some t := by
    have hl : k < tys.length := by rw [hcs]; exact hk6
    exact ⟨tys[k], List.getElem?_eq_getElem hl⟩
  have ht2 := hty t ht
  subst k2
  refine va_newaK hx hb (hts _ hw) rfl hd rfl g0 rfl (by cases at' <;> simp [newarray.typeOf, componentBytes] <;> omega) (Nat.le_trans g1 r1) (Nat.le_trans g2 r2) rfl fun H1 cA e1 z1 o1 hAr hNm => ?_
  have hcA : cA = t.1 := by
    have h9 := (hK.2 k t ht).2
    rw [ht2, ← hk] at h9
    cases at' <;> exact Option.some.inj (hNm.symm.trans h9)
  subst hcA
  refine kk H1 locs ls (k1.new ⟨t, ht, ?_⟩ o1) z1 (dom_up k3 (hA _ k4.1)) ⟨Nat.le_trans k4.1 (by omega), fun x q1 q2 => (o1 x (Nat.lt_of_lt_of_le q1 k4.1)).trans (k4.2.1 x q1 q2), k4.2.2⟩ k5 g1 g2
  show H1[H.size]? = some (vp_cell _ _)
  rw [hdf]
  exact e1
theorem sx_anew (C : CX p l R s m args meth c r D tys E A d) {idx k : Nat} {C0 : String} {v : Int32} (hd : decode (mB r) pc = .ok (.anewarray idx, 3)) (hk : FieldType.object C0 = tyk k) (hk6 : k = 2 ∨ k = 3) (w1 : Jvm.Cond.classLink (mY r).cls idx C0 ∈ lw_gd) (g0 : ¬ v < 0) (g3 : v.toNatClampNeg ≤ 4096) (g1 : nc + 1 ≤ mC r) (g2 : ns + v.toNatClampNeg ≤ mS r) (kk : XS p l e R s m args below meth c Qg D tys A r (pc + 3) L (.ref sz :: S) (hup h sz (.inl (k, dfa k v.toNatClampNeg))) (sz + 1) (nc + 1) (ns + v.toNatClampNeg)) : XS p l e R s m args below meth c Qg D tys A r pc L (.int v :: S) h sz nc ns := by
  intro H locs ls k1 k2 k3 k4 k5 k6 k7
  have hty : ∀ t : ClassId × FieldType, tys[k]? = some t → t.2 = tyk k := fun t ht => CX.ty C ht
  obtain ⟨hx, hb, -, hown, hts, hK, hA, -, -, ⟨-, -, r1, r2⟩, ⟨-, -, -, -, -, -, -, -, -, a1, a2⟩, -, -, cs, hcs⟩ := C
  have hover : va_AO C0 s := by
    rcases hk6 with rfl | rfl
    · cases hk; exact a1
    · cases hk; exact a2
  obtain ⟨t, ht⟩ : ∃ t, tys[k]? = some t := by
    have hl : k < tys.length := by rw [hcs]; show k < 6; omega
    exact ⟨tys[k], List.getElem?_eq_getElem hl⟩
  have ht2 := hty t ht
  subst k2
  refine W.anew hx hb hown (hts _ w1) (hover.use) rfl hd rfl g0 (by omega) (Nat.le_trans g1 r1) (Nat.le_trans g2 r2) fun cA kA comp f1 f2 f3 f4 => ?_
  have hcA : cA = t.1 := by
    have h9 := (hK.2 k t ht).2
    rw [ht2, ← hk] at h9
    obtain ⟨-, -, -, -, -, h10⟩ := h9
    exact Option.some.inj (f1.symm.trans h10)
  subst hcA
  have o1 : ∀ q : Nat, q < H.size → (H.push ({ cls := t.1, slots := Array.replicate v.toNatClampNeg .null, vm := .none } : Cell))[q]? = H[q]? := fun q hq => by rw [Array.getElem?_push, if_neg (Nat.ne_of_lt hq)]
  refine kk _ locs ls (k1.new ⟨t, ht, ?_⟩ o1) (by simp) (dom_up k3 (hA _ k4.1)) ⟨Nat.le_trans k4.1 (by simp), fun x q1 q2 => (o1 x (Nat.lt_of_lt_of_le q1 k4.1)).trans (k4.2.1 x q1 q2), k4.2.2⟩ k5 g1 g2
  show (H.push _)[H.size]? = some (vp_cell _ _)
  have hv : vp_cell t.1 (dfa k v.toNatClampNeg) = arrV t.1 v.toNatClampNeg (fun _ => .null) := by
    rcases hk6 with rfl | rfl <;> rfl
  rw [hv, ← arrV_new]
  simp
end SND2
