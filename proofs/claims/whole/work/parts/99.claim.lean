/-! THE CLAIM OUT OF ONE WALK OF THE LAW'S BODY. Your part is whole_start (and what it stands on); all else here is the same for every law, but numbers. -/
def R_law : String := "DominofsLaw"
def lw_P (b : Addr) (xs : List Int32) (args : Array Value) (s : State) : Prop := args = #[.ref b] ∧ s.IntsAt b xs ∧ xs.length ≤ 3072 ∧ (Jvm.Cond.and given_1 narrow_1).before args s = true
/-- what a walk over the start with the record d0 says of its end, said of the start itself -/
theorem lw_closed {s t : State} {o : Outcome} {d0 : Drawn} {L : List Loc} {k n : Nat} (hd0 : s.drawn.sameBut d0 lw_cs) (hv : ∃ v, o = .returned v) (hW : (s.setDrawn d0).WarmedH t.vm) (hs : (s.setDrawn d0).sameButNew ({ t with vm := s.vm } : State) L k n) : State.butDraws s t lw_cs (fun t1 => Framed s o t1 L k n) := by
  have h2 : t.drawn = d0 := congrArg State.drawn hs.1
  refine ⟨⟨hv, hW, State.sameButNew.setDrawn hs s.drawn⟩, ?_, by decide⟩
  rw [h2]
  exact hd0
def lw_Q (_ : Array Value) (s : State) (o : Outcome) (t : State) : Prop := o = .returned (some (.int 1)) ∧ State.butDraws s t lw_cs (fun t1 => Framed s o t1 [] 601024 7293034)
def lw_Z (below : List Frame) (a : Array Value) (s : State) : State → Prop := fun t => ∃ o, t.status = .running ∧ Ended t below o ∧ lw_Q a s o t
/-- the law's own end, with 1 on the stack, nothing written that was there before, its room as the claim has it; d0: the record of draws at this point (at the entry s.drawn: begin with 'refine W.base ?_' and 'have hd0 := Drawn.sameBut.refl s.drawn lw_cs') -/
theorem lw_ret {p : Program} {l : Launch} {e : Env} {s : State} {m : MethodId} {below : List Frame} {meth : Method} {c : Code} {b : Nat} {d0 : Drawn} (hd0 : s.drawn.sameBut d0 lw_cs) (hx : p.tables.exec = Jvm.exec) (hb : c.code = code) (hr : meth.sig.returnType = ret) (hlocks : meth.locks = false) {pc : Nat} {H : Heap} {ls : Array Slot} (hdg : decode code pc = .ok (.ireturn, 1)) : W p l e room_1 (s.setDrawn d0) m #[Value.ref b] below meth c H [] 601024 7293034 (lw_Z below #[Value.ref b] s) (F0 m pc ls [.int 1]) := by
  intro T hT X
  obtain ⟨fs, hret, hrun, hended, hW, hframe⟩ := X.leave (v := some (.int 1)) (hlocks := hlocks) (fun h => by rw [hr] at h; cases h)
  have hmeth' : T.vm.method? m = some meth := X.method'
  refine ⟨T.setFrames fs, ?_, .returned (some (.int 1)), hrun, hended, rfl, lw_closed hd0 ⟨_, rfl⟩ hW hframe⟩
  jvm_step X.here [X.here.top, hx, hb, hdg, hmeth', hr, ret, narrow_b1]
  (try refine ⟨rfl, ?_⟩); (try refine ⟨rfl, ?_⟩)
  first | (intro acts; rw [hret _ acts rfl rfl rfl]) | rw [hret _ _ rfl rfl rfl]
  exact Steps.refl _
/-- what holds at the law's entry: the machine, the code, the tables' words (any of lw_tbl by 'hts w (by decide +kernel)'), the script of L ints xs at the cell b, what the Statement gives of the start (any of its parts by flat_of_before) -/
def lw_At (p : Program) (s : State) (m : MethodId) (meth : Method) (c : Code) (b L : Nat) (xs : Nat → Int32) : Prop :=
  p.tables.exec = Jvm.exec ∧ c.code = code ∧ meth.sig.returnType = ret ∧ c.maxLocals = 10 ∧ s.vm.findClass R_law = some m.cls ∧ (∀ w ∈ lw_tbl, w.before #[Value.ref b] s = true) ∧ va_X b L xs s s.heap ∧ b < s.heap.size ∧ meth.locks = false ∧ (Jvm.Cond.and given_1 narrow_1).before #[Value.ref b] s = true
/-! ===== the start's world ===== -/
theorem u_all : (∀ w ∈ u_ws RJx4a65c TJx4a65c 3, w ∈ lw_tbl) ∧ (∀ w ∈ u_ws RX0 TX0 6, w ∈ lw_tbl) ∧ (∀ w ∈ u_ws RX1 TX1 3, w ∈ lw_tbl) ∧ (∀ w ∈ u_ws RX2 TX2 5, w ∈ lw_tbl) ∧ (∀ w ∈ u_ws RX4 TX4 14, w ∈ lw_tbl) ∧ (∀ w ∈ u_ws RX5 TX5 4, w ∈ lw_tbl) ∧ (∀ w ∈ u_ws RX6 TX6 9, w ∈ lw_tbl) ∧ (∀ w ∈ u_ws RX7 TX7 5, w ∈ lw_tbl) ∧ (∀ w ∈ u_ws RX8 TX8 2, w ∈ lw_tbl) ∧ (∀ w ∈ u_ws RX9 TX9 4, w ∈ lw_tbl) ∧ (∀ w ∈ u_ws RX10 TX10 2, w ∈ lw_tbl) ∧ (∀ w ∈ u_ws RX11 TX11 10, w ∈ lw_tbl) ∧ (∀ w ∈ u_ws RX12 TX12 41, w ∈ lw_tbl) := by decide +kernel
theorem str_all : ∀ q ∈ strL, Cond.stringRef q.1 q.2.1 q.2.2 ∈ lw_tbl := by decide +kernel
theorem dcl_in : ∀ w ∈ dclL, w ∈ lw_tbl := by decide +kernel
theorem dcl_tab : ∀ w ∈ dclL, w.onTables = true := by decide +kernel
theorem nc_all : ∀ q ∈ ncL, Cond.not (.castable q.1 q.2) ∈ flatC (Jvm.Cond.and given_1 narrow_1) := by decide +kernel
theorem str_ref {s : State} {args : Array Value} {own tx : String} {k : Nat} (h : (Cond.stringRef own k tx).before args s = true) : ∃ sa, vk_R own k tx sa s := by
  cases hc : s.vm.findClass own with
  | none =>
    simp [Cond.before, Cond.holds, Cond.value, hc] at h
  | some c =>
    obtain ⟨-, -, -, a, -, -, -, -, -, hev⟩ := Cond.stringRef_spec hc h
    exact ⟨a, vk_R.of h hev⟩
theorem arr_p {s : State} {args : Array Value} {ty : FieldType} (hp : va_RA s 0 ty = (s.vm.findClass ("[" ++ ty.toString) = some 0)) (h2 : ∀ c, va_RA s c ty = (s.vm.findClass ("[" ++ ty.toString) = some c)) (h : (Cond.arrayClass ty).before args s = true) : ∃ cA, ArrOfT s cA ty ∧ va_RA s cA ty := by
  obtain ⟨cA, kA, comp, f1, f2, f3⟩ := Cond.arrayClass_spec h
  exact ⟨cA, fun n z => ⟨fun k h => (by cases h), kA, f2, comp, f3⟩, by rw [h2]; exact f1⟩
theorem arr_o {s : State} {args : Array Value} {C : String} (h : (Cond.arrayOver (.object C)).before args s = true) : ∃ cA, ArrOfT s cA (.object C) ∧ va_RA s cA (.object C) := by
  obtain ⟨comp, cA, kA, f1, f2, f3, f4, f5⟩ := Cond.arrayOver_spec h
  exact ⟨cA, fun n z => ⟨fun k h => (by cases h), kA, f3, comp, f4⟩, kA, comp, f3, f4, f1, f5⟩
theorem whole_start {p : Program} {e : Env} {s : State} {m : MethodId} {below : List Frame} {meth : Method} {c : Code} (l : Launch) (hflags : l.flags = flags0) {b L : Nat} {xs : Nat → Int32} (hL : L ≤ 3072) (C0 : lw_At p s m meth c b L xs) (hnm : meth.name = "law") (htab : c.exceptionTable.toList = []) : W p l e room_1 s m #[Value.ref b] below meth c s.heap [] 0 0 (lw_Z below #[Value.ref b] s) (entryFrame m ([Value.ref b] : List Value).toArray 10) := by
  obtain ⟨hx, hb, hr, hml, hown, hts, hX, hbl, hlocks, hgv⟩ := id C0
  have hs := flat_of_before _ hgv
  obtain ⟨A, hAd⟩ : ∃ A : Nat → Prop, A = fun q : Nat => s.heap.size ≤ q := ⟨_, rfl⟩
  have hA : ∀ q : Nat, s.heap.size ≤ q → A q := fun q h => by rw [hAd]; exact h
  have hAn : ∀ a : Nat, a < s.heap.size → ¬ A a := fun a h => by rw [hAd]; exact Nat.not_le.mpr h
  have hlen : (Term.length (.static "java/util/ArrayList" "DEFAULTCAPACITY_EMPTY_ELEMENTDATA" "[Ljava/lang/Object;")).eval #[Value.ref b] s none [] s = some (.int (Int32.ofNat 0)) := va_eqt (hs (.eq (.length (.static "java/util/ArrayList" "DEFAULTCAPACITY_EMPTY_ELEMENTDATA" "[Ljava/lang/Object;")) (.int 0)) (by decide +kernel))
  obtain ⟨e2, hst, hT⟩ := va_Tof (N := 0) (f := fun _ => .null) (A := A) (by decide) (hs (.arrayOf (.static "java/util/ArrayList" "DEFAULTCAPACITY_EMPTY_ELEMENTDATA" "[Ljava/lang/Object;") (.object "java/lang/Object")) (by decide +kernel)) hlen (fun j hj => absurd hj (Nat.not_lt_zero _)) hAn
  have hZ := va_Zof (A := A) (hts (.laysStatic "java/util/ArrayList" "DEFAULTCAPACITY_EMPTY_ELEMENTDATA" "[Ljava/lang/Object;") (by decide +kernel)) (hts (.initialized "java/util/ArrayList") (by decide +kernel)) hst hAn
  obtain ⟨e3, hM⟩ := va_Mi.of (hs (.isRef (.mirror "[Ljava/lang/Object;")) (by decide +kernel))
  have hU := vx_Zqof (C := Bundle.tN) (n := "UNASSIGNED_STACK") (d := Bundle.steD) (A := A) (hts _ (by decide +kernel)) (hts _ (by decide +kernel)) (hs _ (by decide +kernel)) hAn
  have hW := vx_Zqof (C := Bundle.tN) (n := "SUPPRESSED_SENTINEL") (d := Bundle.listD) (A := A) (hts _ (by decide +kernel)) (hts _ (by decide +kernel)) (hs _ (by decide +kernel)) hAn
  have he2 : e2 < s.heap.size := by
    obtain ⟨cell, h1, -⟩ := hT
    exact (Array.getElem?_eq_some_iff.mp h1).1
  obtain ⟨cI, tI1, tI2⟩ := arr_p (ty := .int) rfl (fun _ => rfl) (hts (.arrayClass .int) (by decide +kernel))
  obtain ⟨cB, tB1, tB2⟩ := arr_p (ty := .boolean) rfl (fun _ => rfl) (hts (.arrayClass .boolean) (by decide +kernel))
  obtain ⟨cJ, tJ1, tJ2⟩ := arr_p (ty := .long) rfl (fun _ => rfl) (hts (.arrayClass .long) (by decide +kernel))
  obtain ⟨cD, tD1, tD2⟩ := arr_p (ty := .double) rfl (fun _ => rfl) (hts (.arrayClass .double) (by decide +kernel))
  have oG := hts (.arrayOver (.object "Dominofs$Game")) (by decide +kernel)
  have oO := hts (.arrayOver (.object "java/lang/Object")) (by decide +kernel)
  obtain ⟨cG, tG1, tG2⟩ := arr_o oG
  obtain ⟨cO, tO1, tO2⟩ := arr_o oO
  obtain ⟨c0, iS0, hKn0⟩ := u_known (C := RJx4a65c) (T := TJx4a65c) (N := 3) (n := 3) hts (u_all.1) (hts (.instantiable RJx4a65c 3) (by decide +kernel))
  obtain ⟨c1, iS1, hKn1⟩ := u_known (C := RX0) (T := TX0) (N := 6) (n := 6) hts (u_all.2.1) (hts (.instantiable RX0 6) (by decide +kernel))
  obtain ⟨c2, iS2, hKn2⟩ := u_known (C := RX1) (T := TX1) (N := 3) (n := 3) hts (u_all.2.2.1) (hts (.instantiable RX1 3) (by decide +kernel))
  obtain ⟨c3, iS3, hKn3⟩ := u_known (C := RX2) (T := TX2) (N := 5) (n := 5) hts (u_all.2.2.2.1) (hts (.instantiable RX2 5) (by decide +kernel))
  obtain ⟨c4, iS4, hKn4⟩ := u_known (C := RX4) (T := TX4) (N := 14) (n := 14) hts (u_all.2.2.2.2.1) (hts (.instantiable RX4 14) (by decide +kernel))
  obtain ⟨c5, iS5, hKn5⟩ := u_known (C := RX5) (T := TX5) (N := 4) (n := 4) hts (u_all.2.2.2.2.2.1) (hts (.instantiable RX5 4) (by decide +kernel))
  obtain ⟨c6, iS6, hKn6⟩ := u_known (C := RX6) (T := TX6) (N := 9) (n := 9) hts (u_all.2.2.2.2.2.2.1) (hts (.instantiable RX6 9) (by decide +kernel))
  obtain ⟨c7, iS7, hKn7⟩ := u_known (C := RX7) (T := TX7) (N := 5) (n := 5) hts (u_all.2.2.2.2.2.2.2.1) (hts (.instantiable RX7 5) (by decide +kernel))
  obtain ⟨c8, iS8, hKn8⟩ := u_known (C := RX8) (T := TX8) (N := 2) (n := 2) hts (u_all.2.2.2.2.2.2.2.2.1) (hts (.instantiable RX8 2) (by decide +kernel))
  obtain ⟨c9, iS9, hKn9⟩ := u_known (C := RX9) (T := TX9) (N := 4) (n := 4) hts (u_all.2.2.2.2.2.2.2.2.2.1) (hts (.instantiable RX9 4) (by decide +kernel))
  obtain ⟨c10, iS10, hKn10⟩ := u_known (C := RX10) (T := TX10) (N := 2) (n := 2) hts (u_all.2.2.2.2.2.2.2.2.2.2.1) (hts (.instantiable RX10 2) (by decide +kernel))
  obtain ⟨c11, iS11, hKn11⟩ := u_known (C := RX11) (T := TX11) (N := 10) (n := 10) hts (u_all.2.2.2.2.2.2.2.2.2.2.2.1) (hts (.instantiable RX11 10) (by decide +kernel))
  obtain ⟨c12, iS12, hKn12⟩ := u_known (C := RX12) (T := TX12) (N := 41) (n := 41) hts (u_all.2.2.2.2.2.2.2.2.2.2.2.2) (hts (.instantiable RX12 41) (by decide +kernel))
  obtain ⟨dC, dI, hKc⟩ : ∃ (dC : Nat → ClassId) (dI : Nat → Nat → Nat), ∀ (k : Nat) (q : vw_C), vwCl[k]? = some q → u_Kn s q.1 q.2.1 q.2.2 (dC k) (dI k) := by
    refine ⟨fun k => if k = 0 then c0 else if k = 1 then c1 else if k = 2 then c2 else if k = 3 then c3 else if k = 4 then c4 else if k = 5 then c5 else if k = 6 then c6 else if k = 7 then c7 else if k = 8 then c8 else if k = 9 then c9 else if k = 10 then c10 else if k = 11 then c11 else c12, fun k => if k = 0 then iS0 else if k = 1 then iS1 else if k = 2 then iS2 else if k = 3 then iS3 else if k = 4 then iS4 else if k = 5 then iS5 else if k = 6 then iS6 else if k = 7 then iS7 else if k = 8 then iS8 else if k = 9 then iS9 else if k = 10 then iS10 else if k = 11 then iS11 else iS12, ?_⟩
    intro k q hq
    match k, hq with
    | 0, hq => cases hq; exact hKn0
    | 1, hq => cases hq; exact hKn1
    | 2, hq => cases hq; exact hKn2
    | 3, hq => cases hq; exact hKn3
    | 4, hq => cases hq; exact hKn4
    | 5, hq => cases hq; exact hKn5
    | 6, hq => cases hq; exact hKn6
    | 7, hq => cases hq; exact hKn7
    | 8, hq => cases hq; exact hKn8
    | 9, hq => cases hq; exact hKn9
    | 10, hq => cases hq; exact hKn10
    | 11, hq => cases hq; exact hKn11
    | 12, hq => cases hq; exact hKn12
    | k + 13, hq => cases hq
  have hK : va_K (dC, dI) vwCl [(cI, .int), (cB, .boolean), (cG, .object "Dominofs$Game"), (cO, .object "java/lang/Object"), (cJ, .long), (cD, .double)] s := by
    refine ⟨hKc, fun k q hq => ?_⟩
    match k, hq with
    | 0, hq => cases hq; exact ⟨tI1, tI2⟩
    | 1, hq => cases hq; exact ⟨tB1, tB2⟩
    | 2, hq => cases hq; exact ⟨tG1, tG2⟩
    | 3, hq => cases hq; exact ⟨tO1, tO2⟩
    | 4, hq => cases hq; exact ⟨tJ1, tJ2⟩
    | 5, hq => cases hq; exact ⟨tD1, tD2⟩
    | k + 6, hq => cases hq
  obtain ⟨E, hE⟩ : ∃ E : EX, E = ((b, L, xs), e2, e3) := ⟨_, rfl⟩
  have hZZ : ZZ E A s s.heap := by
    rw [hE]
    exact ⟨hU, hW, fun q hq => str_ref (hts _ (str_all q hq)), hZ, ⟨_, hT⟩, hM, fun w hw => va_Nw.of (dcl_tab w hw) (hts _ (dcl_in w hw)), ⟨hX, hAn _ hbl⟩, fun q hq => va_Nc.of (hs _ (nc_all q hq)), va_AO.of oG, va_AO.of oO⟩
  have hcs : ∃ cs : List ClassId, ([(cI, .int), (cB, .boolean), (cG, .object "Dominofs$Game"), (cO, .object "java/lang/Object"), (cJ, .long), (cD, .double)] : List (ClassId × FieldType)) = [(cs.getD 0 0, .int), (cs.getD 1 0, .boolean), (cs.getD 2 0, .object "Dominofs$Game"), (cs.getD 3 0, .object "java/lang/Object"), (cs.getD 4 0, .long), (cs.getD 5 0, .double)] := ⟨[cI, cB, cG, cO, cJ, cD], rfl⟩
  have CC : CX p l room_1 s m #[Value.ref b] meth c mi_238 (dC, dI) [(cI, .int), (cB, .boolean), (cG, .object "Dominofs$Game"), (cO, .object "java/lang/Object"), (cJ, .long), (cD, .double)] E A 12 :=
    ⟨hx, hb, hml, hown, fun w hw => hts w (List.mem_filter.mp hw).1, hK, hA, hlocks, hnm, ⟨Nat.le_of_ble_eq_true rfl, Nat.le_of_ble_eq_true rfl, Nat.le_of_ble_eq_true rfl, Nat.le_of_ble_eq_true rfl⟩, hZZ, hflags, htab, hcs⟩
  obtain ⟨Q, hQd⟩ : ∃ Q : QT, Q = fun o _ _ => o = .ok (some (.int (z 1))) := ⟨_, rfl⟩
  have hRT : RT p l e room_1 s m #[Value.ref b] below meth c (lw_Z below #[Value.ref b] s) (dC, dI) [(cI, .int), (cB, .boolean), (cG, .object "Dominofs$Game"), (cO, .object "java/lang/Object"), (cJ, .long), (cD, .double)] A mi_238 Q := by
    intro i pc y S vo h H locs ls nc ns hd hrt hq k1 k3 k4 g1 g2
    rw [hQd] at hq
    have hvo : vo = some (.int (z 1)) := Except.ok.inj hq
    subst hvo
    cases i
    case ireturn =>
      obtain ⟨v, rfl, e1, -, -⟩ := hrt
      have e2 : z 1 = v := Value.int.inj (Option.some.inj e1)
      subst e2
      refine W.base (va_forget (fun q hq => ?_) (W.widen g1 g2 (lw_ret (Drawn.sameBut.refl s.drawn lw_cs) hx hb hr hlocks hd)))
      have := k4.2.2 q hq
      rw [hAd] at this
      exact this
    case lreturn =>
      obtain ⟨v, -, e1, -⟩ := hrt
      cases e1
    case freturn =>
      obtain ⟨v, -, e1, -⟩ := hrt
      cases e1
    case dreturn =>
      obtain ⟨v, -, e1, -⟩ := hrt
      cases e1
    case areturn =>
      obtain ⟨v, -, e1, h2, -⟩ := hrt
      cases e1
      rcases h2 with h2 | ⟨a, h2⟩ <;> cases h2
    case return_ =>
      obtain ⟨-, e1, -⟩ := hrt
      cases e1
    all_goals exact hrt.elim
  have hTH : TH p l e room_1 s m #[Value.ref b] below meth c (lw_Z below #[Value.ref b] s) (dC, dI) [(cI, .int), (cB, .boolean), (cG, .object "Dominofs$Game"), (cO, .object "java/lang/Object"), (cJ, .long), (cD, .double)] A mi_238 Q := by
    intro Ex h' H locs ls pc rest q ce nc ns hq
    rw [hQd] at hq
    cases hq
  have hTW : 6 ≤ 12 → TW p l e room_1 s m #[Value.ref b] below meth c (lw_Z below #[Value.ref b] s) (dC, dI) [(cI, .int), (cB, .boolean), (cG, .object "Dominofs$Game"), (cO, .object "java/lang/Object"), (cJ, .long), (cD, .double)] A mi_238 Q := by
    intro _ pc idx x S h H locs ls nc ns _ _ _ _ _ hq
    have := hq H.size (Nat.le_refl _)
    rw [hQd] at this
    cases this
  have key := law_start (E := E) (x := s.heap.size) (Q := Q) (by rw [hE]; exact hL) (by rw [hE]; exact he2) (by rw [hE]; exact hbl) (fun h sz => by rw [hQd])
  have fin := Rr_sound (e := e) (below := below) CC hTH hRT hTW hf_238 sf_238 (fun cm as h sz Q' hh rc hrc hms => Sp_sound mfa l hflags _ _ hcs E 12 cm as h sz Q' hh rc hrc hms) key
  rw [lg_entry_eq]
  have hEb : E.1.1 = b := by rw [hE]
  refine fin s.heap [] _ (fun a e h => by cases h) rfl (fun q x h => by cases h) va_S.rf ?_ (Nat.zero_le _) (Nat.zero_le _)
  rw [hEb]
  exact LH.entry (as := [Value.ref b]) (n := 10) (Nat.le_of_ble_eq_true rfl)
set_option maxHeartbeats 4000000 in
theorem lw_walk (l : Launch) (hflags : l.flags = flags0) (b : Addr) (xs : List Int32) : MetFree l x (headSpec (Jvm.Cond.code x code maxLocals ret :: tables_1) room_1) (lw_P b xs) (fun _ _ _ _ _ => True) lw_Q := by
  refine MetFree.of_bodyS (code := code) (maxLocals := maxLocals) (ret := ret) (by decide) ?_ ?_
  · intro args s m h hn
    obtain ⟨meth, c, h1, h2, h3, h4, h5, h6, -, -⟩ := Cond.code_spec hn (atoms_spec (ws := Jvm.Cond.code x code maxLocals ret :: tables_1) h _ List.mem_cons_self)
    exact ⟨meth, c, h1, h2, h3, h4, h5, h6⟩
  · intro p e s m args below meth c s₁ B hml0 hP _
    obtain ⟨rfl, hx, hbd, hgv⟩ := hP
    obtain ⟨scr, harrAt, hlist, hof, hsmall⟩ := hx
    obtain ⟨hcb, hkn, -, -⟩ := State.arrayAt?_spec harrAt
    have hown : s.vm.findClass R_law = some m.cls := findClass_of_methodNamed B.named
    have hts0 : ∀ c ∈ (Jvm.Cond.code x code maxLocals ret :: tables_1), c.before #[Value.ref b] s = true := atoms_spec (ws := Jvm.Cond.code x code maxLocals ret :: tables_1) B.pre
    have hts : ∀ w ∈ lw_tbl, w.before #[Value.ref b] s = true := k2_hts_sels lw_privs (fun w hw => hts0 w (List.mem_cons_of_mem _ hw)) lw_privs_ok
    have hml : c.maxLocals = 10 := B.maxLocals_eq (hts0 _ List.mem_cons_self)
    have htb : c.exceptionTable.toList = [] := by
      obtain ⟨meth9, c9, h1, h2, -, -, -, -, h7, -⟩ := Cond.code_spec B.named (hts0 _ List.mem_cons_self)
      cases Option.some.inj (h1.symm.trans B.method)
      cases Option.some.inj (h2.symm.trans (Stand.of_body B).code)
      rw [Array.isEmpty_iff.mp h7]
    have X₀ : Stand p l e room_1 s m #[Value.ref b] below meth c s₁ [] 0 0 := Stand.of_body B
    have hh0 : s₁.heap = s.heap := by rw [B.state]; rfl
    have hsz : scr.slots.size = xs.length := by rw [← Array.length_toList, hlist, List.length_map]
    have hval : ∀ j : Nat, j < xs.length → scr.slots[j]? = some (.int (xs.getD j 0)) := fun j hj => by
      rw [← Array.getElem?_toList, hlist]
      simp [hj]
    have hbl : b < s.heap.size := (Array.getElem?_eq_some_iff.mp hcb).1
    have hX : va_X b xs.length (fun j => xs.getD j 0) s s.heap := ⟨scr, hcb, hof, hkn, hsz, hval⟩
    have K : W p l e room_1 s m #[Value.ref b] below meth c s₁.heap [] 0 0 (lw_Z below #[Value.ref b] s) (entryFrame m ([Value.ref b] : List Value).toArray 10) := by
      rw [hh0]
      exact whole_start l hflags hbd ⟨B.exec, B.bytes, B.returns, hml, hown, hts, hX, hbl, B.notSynchronized, hgv⟩ (name_of_methodNamed B.named B.method).1 htb
    obtain ⟨t, a1, o, b1, b2, b3⟩ := K s₁ rfl X₀
    exact ⟨t, o, a1, b1, b2, b3⟩
theorem lw_pre_spec {args : Array Value} {s : State} (h : (Jvm.Cond.and given_1 narrow_1).before args s = true) (hr : rest_1_c.before args s = true) : ∃ (b : Addr) (xs : List Int32), lw_P b xs args s := by
  have hs := flat_of_before _ h
  have hq := flat_of_before _ hr
  have hc : (Cond.count 1).before args s = true := hs _ (by decide +kernel)
  have harr : (Cond.arrayOf (.arg 0) .int).before args s = true := hs _ (by decide +kernel)
  have hle : (Cond.le (.length (.arg 0)) (.int 3072)).before args s = true := hs _ (by decide +kernel)
  have hlen : (Cond.isInt (.length (.arg 0))).before args s = true := hq _ (by decide +kernel)
  have hall : (Cond.all (.arg 0) (.isInt (.elem (.arg 0) (.index 0)))).before args s = true := hq _ (by decide +kernel)
  obtain ⟨b, xs, hb, hx⟩ := State.ints_of_pre rfl harr hlen hall
  have hsm : xs.length < 2 ^ 31 := hx.choose_spec.2.2.2
  have hev : (Term.length (.arg 0)).eval args s none [] s = some (.int xs.length.toInt32) := hx.length_eval hb
  have hv := Cond.le_ints hev (show (Term.int 3072).eval args s none [] s = some (.int 3072) from rfl)
  have hd : xs.length.toInt32 ≤ 3072 := by
    simpa [Cond.before, Cond.holds, hv] using hle
  have hN : xs.length ≤ 3072 := (Int32.ofNat_le_ofNat hsm (by decide)).mp (show Int32.ofNat xs.length ≤ Int32.ofNat 3072 from hd)
  exact ⟨b, xs, Cond.one_arg hc (show args[0]? = some (.ref b) from hb), hx, hN, h⟩
theorem lw_comes (l : Launch) (hflags : l.flags = flags0) : Comes l x (Jvm.Cond.code x code maxLocals ret :: tables_1) room_1 (fun tb e args s => Calls_1 tb e args s ∧ rest_1 tb e args s ∧ Pre_1 tb e args s)
    (fun _ _ args s o t => lw_Q args s o t) := by
  intro p e ha hc hk s m args below hf hfit hheap happ hpre
  obtain ⟨b, xs, hP⟩ := lw_pre_spec hpre.2.2 hpre.2.1
  obtain ⟨k, o, h1, h2, h3, hQ⟩ := lw_walk l hflags b xs p e ha hc hk s m args below hf ((Spec.applies_iff_loose hf).mp happ).1 hP trivial
  exact ⟨k, o, h1, h2, h3, hQ⟩
theorem lw_frame {s t : State} {o : Outcome} {args : Array Value} (h : State.butDraws s t lw_cs (fun t1 => Framed s o t1 [] 601024 7293034)) :
    State.butDraws s t [Jvm.Choice.named "NaN.bits"] (fun t1 => Framed s o t1 (fieldLocs frame_1_writes args s ++ arrayLocs frame_1_arrays args s ++ staticLocs frame_1_statics s) 601024 7293034) := h
theorem lw_limb (L : Cond) (hL : ∀ (args : Array Value) (s t : State), L.after args s (.returned (some (.int 1))) t = true) :
    ArmFor flags0 classFile x code maxLocals ret World_1 tables_1 room_1 Calls_1 rest_1 Pre_1
      (fun tb e a s o t => postC L tb e a s o t ∧ State.butDraws s t [Jvm.Choice.named "NaN.bits"] (fun t1 => Framed s o t1 (fieldLocs frame_1_writes a s ++ arrayLocs frame_1_arrays a s ++ staticLocs frame_1_statics s) 601024 7293034)) := by
  intro l hflags _ _ p e ha hc hk s m args below hf hfit hheap happ hpre
  obtain ⟨k, o, h1, h2, h3, rfl, hF⟩ := lw_comes l hflags p e ha hc hk s m args below hf hfit hheap happ hpre
  exact ⟨k, _, h1, h2, h3, hL args s _, lw_frame hF⟩
theorem i_vc : Claimed_1_1 ∧ Claimed_1_2 := ⟨lw_limb limb_1_1 (fun args s t => by simp [limb_1_1, Cond.after, Cond.holds, Cond.value]), lw_limb limb_1_2 (fun args s t => Cond.after_iff.mpr (by
  first | (rw [show limb_1_2 = Cond.eq .result (.int 1) from rfl, Cond.eq_ints (x := 1) (y := 1) rfl rfl]; simp; done) | (simp [limb_1_2, Cond.value, Term.eval]; done)))⟩
