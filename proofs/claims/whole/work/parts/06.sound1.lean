/-! ===== the interpreter's soundness: pictures ===== -/
theorem R_run {E : EX} {mcs : Nat → Nat × Nat} {call : CT} {d : Nat} {r : MI} {Q : QT} : ∀ (k : Nat) {pc : Nat} {L : LV} {S : List Value} {h : AH} {sz nc ns : Nat}, run E mcs call d r Q (Rr E mcs call d r Q) k pc L S h sz nc ns → Rr E mcs call d r Q pc L S h sz nc ns := by
  intro k
  induction k with
  | zero => intro pc L S h sz nc ns hh; exact hh
  | succ k ih =>
    intro pc L S h sz nc ns hh
    unfold run at hh
    cases hl : lkp pc (mI r) with
    | none => rw [hl] at hh; exact hh.elim
    | some q =>
      obtain ⟨b, i, n, x, y⟩ := q
      rw [hl] at hh
      by_cases hb : (b || isc i) = true
      · simp only [hb, cond_true] at hh
        exact hh
      · simp only [Bool.not_eq_true] at hb
        simp only [hb, cond_false] at hh
        intro X hX hw
        refine hX pc L S h sz nc ns (run E mcs call d r Q (Rr E mcs call d r Q) k) (fun pc L S h sz nc ns hY => ih hY X hX hw) ?_
        unfold stp
        rw [hl]
        exact hh
theorem lkp_mem : ∀ {l : List (Nat × RI)} {pc : Nat} {q : RI}, lkp pc l = some q → (pc, q) ∈ l
  | [], _, _, h => by cases h
  | (k, q0) :: l, pc, q, h => by
    have h : cond (Nat.beq pc k) (some q0) (lkp pc l) = some q := h
    by_cases hk : Nat.beq pc k = true
    · rw [hk] at h
      cases h
      rw [Nat.eq_of_beq_eq_true hk]
      exact List.mem_cons_self
    · simp only [Bool.not_eq_true] at hk
      rw [hk] at h
      exact List.mem_cons_of_mem _ (lkp_mem h)
theorem gl_sl : ∀ {L : LV} {x j : Nat} {o : Option Value} {v : Value}, gl (sl L x o) j = some v → (j = x ∧ o = some v) ∨ (j ≠ x ∧ gl L j = some v)
  | [], x, j, o, v, h => by simp [sl, gl] at h
  | w :: L, 0, 0, o, v, h => Or.inl ⟨rfl, h⟩
  | w :: L, 0, j + 1, o, v, h => Or.inr ⟨Nat.succ_ne_zero j, h⟩
  | w :: L, x + 1, 0, o, v, h => Or.inr ⟨(Nat.succ_ne_zero x).symm, h⟩
  | w :: L, x + 1, j + 1, o, v, h => by
    rcases gl_sl (L := L) (x := x) (j := j) (o := o) (v := v) h with ⟨h1, h2⟩ | ⟨h1, h2⟩
    · exact Or.inl ⟨by rw [h1], h2⟩
    · exact Or.inr ⟨fun q => h1 (Nat.succ.inj q), h2⟩
/-- the frame's locals hold what is known of them -/
def LH (ls : Array Slot) (nL : Nat) (L : LV) : Prop := ls.size = nL ∧ lv_wf ls ∧ ∀ i v, gl L i = some v → ls[i]? = some (.val v)
theorem LH.wk {ls : Array Slot} {nL : Nat} {L L' : LV} (h : LH ls nL L) (hw : wkl L' L) : LH ls nL L' := ⟨h.1, h.2.1, fun i v hv => h.2.2 i v (hw i v hv)⟩
def pl : Nat → LV → List (Nat × Value)
  | _, [] => []
  | k, none :: l => pl (k + 1) l
  | k, some v :: l => (k, v) :: pl (k + 1) l
theorem mem_pl : ∀ {L : LV} {k j : Nat} {v : Value}, (j, v) ∈ pl k L ↔ ∃ i, j = k + i ∧ gl L i = some v
  | [], k, j, v => by simp [pl, gl]
  | none :: l, k, j, v => by
    rw [pl, mem_pl (L := l)]
    constructor
    · rintro ⟨i, h1, h2⟩
      exact ⟨i + 1, by omega, h2⟩
    · rintro ⟨i, h1, h2⟩
      cases i with
      | zero => cases h2
      | succ i => exact ⟨i, by omega, h2⟩
  | some w :: l, k, j, v => by
    rw [pl, List.mem_cons, mem_pl (L := l)]
    constructor
    · rintro (h | ⟨i, h1, h2⟩)
      · cases h
        exact ⟨0, rfl, rfl⟩
      · exact ⟨i + 1, by omega, h2⟩
    · rintro ⟨i, h1, h2⟩
      cases i with
      | zero =>
        cases h2
        rw [Nat.add_zero] at h1
        subst h1
        exact Or.inl rfl
      | succ i => exact Or.inr ⟨i, by omega, h2⟩
theorem LH.has {ls : Array Slot} {nL : Nat} {L : LV} (h : LH ls nL L) : lv_has ls nL (pl 0 L) := by
  refine ⟨h.1, h.2.1, fun q hq => ?_⟩
  obtain ⟨j, v⟩ := q
  obtain ⟨i, h1, h2⟩ := mem_pl.mp hq
  rw [Nat.zero_add] at h1
  subst h1
  exact h.2.2 j v h2
theorem isw_cat {v : Value} : isw (some v) = true ↔ v.category = 2 := by cases v <;> simp [isw, Value.category]
theorem isw_cat1 {v : Value} (h : isw (some v) = false) : v.category = 1 := by cases v <;> simp_all [isw, Value.category]
theorem LH.st1 {ls : Array Slot} {nL x : Nat} {L : LV} {v : Value} (h : lv_has ls nL ((x, v) :: (pl 0 L).filter (fun q => !(q.1 == x) && !(q.1 + 1 == x && q.2.category == 2)))) : LH ls nL (stl x v L) := by
  refine ⟨h.1, h.2.1, fun j w hj => ?_⟩
  rcases gl_sl hj with ⟨h1, h2⟩ | ⟨h1, h2⟩
  · cases h2
    subst h1
    exact h.2.2 _ List.mem_cons_self
  · have h3 : gl L j = some w ∧ ¬ (j + 1 = x ∧ w.category = 2) := by
      by_cases hc : c2 L x = true
      · rw [hc, cond_true] at h2
        rcases gl_sl h2 with ⟨h4, h5⟩ | ⟨h4, h5⟩
        · cases h5
        · refine ⟨h5, fun q => h4 (by omega)⟩
      · have hc' : c2 L x = false := by simpa using hc
        rw [hc', cond_false] at h2
        refine ⟨h2, fun q => hc ?_⟩
        obtain ⟨q1, q2⟩ := q
        subst q1
        show isw (gl L j) = true
        rw [h2]
        exact isw_cat.mpr q2
    refine h.2.2 (j, w) (List.mem_cons_of_mem _ (List.mem_filter.mpr ⟨mem_pl.mpr ⟨j, (Nat.zero_add j).symm, h3.1⟩, ?_⟩))
    simp only [Bool.and_eq_true, Bool.not_eq_true', beq_eq_false_iff_ne, ne_eq, Bool.and_eq_false_iff]
    refine ⟨h1, ?_⟩
    by_cases q1 : j + 1 = x
    · exact Or.inr fun q2 => h3.2 ⟨q1, q2⟩
    · exact Or.inl q1
theorem LH.st2 {ls : Array Slot} {nL x : Nat} {L : LV} {v : Value} (h : lv_has ls nL ((x, v) :: (pl 0 L).filter (fun q => !(q.1 == x) && (!(q.1 == x + 1) && !(q.1 + 1 == x && q.2.category == 2))))) : LH ls nL (stl2 x v L) := by
  refine ⟨h.1, h.2.1, fun j w hj0 => ?_⟩
  rcases gl_sl hj0 with ⟨-, h2⟩ | ⟨hjx, hj⟩
  · cases h2
  rcases gl_sl hj with ⟨h1, h2⟩ | ⟨h1, h2⟩
  · cases h2
    subst h1
    exact h.2.2 _ List.mem_cons_self
  · have h3 : gl L j = some w ∧ ¬ (j + 1 = x ∧ w.category = 2) := by
      by_cases hc : c2 L x = true
      · rw [hc, cond_true] at h2
        rcases gl_sl h2 with ⟨h4, h5⟩ | ⟨h4, h5⟩
        · cases h5
        · refine ⟨h5, fun q => h4 (by omega)⟩
      · have hc' : c2 L x = false := by simpa using hc
        rw [hc', cond_false] at h2
        refine ⟨h2, fun q => hc ?_⟩
        obtain ⟨q1, q2⟩ := q
        subst q1
        show isw (gl L j) = true
        rw [h2]
        exact isw_cat.mpr q2
    refine h.2.2 (j, w) (List.mem_cons_of_mem _ (List.mem_filter.mpr ⟨mem_pl.mpr ⟨j, (Nat.zero_add j).symm, h3.1⟩, ?_⟩))
    simp only [Bool.and_eq_true, Bool.not_eq_true', beq_eq_false_iff_ne, ne_eq, Bool.and_eq_false_iff]
    refine ⟨h1, hjx, ?_⟩
    by_cases q1 : j + 1 = x
    · exact Or.inr fun q2 => h3.2 ⟨q1, q2⟩
    · exact Or.inl q1
theorem ent_aux : ∀ (ps : List (Nat × Value)) (L : LV) {j : Nat} {w : Value}, gl (ps.foldl (fun L q => sl L q.1 (some q.2)) L) j = some w → (j, w) ∈ ps ∨ gl L j = some w
  | [], L, j, w, h => Or.inr h
  | (k, v) :: ps, L, j, w, h => by
    rcases ent_aux ps (sl L k (some v)) h with h1 | h1
    · exact Or.inl (List.mem_cons_of_mem _ h1)
    · rcases gl_sl h1 with ⟨h2, h3⟩ | ⟨-, h3⟩
      · cases h3
        subst h2
        exact Or.inl List.mem_cons_self
      · exact Or.inr h3
theorem gl_none : ∀ (n : Nat) {j : Nat} {w : Value}, ¬ gl (List.replicate n none) j = some w
  | 0, j, w, h => by cases h
  | n + 1, 0, w, h => by cases h
  | n + 1, j + 1, w, h => gl_none n (show gl (List.replicate n none) j = some w from h)
theorem LH.entry {as : List Value} {n : Nat} (h : (lg_sl as).length ≤ n) : LH ((lg_sl as ++ List.replicate (n - (lg_sl as).length) Slot.unset).toArray) n (ent n as) := by
  have hl := lv_entry as h
  refine ⟨hl.1, hl.2.1, fun j w hj => ?_⟩
  rcases ent_aux _ _ hj with h1 | h1
  · exact hl.2.2 (j, w) h1
  · exact absurd h1 (gl_none n)
theorem catS_eq : ∀ S : List Value, catS S = (S.map fun v => v.category).sum
  | [] => rfl
  | v :: S => by rw [catS, catS_eq S, List.map_cons, List.sum_cons]
theorem tk_spec : ∀ {k : Nat} {a S as rest : List Value}, tk k a S = some (as, rest) → as.reverse ++ rest = a.reverse ++ S ∧ as.length = a.length + k
  | 0, a, S, as, rest, h => by
    cases h
    exact ⟨rfl, rfl⟩
  | k + 1, a, [], as, rest, h => by cases h
  | k + 1, a, v :: S, as, rest, h => by
    obtain ⟨h1, h2⟩ := tk_spec (k := k) (a := v :: a) h
    refine ⟨by rw [h1]; simp, by rw [h2]; simp only [List.length_cons]; omega⟩
theorem nf_eq : ∀ (fs : List Value) (k : Nat), nf fs k = vp_V fs k
  | [], k => by simp [nf, vp_V]
  | v :: l, 0 => by simp [nf, vp_V]
  | v :: l, k + 1 => by
    have h := nf_eq l k
    simp only [vp_V] at h ⊢
    rw [nf, h]
    simp
theorem pf_eq : ∀ (fs : List Value) (k : Nat) (v : Value), pf fs k v = fs.set k v
  | [], k, v => rfl
  | w :: l, 0, v => rfl
  | w :: l, k + 1, v => by rw [pf, pf_eq l k v]; rfl
theorem lnb_lt : ∀ {fs : List Value} {k : Nat}, lnb fs k = true → k < fs.length
  | [], k, h => by cases h
  | w :: l, 0, h => Nat.succ_pos _
  | w :: l, k + 1, h => Nat.succ_lt_succ (lnb_lt h)
/-- the heap H holds the cell e at a -/
def hat (D : va_G) (tys : List (ClassId × FieldType)) (a : Nat) (e : va_E) (H : Heap) : Prop := match e with
  | .inl q => ∃ t : ClassId × FieldType, tys[q.1]? = some t ∧ H[a]? = some (vp_cell t.1 q.2)
  | .inr o => ∃ r : vw_C, vwCl[o.1]? = some r ∧ t_OB a (D.1 o.1) r.2.2 (D.2 o.1) H (vp_V o.2)
def hrl (D : va_G) (tys : List (ClassId × FieldType)) (h : AH) (H : Heap) : Prop := ∀ a e, h a = some e → hat D tys a e H
theorem hat.kept {D : va_G} {tys : List (ClassId × FieldType)} {a : Nat} {e : va_E} {H H1 : Heap} (h : hat D tys a e H) (hq : H1[a]? = H[a]?) : hat D tys a e H1 := by
  cases e with
  | inl q =>
    obtain ⟨t, h1, h2⟩ := h
    exact ⟨t, h1, hq.trans h2⟩
  | inr o =>
    obtain ⟨r, h1, h2⟩ := h
    exact ⟨r, h1, h2.kept hq⟩
theorem hat.lt {D : va_G} {tys : List (ClassId × FieldType)} {a : Nat} {e : va_E} {H : Heap} (h : hat D tys a e H) : a < H.size := by
  cases e with
  | inl q =>
    obtain ⟨t, h1, h2⟩ := h
    exact (Array.getElem?_eq_some_iff.mp h2).1
  | inr o =>
    obtain ⟨r, h1, cell, h2, -⟩ := h
    exact (Array.getElem?_eq_some_iff.mp h2).1
theorem hrl.up {D : va_G} {tys : List (ClassId × FieldType)} {h : AH} {H H1 : Heap} {a : Nat} {e : va_E} (k : hrl D tys h H) (he : hat D tys a e H1) (oq : ∀ q : Nat, q ≠ a → H1[q]? = H[q]?) : hrl D tys (hup h a e) H1 := by
  intro b e1 hb
  by_cases hba : b = a
  · subst hba
    rw [hup_eq] at hb
    cases hb
    exact he
  · rw [hup_ne _ _ hba] at hb
    exact (k b e1 hb).kept (oq b hba)
theorem hrl.new {D : va_G} {tys : List (ClassId × FieldType)} {h : AH} {H H1 : Heap} {e : va_E} (k : hrl D tys h H) (he : hat D tys H.size e H1) (oq : ∀ q : Nat, q < H.size → H1[q]? = H[q]?) : hrl D tys (hup h H.size e) H1 := by
  intro b e1 hb
  by_cases hba : b = H.size
  · subst hba
    rw [hup_eq] at hb
    cases hb
    exact he
  · rw [hup_ne _ _ hba] at hb
    have h1 := k b e1 hb
    exact h1.kept (oq b h1.lt)
theorem hrl.kept {D : va_G} {tys : List (ClassId × FieldType)} {h : AH} {H H1 : Heap} (k : hrl D tys h H) (hq : ∀ q : Nat, q < H.size → H1[q]? = H[q]?) : hrl D tys h H1 := fun a e ha => (k a e ha).kept (hq a (k a e ha).lt)
/-- a singleton world of an array -/
theorem hat.P {D : va_G} {tys : List (ClassId × FieldType)} {a k : Nat} {x : vp_A} {H : Heap} (h : hat D tys a (.inl (k, x)) H) : ∃ t : ClassId × FieldType, tys[k]? = some t ∧ va_P D vwCl [(a, .inl (t.1, x))] H := by
  obtain ⟨t, h1, h2⟩ := h
  refine ⟨t, h1, fun j q hq => ?_⟩
  cases j with
  | zero => cases hq; exact h2
  | succ j => cases hq
theorem hat.PO {D : va_G} {tys : List (ClassId × FieldType)} {a ci : Nat} {fs : List Value} {H : Heap} (h : hat D tys a (.inr (ci, fs)) H) : va_P D vwCl [(a, .inr (ci, fs))] H := by
  intro j q hq
  cases j with
  | zero => cases hq; exact h
  | succ j => cases hq
/-- the words that all methods are given -/
noncomputable def lw_gd : List Jvm.Cond := lw_tbl.filter goodWord
theorem gd_good : GoodIn lw_tbl lw_gd := fun w hw => ⟨(List.mem_filter.mp hw).1, good_of_word (List.mem_filter.mp hw).2⟩
theorem gd_in {w : Jvm.Cond} (h : w ∈ lw_tbl) (g : goodWord w = true) : w ∈ lw_gd := List.mem_filter.mpr ⟨h, g⟩
theorem gd_t {w : Jvm.Cond} (i : Nat) (h : tables_1[i]? = some w) (g : goodWord w = true) : w ∈ lw_gd := gd_in (List.mem_append_right _ (List.mem_of_getElem? h)) g
theorem gd_s {w : Jvm.Cond} (i : Nat) (h : (k2_sels lw_privs)[i]? = some w) (g : goodWord w = true) : w ∈ lw_gd := gd_in (List.mem_append_left _ (List.mem_of_getElem? h)) g
