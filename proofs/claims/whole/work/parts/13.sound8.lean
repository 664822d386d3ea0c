/-! ===== the interpreter's soundness: one step, by instruction ===== -/
theorem aft_mono {r : MI} {Q : QT} {X Y : AST} (hY : ∀ pc L S h sz nc ns, Y pc L S h sz nc ns → X pc L S h sz nc ns) {pc n : Nat} {L : LV} {rest : List Value} {nc ns : Nat} {o : RS} {h : AH} {sz : Nat} (k : aft r Q Y pc n L rest nc ns o h sz) : aft r Q X pc n L rest nc ns o h sz := by
  unfold aft at k ⊢
  match o, k with
  | .ok none, k => exact hY _ _ _ _ _ _ _ k
  | .ok (some v), k => exact hY _ _ _ _ _ _ _ k
  | .error E, k =>
    dsimp only at k ⊢
    cases hh : hnd (mH r) pc E with
    | none => rw [hh] at k; exact k
    | some p => rw [hh] at k; exact fun q => hY _ _ _ _ _ _ _ (k q)
section SND7
variable {p : Program} {l : Launch} {e : Env} {R : Room} {s : State} {m : MethodId} {args : Array Value} {below : List Frame} {meth : Method} {c : Code} {Qg : State → Prop} {D : va_G} {tys : List (ClassId × FieldType)} {A : Nat → Prop} {r : MI} {E : EX} {d : Nat}
variable {pc : Nat} {L : LV} {S : List Value} {h : AH} {sz nc ns : Nat} {mcs : Nat → Nat × Nat} {call : CT} {Q : QT} {n x y : Nat}
theorem st_aconst_null (C : CX p l R s m args meth c r D tys E A d)  (hd : decode (mB r) pc = .ok (.aconst_null, n - pc)) (ha : arB r pc (.aconst_null) n x y = true)   {Y : AST} (hY : ∀ pc L S h sz nc ns, Y pc L S h sz nc ns → XS p l e R s m args below meth c Qg D tys A r pc L S h sz nc ns) (k : stI E mcs call d r Q Y (.aconst_null) n x y pc L S h sz nc ns) : XS p l e R s m args below meth c Qg D tys A r pc L S h sz nc ns := by
  have hn : n = pc + 1 := by simpa [arB, and_assoc] using ha
  subst hn
  rw [Nat.add_sub_cancel_left] at hd
  delta stI at k; dsimp only at k
  exact sx_null C hd (hY _ _ _ _ _ _ _ k)
theorem st_aload (C : CX p l R s m args meth c r D tys E A d) {q : Nat} (hd : decode (mB r) pc = .ok (.aload q, n - pc)) (ha : arB r pc (.aload q) n x y = true)   {Y : AST} (hY : ∀ pc L S h sz nc ns, Y pc L S h sz nc ns → XS p l e R s m args below meth c Qg D tys A r pc L S h sz nc ns) (k : stI E mcs call d r Q Y (.aload q) n x y pc L S h sz nc ns) : XS p l e R s m args below meth c Qg D tys A r pc L S h sz nc ns := by
  obtain ⟨hq, hn⟩ : q = x ∧ n = pc + 2 := by simpa [arB, and_assoc] using ha
  subst hn
  rw [Nat.add_sub_cancel_left] at hd
  delta stI at k; dsimp only at k
  split at k <;> first | exact sx_aload C (by rw [hq] at hd; exact hd) (by assumption) (Or.inr ⟨_, rfl⟩) (hY _ _ _ _ _ _ _ k) | exact sx_aload C (by rw [hq] at hd; exact hd) (by assumption) (Or.inl rfl) (hY _ _ _ _ _ _ _ k) | exact k.elim
theorem st_aload_n (C : CX p l R s m args meth c r D tys E A d) {q : Fin 4} (hd : decode (mB r) pc = .ok (.aload_n q, n - pc)) (ha : arB r pc (.aload_n q) n x y = true)   {Y : AST} (hY : ∀ pc L S h sz nc ns, Y pc L S h sz nc ns → XS p l e R s m args below meth c Qg D tys A r pc L S h sz nc ns) (k : stI E mcs call d r Q Y (.aload_n q) n x y pc L S h sz nc ns) : XS p l e R s m args below meth c Qg D tys A r pc L S h sz nc ns := by
  obtain ⟨hq, hn⟩ : (q : Nat) = x ∧ n = pc + 1 := by simpa [arB, and_assoc] using ha
  subst hn
  rw [Nat.add_sub_cancel_left] at hd
  delta stI at k; dsimp only at k
  split at k <;> first | exact sx_aload_n C hd hq (by assumption) (Or.inr ⟨_, rfl⟩) (hY _ _ _ _ _ _ _ k) | exact sx_aload_n C hd hq (by assumption) (Or.inl rfl) (hY _ _ _ _ _ _ _ k) | exact k.elim
theorem st_iload (C : CX p l R s m args meth c r D tys E A d) {q : Nat} (hd : decode (mB r) pc = .ok (.iload q, n - pc)) (ha : arB r pc (.iload q) n x y = true)   {Y : AST} (hY : ∀ pc L S h sz nc ns, Y pc L S h sz nc ns → XS p l e R s m args below meth c Qg D tys A r pc L S h sz nc ns) (k : stI E mcs call d r Q Y (.iload q) n x y pc L S h sz nc ns) : XS p l e R s m args below meth c Qg D tys A r pc L S h sz nc ns := by
  obtain ⟨hq, hn⟩ : q = x ∧ n = pc + 2 := by simpa [arB, and_assoc] using ha
  subst hn
  rw [Nat.add_sub_cancel_left] at hd
  delta stI at k; dsimp only at k
  split at k <;> first | exact sx_iload C (by rw [hq] at hd; exact hd) (by assumption) (hY _ _ _ _ _ _ _ k) | exact k.elim
theorem st_iload_n (C : CX p l R s m args meth c r D tys E A d) {q : Fin 4} (hd : decode (mB r) pc = .ok (.iload_n q, n - pc)) (ha : arB r pc (.iload_n q) n x y = true)   {Y : AST} (hY : ∀ pc L S h sz nc ns, Y pc L S h sz nc ns → XS p l e R s m args below meth c Qg D tys A r pc L S h sz nc ns) (k : stI E mcs call d r Q Y (.iload_n q) n x y pc L S h sz nc ns) : XS p l e R s m args below meth c Qg D tys A r pc L S h sz nc ns := by
  obtain ⟨hq, hn⟩ : (q : Nat) = x ∧ n = pc + 1 := by simpa [arB, and_assoc] using ha
  subst hn
  rw [Nat.add_sub_cancel_left] at hd
  delta stI at k; dsimp only at k
  split at k <;> first | exact sx_iload_n C hd hq (by assumption) (hY _ _ _ _ _ _ _ k) | exact k.elim
theorem st_lload (C : CX p l R s m args meth c r D tys E A d) {q : Nat} (hd : decode (mB r) pc = .ok (.lload q, n - pc)) (ha : arB r pc (.lload q) n x y = true)   {Y : AST} (hY : ∀ pc L S h sz nc ns, Y pc L S h sz nc ns → XS p l e R s m args below meth c Qg D tys A r pc L S h sz nc ns) (k : stI E mcs call d r Q Y (.lload q) n x y pc L S h sz nc ns) : XS p l e R s m args below meth c Qg D tys A r pc L S h sz nc ns := by
  obtain ⟨hq, hn⟩ : q = x ∧ n = pc + 2 := by simpa [arB, and_assoc] using ha
  subst hn
  rw [Nat.add_sub_cancel_left] at hd
  delta stI at k; dsimp only at k
  split at k <;> first | exact sx_lload C (by rw [hq] at hd; exact hd) (by assumption) (hY _ _ _ _ _ _ _ k) | exact k.elim
theorem st_lload_n (C : CX p l R s m args meth c r D tys E A d) {q : Fin 4} (hd : decode (mB r) pc = .ok (.lload_n q, n - pc)) (ha : arB r pc (.lload_n q) n x y = true)   {Y : AST} (hY : ∀ pc L S h sz nc ns, Y pc L S h sz nc ns → XS p l e R s m args below meth c Qg D tys A r pc L S h sz nc ns) (k : stI E mcs call d r Q Y (.lload_n q) n x y pc L S h sz nc ns) : XS p l e R s m args below meth c Qg D tys A r pc L S h sz nc ns := by
  obtain ⟨hq, hn⟩ : (q : Nat) = x ∧ n = pc + 1 := by simpa [arB, and_assoc] using ha
  subst hn
  rw [Nat.add_sub_cancel_left] at hd
  delta stI at k; dsimp only at k
  split at k <;> first | exact sx_lload_n C hd hq (by assumption) (hY _ _ _ _ _ _ _ k) | exact k.elim
theorem st_fload (C : CX p l R s m args meth c r D tys E A d) {q : Nat} (hd : decode (mB r) pc = .ok (.fload q, n - pc)) (ha : arB r pc (.fload q) n x y = true)   {Y : AST} (hY : ∀ pc L S h sz nc ns, Y pc L S h sz nc ns → XS p l e R s m args below meth c Qg D tys A r pc L S h sz nc ns) (k : stI E mcs call d r Q Y (.fload q) n x y pc L S h sz nc ns) : XS p l e R s m args below meth c Qg D tys A r pc L S h sz nc ns := by
  obtain ⟨hq, hn⟩ : q = x ∧ n = pc + 2 := by simpa [arB, and_assoc] using ha
  subst hn
  rw [Nat.add_sub_cancel_left] at hd
  delta stI at k; dsimp only at k
  split at k <;> first | exact sx_fload C (by rw [hq] at hd; exact hd) (by assumption) (hY _ _ _ _ _ _ _ k) | exact k.elim
theorem st_fload_n (C : CX p l R s m args meth c r D tys E A d) {q : Fin 4} (hd : decode (mB r) pc = .ok (.fload_n q, n - pc)) (ha : arB r pc (.fload_n q) n x y = true)   {Y : AST} (hY : ∀ pc L S h sz nc ns, Y pc L S h sz nc ns → XS p l e R s m args below meth c Qg D tys A r pc L S h sz nc ns) (k : stI E mcs call d r Q Y (.fload_n q) n x y pc L S h sz nc ns) : XS p l e R s m args below meth c Qg D tys A r pc L S h sz nc ns := by
  obtain ⟨hq, hn⟩ : (q : Nat) = x ∧ n = pc + 1 := by simpa [arB, and_assoc] using ha
  subst hn
  rw [Nat.add_sub_cancel_left] at hd
  delta stI at k; dsimp only at k
  split at k <;> first | exact sx_fload_n C hd hq (by assumption) (hY _ _ _ _ _ _ _ k) | exact k.elim
theorem st_dload (C : CX p l R s m args meth c r D tys E A d) {q : Nat} (hd : decode (mB r) pc = .ok (.dload q, n - pc)) (ha : arB r pc (.dload q) n x y = true)   {Y : AST} (hY : ∀ pc L S h sz nc ns, Y pc L S h sz nc ns → XS p l e R s m args below meth c Qg D tys A r pc L S h sz nc ns) (k : stI E mcs call d r Q Y (.dload q) n x y pc L S h sz nc ns) : XS p l e R s m args below meth c Qg D tys A r pc L S h sz nc ns := by
  obtain ⟨hq, hn⟩ : q = x ∧ n = pc + 2 := by simpa [arB, and_assoc] using ha
  subst hn
  rw [Nat.add_sub_cancel_left] at hd
  delta stI at k; dsimp only at k
  split at k <;> first | exact sx_dload C (by rw [hq] at hd; exact hd) (by assumption) (hY _ _ _ _ _ _ _ k) | exact k.elim
theorem st_dload_n (C : CX p l R s m args meth c r D tys E A d) {q : Fin 4} (hd : decode (mB r) pc = .ok (.dload_n q, n - pc)) (ha : arB r pc (.dload_n q) n x y = true)   {Y : AST} (hY : ∀ pc L S h sz nc ns, Y pc L S h sz nc ns → XS p l e R s m args below meth c Qg D tys A r pc L S h sz nc ns) (k : stI E mcs call d r Q Y (.dload_n q) n x y pc L S h sz nc ns) : XS p l e R s m args below meth c Qg D tys A r pc L S h sz nc ns := by
  obtain ⟨hq, hn⟩ : (q : Nat) = x ∧ n = pc + 1 := by simpa [arB, and_assoc] using ha
  subst hn
  rw [Nat.add_sub_cancel_left] at hd
  delta stI at k; dsimp only at k
  split at k <;> first | exact sx_dload_n C hd hq (by assumption) (hY _ _ _ _ _ _ _ k) | exact k.elim
theorem st_astore (C : CX p l R s m args meth c r D tys E A d) {q : Nat} (hd : decode (mB r) pc = .ok (.astore q, n - pc)) (ha : arB r pc (.astore q) n x y = true)   {Y : AST} (hY : ∀ pc L S h sz nc ns, Y pc L S h sz nc ns → XS p l e R s m args below meth c Qg D tys A r pc L S h sz nc ns) (k : stI E mcs call d r Q Y (.astore q) n x y pc L S h sz nc ns) : XS p l e R s m args below meth c Qg D tys A r pc L S h sz nc ns := by
  obtain ⟨hq, hx, hn⟩ : q = x ∧ x < mL r ∧ n = pc + 2 := by simpa [arB, and_assoc] using ha
  subst hn
  rw [Nat.add_sub_cancel_left] at hd
  delta stI at k; dsimp only at k
  split at k <;> first | exact sx_astore C (by rw [hq] at hd; exact hd) hx (Or.inr ⟨_, rfl⟩) (hY _ _ _ _ _ _ _ k) | exact sx_astore C (by rw [hq] at hd; exact hd) hx (Or.inl rfl) (hY _ _ _ _ _ _ _ k) | exact k.elim
theorem st_astore_n (C : CX p l R s m args meth c r D tys E A d) {q : Fin 4} (hd : decode (mB r) pc = .ok (.astore_n q, n - pc)) (ha : arB r pc (.astore_n q) n x y = true)   {Y : AST} (hY : ∀ pc L S h sz nc ns, Y pc L S h sz nc ns → XS p l e R s m args below meth c Qg D tys A r pc L S h sz nc ns) (k : stI E mcs call d r Q Y (.astore_n q) n x y pc L S h sz nc ns) : XS p l e R s m args below meth c Qg D tys A r pc L S h sz nc ns := by
  obtain ⟨hq, hx, hn⟩ : (q : Nat) = x ∧ x < mL r ∧ n = pc + 1 := by simpa [arB, and_assoc] using ha
  subst hn
  rw [Nat.add_sub_cancel_left] at hd
  delta stI at k; dsimp only at k
  split at k <;> first | exact sx_astore_n C hd hq hx (Or.inr ⟨_, rfl⟩) (hY _ _ _ _ _ _ _ k) | exact sx_astore_n C hd hq hx (Or.inl rfl) (hY _ _ _ _ _ _ _ k) | exact k.elim
theorem st_istore (C : CX p l R s m args meth c r D tys E A d) {q : Nat} (hd : decode (mB r) pc = .ok (.istore q, n - pc)) (ha : arB r pc (.istore q) n x y = true)   {Y : AST} (hY : ∀ pc L S h sz nc ns, Y pc L S h sz nc ns → XS p l e R s m args below meth c Qg D tys A r pc L S h sz nc ns) (k : stI E mcs call d r Q Y (.istore q) n x y pc L S h sz nc ns) : XS p l e R s m args below meth c Qg D tys A r pc L S h sz nc ns := by
  obtain ⟨hq, hx, hn⟩ : q = x ∧ x < mL r ∧ n = pc + 2 := by simpa [arB, and_assoc] using ha
  subst hn
  rw [Nat.add_sub_cancel_left] at hd
  delta stI at k; dsimp only at k
  split at k <;> first | exact sx_istore C (by rw [hq] at hd; exact hd) hx (hY _ _ _ _ _ _ _ k) | exact k.elim
theorem st_istore_n (C : CX p l R s m args meth c r D tys E A d) {q : Fin 4} (hd : decode (mB r) pc = .ok (.istore_n q, n - pc)) (ha : arB r pc (.istore_n q) n x y = true)   {Y : AST} (hY : ∀ pc L S h sz nc ns, Y pc L S h sz nc ns → XS p l e R s m args below meth c Qg D tys A r pc L S h sz nc ns) (k : stI E mcs call d r Q Y (.istore_n q) n x y pc L S h sz nc ns) : XS p l e R s m args below meth c Qg D tys A r pc L S h sz nc ns := by
  obtain ⟨hq, hx, hn⟩ : (q : Nat) = x ∧ x < mL r ∧ n = pc + 1 := by simpa [arB, and_assoc] using ha
  subst hn
  rw [Nat.add_sub_cancel_left] at hd
  delta stI at k; dsimp only at k
  split at k <;> first | exact sx_istore_n C hd hq hx (hY _ _ _ _ _ _ _ k) | exact k.elim
theorem st_fstore (C : CX p l R s m args meth c r D tys E A d) {q : Nat} (hd : decode (mB r) pc = .ok (.fstore q, n - pc)) (ha : arB r pc (.fstore q) n x y = true)   {Y : AST} (hY : ∀ pc L S h sz nc ns, Y pc L S h sz nc ns → XS p l e R s m args below meth c Qg D tys A r pc L S h sz nc ns) (k : stI E mcs call d r Q Y (.fstore q) n x y pc L S h sz nc ns) : XS p l e R s m args below meth c Qg D tys A r pc L S h sz nc ns := by
  obtain ⟨hq, hx, hn⟩ : q = x ∧ x < mL r ∧ n = pc + 2 := by simpa [arB, and_assoc] using ha
  subst hn
  rw [Nat.add_sub_cancel_left] at hd
  delta stI at k; dsimp only at k
  split at k <;> first | exact sx_fstore C (by rw [hq] at hd; exact hd) hx (hY _ _ _ _ _ _ _ k) | exact k.elim
theorem st_fstore_n (C : CX p l R s m args meth c r D tys E A d) {q : Fin 4} (hd : decode (mB r) pc = .ok (.fstore_n q, n - pc)) (ha : arB r pc (.fstore_n q) n x y = true)   {Y : AST} (hY : ∀ pc L S h sz nc ns, Y pc L S h sz nc ns → XS p l e R s m args below meth c Qg D tys A r pc L S h sz nc ns) (k : stI E mcs call d r Q Y (.fstore_n q) n x y pc L S h sz nc ns) : XS p l e R s m args below meth c Qg D tys A r pc L S h sz nc ns := by
  obtain ⟨hq, hx, hn⟩ : (q : Nat) = x ∧ x < mL r ∧ n = pc + 1 := by simpa [arB, and_assoc] using ha
  subst hn
  rw [Nat.add_sub_cancel_left] at hd
  delta stI at k; dsimp only at k
  split at k <;> first | exact sx_fstore_n C hd hq hx (hY _ _ _ _ _ _ _ k) | exact k.elim
theorem st_lstore (C : CX p l R s m args meth c r D tys E A d) {q : Nat} (hd : decode (mB r) pc = .ok (.lstore q, n - pc)) (ha : arB r pc (.lstore q) n x y = true)   {Y : AST} (hY : ∀ pc L S h sz nc ns, Y pc L S h sz nc ns → XS p l e R s m args below meth c Qg D tys A r pc L S h sz nc ns) (k : stI E mcs call d r Q Y (.lstore q) n x y pc L S h sz nc ns) : XS p l e R s m args below meth c Qg D tys A r pc L S h sz nc ns := by
  obtain ⟨hq, hx, hn⟩ : q = x ∧ x + 1 < mL r ∧ n = pc + 2 := by simpa [arB, and_assoc] using ha
  subst hn
  rw [Nat.add_sub_cancel_left] at hd
  delta stI at k; dsimp only at k
  split at k <;> first | exact sx_lstore C (by rw [hq] at hd; exact hd) hx (hY _ _ _ _ _ _ _ k) | exact k.elim
theorem st_lstore_n (C : CX p l R s m args meth c r D tys E A d) {q : Fin 4} (hd : decode (mB r) pc = .ok (.lstore_n q, n - pc)) (ha : arB r pc (.lstore_n q) n x y = true)   {Y : AST} (hY : ∀ pc L S h sz nc ns, Y pc L S h sz nc ns → XS p l e R s m args below meth c Qg D tys A r pc L S h sz nc ns) (k : stI E mcs call d r Q Y (.lstore_n q) n x y pc L S h sz nc ns) : XS p l e R s m args below meth c Qg D tys A r pc L S h sz nc ns := by
  obtain ⟨hq, hx, hn⟩ : (q : Nat) = x ∧ x + 1 < mL r ∧ n = pc + 1 := by simpa [arB, and_assoc] using ha
  subst hn
  rw [Nat.add_sub_cancel_left] at hd
  delta stI at k; dsimp only at k
  split at k <;> first | exact sx_lstore_n C hd hq hx (hY _ _ _ _ _ _ _ k) | exact k.elim
theorem st_dstore (C : CX p l R s m args meth c r D tys E A d) {q : Nat} (hd : decode (mB r) pc = .ok (.dstore q, n - pc)) (ha : arB r pc (.dstore q) n x y = true)   {Y : AST} (hY : ∀ pc L S h sz nc ns, Y pc L S h sz nc ns → XS p l e R s m args below meth c Qg D tys A r pc L S h sz nc ns) (k : stI E mcs call d r Q Y (.dstore q) n x y pc L S h sz nc ns) : XS p l e R s m args below meth c Qg D tys A r pc L S h sz nc ns := by
  obtain ⟨hq, hx, hn⟩ : q = x ∧ x + 1 < mL r ∧ n = pc + 2 := by simpa [arB, and_assoc] using ha
  subst hn
  rw [Nat.add_sub_cancel_left] at hd
  delta stI at k; dsimp only at k
  split at k <;> first | exact sx_dstore C (by rw [hq] at hd; exact hd) hx (hY _ _ _ _ _ _ _ k) | exact k.elim
theorem st_dstore_n (C : CX p l R s m args meth c r D tys E A d) {q : Fin 4} (hd : decode (mB r) pc = .ok (.dstore_n q, n - pc)) (ha : arB r pc (.dstore_n q) n x y = true)   {Y : AST} (hY : ∀ pc L S h sz nc ns, Y pc L S h sz nc ns → XS p l e R s m args below meth c Qg D tys A r pc L S h sz nc ns) (k : stI E mcs call d r Q Y (.dstore_n q) n x y pc L S h sz nc ns) : XS p l e R s m args below meth c Qg D tys A r pc L S h sz nc ns := by
  obtain ⟨hq, hx, hn⟩ : (q : Nat) = x ∧ x + 1 < mL r ∧ n = pc + 1 := by simpa [arB, and_assoc] using ha
  subst hn
  rw [Nat.add_sub_cancel_left] at hd
  delta stI at k; dsimp only at k
  split at k <;> first | exact sx_dstore_n C hd hq hx (hY _ _ _ _ _ _ _ k) | exact k.elim
theorem st_iinc (C : CX p l R s m args meth c r D tys E A d) {q : Nat} {z : Int} (hd : decode (mB r) pc = .ok (.iinc q z, n - pc)) (ha : arB r pc (.iinc q z) n x y = true)   {Y : AST} (hY : ∀ pc L S h sz nc ns, Y pc L S h sz nc ns → XS p l e R s m args below meth c Qg D tys A r pc L S h sz nc ns) (k : stI E mcs call d r Q Y (.iinc q z) n x y pc L S h sz nc ns) : XS p l e R s m args below meth c Qg D tys A r pc L S h sz nc ns := by
  obtain ⟨hq, hx, hz, hn⟩ : q = x ∧ x < mL r ∧ Int32.ofInt z = nsg (y / 2) (y % 2) ∧ n = pc + 3 := by simpa [arB, and_assoc] using ha
  subst hn
  rw [Nat.add_sub_cancel_left] at hd
  delta stI at k; dsimp only at k
  split at k <;> first | exact sx_iinc C (by rw [hq] at hd; exact hd) hx (by assumption) (by rw [hz]) (hY _ _ _ _ _ _ _ k) | exact k.elim
theorem st_iconst (C : CX p l R s m args meth c r D tys E A d) {v : Int} (hd : decode (mB r) pc = .ok (.iconst v, n - pc)) (ha : arB r pc (.iconst v) n x y = true)   {Y : AST} (hY : ∀ pc L S h sz nc ns, Y pc L S h sz nc ns → XS p l e R s m args below meth c Qg D tys A r pc L S h sz nc ns) (k : stI E mcs call d r Q Y (.iconst v) n x y pc L S h sz nc ns) : XS p l e R s m args below meth c Qg D tys A r pc L S h sz nc ns := by
  obtain ⟨hv, hn⟩ : Int32.ofInt v = nsg x y ∧ n = pc + 1 := by simpa [arB, and_assoc] using ha
  subst hn
  rw [Nat.add_sub_cancel_left] at hd
  delta stI at k; dsimp only at k
  exact sx_iconst C hd hv (hY _ _ _ _ _ _ _ k)
theorem st_bipush (C : CX p l R s m args meth c r D tys E A d) {v : Int} (hd : decode (mB r) pc = .ok (.bipush v, n - pc)) (ha : arB r pc (.bipush v) n x y = true)   {Y : AST} (hY : ∀ pc L S h sz nc ns, Y pc L S h sz nc ns → XS p l e R s m args below meth c Qg D tys A r pc L S h sz nc ns) (k : stI E mcs call d r Q Y (.bipush v) n x y pc L S h sz nc ns) : XS p l e R s m args below meth c Qg D tys A r pc L S h sz nc ns := by
  obtain ⟨hv, hn⟩ : (Int8.ofInt v).toInt32 = nsg x y ∧ n = pc + 2 := by simpa [arB, and_assoc] using ha
  subst hn
  rw [Nat.add_sub_cancel_left] at hd
  delta stI at k; dsimp only at k
  exact sx_bipush C hd hv (hY _ _ _ _ _ _ _ k)
theorem st_sipush (C : CX p l R s m args meth c r D tys E A d) {v : Int} (hd : decode (mB r) pc = .ok (.sipush v, n - pc)) (ha : arB r pc (.sipush v) n x y = true)   {Y : AST} (hY : ∀ pc L S h sz nc ns, Y pc L S h sz nc ns → XS p l e R s m args below meth c Qg D tys A r pc L S h sz nc ns) (k : stI E mcs call d r Q Y (.sipush v) n x y pc L S h sz nc ns) : XS p l e R s m args below meth c Qg D tys A r pc L S h sz nc ns := by
  obtain ⟨hv, hn⟩ : (Int16.ofInt v).toInt32 = nsg x y ∧ n = pc + 3 := by simpa [arB, and_assoc] using ha
  subst hn
  rw [Nat.add_sub_cancel_left] at hd
  delta stI at k; dsimp only at k
  exact sx_sipush C hd hv (hY _ _ _ _ _ _ _ k)
theorem st_lconst (C : CX p l R s m args meth c r D tys E A d) {v : Fin 2} (hd : decode (mB r) pc = .ok (.lconst v, n - pc)) (ha : arB r pc (.lconst v) n x y = true)   {Y : AST} (hY : ∀ pc L S h sz nc ns, Y pc L S h sz nc ns → XS p l e R s m args below meth c Qg D tys A r pc L S h sz nc ns) (k : stI E mcs call d r Q Y (.lconst v) n x y pc L S h sz nc ns) : XS p l e R s m args below meth c Qg D tys A r pc L S h sz nc ns := by
  obtain ⟨hv, hn⟩ : Int64.ofNat (v : Nat) = lN x ∧ n = pc + 1 := by simpa [arB, and_assoc] using ha
  subst hn
  rw [Nat.add_sub_cancel_left] at hd
  delta stI at k; dsimp only at k
  exact sx_lconst C hd hv (hY _ _ _ _ _ _ _ k)
theorem st_fconst (C : CX p l R s m args meth c r D tys E A d) {v : Fin 3} (hd : decode (mB r) pc = .ok (.fconst v, n - pc)) (ha : arB r pc (.fconst v) n x y = true)   {Y : AST} (hY : ∀ pc L S h sz nc ns, Y pc L S h sz nc ns → XS p l e R s m args below meth c Qg D tys A r pc L S h sz nc ns) (k : stI E mcs call d r Q Y (.fconst v) n x y pc L S h sz nc ns) : XS p l e R s m args below meth c Qg D tys A r pc L S h sz nc ns := by
  obtain ⟨hv, hn⟩ : v = 0 ∧ n = pc + 1 := by simpa [arB, and_assoc] using ha
  subst hn
  rw [Nat.add_sub_cancel_left] at hd
  delta stI at k; dsimp only at k
  subst hv
  exact sx_fconst0 C hd (hY _ _ _ _ _ _ _ k)
theorem st_ldc (C : CX p l R s m args meth c r D tys E A d) {q : Nat} (hd : decode (mB r) pc = .ok (.ldc q, n - pc)) (ha : arB r pc (.ldc q) n x y = true) (hw : WDI r pc (.ldc q) x y)  {Y : AST} (hY : ∀ pc L S h sz nc ns, Y pc L S h sz nc ns → XS p l e R s m args below meth c Qg D tys A r pc L S h sz nc ns) (k : stI E mcs call d r Q Y (.ldc q) n x y pc L S h sz nc ns) : XS p l e R s m args below meth c Qg D tys A r pc L S h sz nc ns := by
  have hn : n = pc + 2 := by simpa [arB, and_assoc] using ha
  subst hn
  rw [Nat.add_sub_cancel_left] at hd
  delta stI at k; dsimp only at k
  rcases hw with ⟨h1, h2⟩ | ⟨h1, h2⟩
  · rw [if_pos h1] at k
    exact sx_ldcM C hd h2 (hY _ _ _ _ _ _ _ k)
  · rw [if_neg h1] at k
    exact sx_ldc C hd h2 (hY _ _ _ _ _ _ _ k)
theorem st_ldc_w (C : CX p l R s m args meth c r D tys E A d) {q : Nat} (hd : decode (mB r) pc = .ok (.ldc_w q, n - pc)) (ha : arB r pc (.ldc_w q) n x y = true) (hw : WDI r pc (.ldc_w q) x y)  {Y : AST} (hY : ∀ pc L S h sz nc ns, Y pc L S h sz nc ns → XS p l e R s m args below meth c Qg D tys A r pc L S h sz nc ns) (k : stI E mcs call d r Q Y (.ldc_w q) n x y pc L S h sz nc ns) : XS p l e R s m args below meth c Qg D tys A r pc L S h sz nc ns := by
  have hn : n = pc + 3 := by simpa [arB, and_assoc] using ha
  subst hn
  rw [Nat.add_sub_cancel_left] at hd
  delta stI at k; dsimp only at k
  exact sx_ldcw C hd hw (hY _ _ _ _ _ _ _ k)
theorem st_ldc2_w (C : CX p l R s m args meth c r D tys E A d) {q : Nat} (hd : decode (mB r) pc = .ok (.ldc2_w q, n - pc)) (ha : arB r pc (.ldc2_w q) n x y = true) (hw : WDI r pc (.ldc2_w q) x y)  {Y : AST} (hY : ∀ pc L S h sz nc ns, Y pc L S h sz nc ns → XS p l e R s m args below meth c Qg D tys A r pc L S h sz nc ns) (k : stI E mcs call d r Q Y (.ldc2_w q) n x y pc L S h sz nc ns) : XS p l e R s m args below meth c Qg D tys A r pc L S h sz nc ns := by
  have hn : n = pc + 3 := by simpa [arB, and_assoc] using ha
  subst hn
  rw [Nat.add_sub_cancel_left] at hd
  delta stI at k; dsimp only at k
  rcases hw with ⟨h1, h2⟩ | ⟨h1, h2⟩
  · rw [if_pos h1] at k
    exact sx_ldc2 C hd h2 (hY _ _ _ _ _ _ _ k)
  · rw [if_neg h1] at k
    exact sx_ldc2d C hd h2 (hY _ _ _ _ _ _ _ k)
theorem st_dup (C : CX p l R s m args meth c r D tys E A d)  (hd : decode (mB r) pc = .ok (.dup, n - pc)) (ha : arB r pc (.dup) n x y = true)   {Y : AST} (hY : ∀ pc L S h sz nc ns, Y pc L S h sz nc ns → XS p l e R s m args below meth c Qg D tys A r pc L S h sz nc ns) (k : stI E mcs call d r Q Y (.dup) n x y pc L S h sz nc ns) : XS p l e R s m args below meth c Qg D tys A r pc L S h sz nc ns := by
  have hn : n = pc + 1 := by simpa [arB, and_assoc] using ha
  subst hn
  rw [Nat.add_sub_cancel_left] at hd
  delta stI at k; dsimp only at k
  split at k <;> first | exact sx_dup C hd k.1 (hY _ _ _ _ _ _ _ k.2) | exact k.elim
theorem st_pop (C : CX p l R s m args meth c r D tys E A d)  (hd : decode (mB r) pc = .ok (.pop, n - pc)) (ha : arB r pc (.pop) n x y = true)   {Y : AST} (hY : ∀ pc L S h sz nc ns, Y pc L S h sz nc ns → XS p l e R s m args below meth c Qg D tys A r pc L S h sz nc ns) (k : stI E mcs call d r Q Y (.pop) n x y pc L S h sz nc ns) : XS p l e R s m args below meth c Qg D tys A r pc L S h sz nc ns := by
  have hn : n = pc + 1 := by simpa [arB, and_assoc] using ha
  subst hn
  rw [Nat.add_sub_cancel_left] at hd
  delta stI at k; dsimp only at k
  split at k <;> first | exact sx_pop C hd k.1 (hY _ _ _ _ _ _ _ k.2) | exact k.elim
theorem st_dup_x1 (C : CX p l R s m args meth c r D tys E A d)  (hd : decode (mB r) pc = .ok (.dup_x1, n - pc)) (ha : arB r pc (.dup_x1) n x y = true)   {Y : AST} (hY : ∀ pc L S h sz nc ns, Y pc L S h sz nc ns → XS p l e R s m args below meth c Qg D tys A r pc L S h sz nc ns) (k : stI E mcs call d r Q Y (.dup_x1) n x y pc L S h sz nc ns) : XS p l e R s m args below meth c Qg D tys A r pc L S h sz nc ns := by
  have hn : n = pc + 1 := by simpa [arB, and_assoc] using ha
  subst hn
  rw [Nat.add_sub_cancel_left] at hd
  delta stI at k; dsimp only at k
  split at k <;> first | exact sx_dup_x1 C hd k.1 k.2.1 (hY _ _ _ _ _ _ _ k.2.2) | exact k.elim
theorem st_dup2 (C : CX p l R s m args meth c r D tys E A d)  (hd : decode (mB r) pc = .ok (.dup2, n - pc)) (ha : arB r pc (.dup2) n x y = true)   {Y : AST} (hY : ∀ pc L S h sz nc ns, Y pc L S h sz nc ns → XS p l e R s m args below meth c Qg D tys A r pc L S h sz nc ns) (k : stI E mcs call d r Q Y (.dup2) n x y pc L S h sz nc ns) : XS p l e R s m args below meth c Qg D tys A r pc L S h sz nc ns := by
  have hn : n = pc + 1 := by simpa [arB, and_assoc] using ha
  subst hn
  rw [Nat.add_sub_cancel_left] at hd
  delta stI at k; dsimp only at k
  split at k <;> first | exact sx_dup2_11 C hd k.1 k.2.1 (hY _ _ _ _ _ _ _ k.2.2) | exact k.elim
theorem st_iadd (C : CX p l R s m args meth c r D tys E A d)  (hd : decode (mB r) pc = .ok (.iadd, n - pc)) (ha : arB r pc (.iadd) n x y = true)   {Y : AST} (hY : ∀ pc L S h sz nc ns, Y pc L S h sz nc ns → XS p l e R s m args below meth c Qg D tys A r pc L S h sz nc ns) (k : stI E mcs call d r Q Y (.iadd) n x y pc L S h sz nc ns) : XS p l e R s m args below meth c Qg D tys A r pc L S h sz nc ns := by
  have hn : n = pc + 1 := by simpa [arB, and_assoc] using ha
  subst hn
  rw [Nat.add_sub_cancel_left] at hd
  delta stI at k; dsimp only at k
  split at k <;> first | exact sx_iadd C hd (hY _ _ _ _ _ _ _ k) | exact k.elim
theorem st_isub (C : CX p l R s m args meth c r D tys E A d)  (hd : decode (mB r) pc = .ok (.isub, n - pc)) (ha : arB r pc (.isub) n x y = true)   {Y : AST} (hY : ∀ pc L S h sz nc ns, Y pc L S h sz nc ns → XS p l e R s m args below meth c Qg D tys A r pc L S h sz nc ns) (k : stI E mcs call d r Q Y (.isub) n x y pc L S h sz nc ns) : XS p l e R s m args below meth c Qg D tys A r pc L S h sz nc ns := by
  have hn : n = pc + 1 := by simpa [arB, and_assoc] using ha
  subst hn
  rw [Nat.add_sub_cancel_left] at hd
  delta stI at k; dsimp only at k
  split at k <;> first | exact sx_isub C hd (hY _ _ _ _ _ _ _ k) | exact k.elim
theorem st_imul (C : CX p l R s m args meth c r D tys E A d)  (hd : decode (mB r) pc = .ok (.imul, n - pc)) (ha : arB r pc (.imul) n x y = true)   {Y : AST} (hY : ∀ pc L S h sz nc ns, Y pc L S h sz nc ns → XS p l e R s m args below meth c Qg D tys A r pc L S h sz nc ns) (k : stI E mcs call d r Q Y (.imul) n x y pc L S h sz nc ns) : XS p l e R s m args below meth c Qg D tys A r pc L S h sz nc ns := by
  have hn : n = pc + 1 := by simpa [arB, and_assoc] using ha
  subst hn
  rw [Nat.add_sub_cancel_left] at hd
  delta stI at k; dsimp only at k
  split at k <;> first | exact sx_imul C hd (hY _ _ _ _ _ _ _ k) | exact k.elim
theorem st_ineg (C : CX p l R s m args meth c r D tys E A d)  (hd : decode (mB r) pc = .ok (.ineg, n - pc)) (ha : arB r pc (.ineg) n x y = true)   {Y : AST} (hY : ∀ pc L S h sz nc ns, Y pc L S h sz nc ns → XS p l e R s m args below meth c Qg D tys A r pc L S h sz nc ns) (k : stI E mcs call d r Q Y (.ineg) n x y pc L S h sz nc ns) : XS p l e R s m args below meth c Qg D tys A r pc L S h sz nc ns := by
  have hn : n = pc + 1 := by simpa [arB, and_assoc] using ha
  subst hn
  rw [Nat.add_sub_cancel_left] at hd
  delta stI at k; dsimp only at k
  split at k <;> first | exact sx_ineg C hd (hY _ _ _ _ _ _ _ k) | exact k.elim
theorem st_ishl (C : CX p l R s m args meth c r D tys E A d)  (hd : decode (mB r) pc = .ok (.ishl, n - pc)) (ha : arB r pc (.ishl) n x y = true)   {Y : AST} (hY : ∀ pc L S h sz nc ns, Y pc L S h sz nc ns → XS p l e R s m args below meth c Qg D tys A r pc L S h sz nc ns) (k : stI E mcs call d r Q Y (.ishl) n x y pc L S h sz nc ns) : XS p l e R s m args below meth c Qg D tys A r pc L S h sz nc ns := by
  have hn : n = pc + 1 := by simpa [arB, and_assoc] using ha
  subst hn
  rw [Nat.add_sub_cancel_left] at hd
  delta stI at k; dsimp only at k
  split at k <;> first | exact sx_ishl C hd (hY _ _ _ _ _ _ _ k) | exact k.elim
theorem st_ishr (C : CX p l R s m args meth c r D tys E A d)  (hd : decode (mB r) pc = .ok (.ishr, n - pc)) (ha : arB r pc (.ishr) n x y = true)   {Y : AST} (hY : ∀ pc L S h sz nc ns, Y pc L S h sz nc ns → XS p l e R s m args below meth c Qg D tys A r pc L S h sz nc ns) (k : stI E mcs call d r Q Y (.ishr) n x y pc L S h sz nc ns) : XS p l e R s m args below meth c Qg D tys A r pc L S h sz nc ns := by
  have hn : n = pc + 1 := by simpa [arB, and_assoc] using ha
  subst hn
  rw [Nat.add_sub_cancel_left] at hd
  delta stI at k; dsimp only at k
  split at k <;> first | exact sx_ishr C hd (hY _ _ _ _ _ _ _ k) | exact k.elim
theorem st_iushr (C : CX p l R s m args meth c r D tys E A d)  (hd : decode (mB r) pc = .ok (.iushr, n - pc)) (ha : arB r pc (.iushr) n x y = true)   {Y : AST} (hY : ∀ pc L S h sz nc ns, Y pc L S h sz nc ns → XS p l e R s m args below meth c Qg D tys A r pc L S h sz nc ns) (k : stI E mcs call d r Q Y (.iushr) n x y pc L S h sz nc ns) : XS p l e R s m args below meth c Qg D tys A r pc L S h sz nc ns := by
  have hn : n = pc + 1 := by simpa [arB, and_assoc] using ha
  subst hn
  rw [Nat.add_sub_cancel_left] at hd
  delta stI at k; dsimp only at k
  split at k <;> first | exact sx_iushr C hd (hY _ _ _ _ _ _ _ k) | exact k.elim
theorem st_iand (C : CX p l R s m args meth c r D tys E A d)  (hd : decode (mB r) pc = .ok (.iand, n - pc)) (ha : arB r pc (.iand) n x y = true)   {Y : AST} (hY : ∀ pc L S h sz nc ns, Y pc L S h sz nc ns → XS p l e R s m args below meth c Qg D tys A r pc L S h sz nc ns) (k : stI E mcs call d r Q Y (.iand) n x y pc L S h sz nc ns) : XS p l e R s m args below meth c Qg D tys A r pc L S h sz nc ns := by
  have hn : n = pc + 1 := by simpa [arB, and_assoc] using ha
  subst hn
  rw [Nat.add_sub_cancel_left] at hd
  delta stI at k; dsimp only at k
  split at k <;> first | exact sx_iand C hd (hY _ _ _ _ _ _ _ k) | exact k.elim
theorem st_ior (C : CX p l R s m args meth c r D tys E A d)  (hd : decode (mB r) pc = .ok (.ior, n - pc)) (ha : arB r pc (.ior) n x y = true)   {Y : AST} (hY : ∀ pc L S h sz nc ns, Y pc L S h sz nc ns → XS p l e R s m args below meth c Qg D tys A r pc L S h sz nc ns) (k : stI E mcs call d r Q Y (.ior) n x y pc L S h sz nc ns) : XS p l e R s m args below meth c Qg D tys A r pc L S h sz nc ns := by
  have hn : n = pc + 1 := by simpa [arB, and_assoc] using ha
  subst hn
  rw [Nat.add_sub_cancel_left] at hd
  delta stI at k; dsimp only at k
  split at k <;> first | exact sx_ior C hd (hY _ _ _ _ _ _ _ k) | exact k.elim
theorem st_ixor (C : CX p l R s m args meth c r D tys E A d)  (hd : decode (mB r) pc = .ok (.ixor, n - pc)) (ha : arB r pc (.ixor) n x y = true)   {Y : AST} (hY : ∀ pc L S h sz nc ns, Y pc L S h sz nc ns → XS p l e R s m args below meth c Qg D tys A r pc L S h sz nc ns) (k : stI E mcs call d r Q Y (.ixor) n x y pc L S h sz nc ns) : XS p l e R s m args below meth c Qg D tys A r pc L S h sz nc ns := by
  have hn : n = pc + 1 := by simpa [arB, and_assoc] using ha
  subst hn
  rw [Nat.add_sub_cancel_left] at hd
  delta stI at k; dsimp only at k
  split at k <;> first | exact sx_ixor C hd (hY _ _ _ _ _ _ _ k) | exact k.elim
theorem st_ladd (C : CX p l R s m args meth c r D tys E A d)  (hd : decode (mB r) pc = .ok (.ladd, n - pc)) (ha : arB r pc (.ladd) n x y = true)   {Y : AST} (hY : ∀ pc L S h sz nc ns, Y pc L S h sz nc ns → XS p l e R s m args below meth c Qg D tys A r pc L S h sz nc ns) (k : stI E mcs call d r Q Y (.ladd) n x y pc L S h sz nc ns) : XS p l e R s m args below meth c Qg D tys A r pc L S h sz nc ns := by
  have hn : n = pc + 1 := by simpa [arB, and_assoc] using ha
  subst hn
  rw [Nat.add_sub_cancel_left] at hd
  delta stI at k; dsimp only at k
  split at k <;> first | exact sx_ladd C hd (hY _ _ _ _ _ _ _ k) | exact k.elim
theorem st_lmul (C : CX p l R s m args meth c r D tys E A d)  (hd : decode (mB r) pc = .ok (.lmul, n - pc)) (ha : arB r pc (.lmul) n x y = true)   {Y : AST} (hY : ∀ pc L S h sz nc ns, Y pc L S h sz nc ns → XS p l e R s m args below meth c Qg D tys A r pc L S h sz nc ns) (k : stI E mcs call d r Q Y (.lmul) n x y pc L S h sz nc ns) : XS p l e R s m args below meth c Qg D tys A r pc L S h sz nc ns := by
  have hn : n = pc + 1 := by simpa [arB, and_assoc] using ha
  subst hn
  rw [Nat.add_sub_cancel_left] at hd
  delta stI at k; dsimp only at k
  split at k <;> first | exact sx_lmul C hd (hY _ _ _ _ _ _ _ k) | exact k.elim
theorem st_lcmp (C : CX p l R s m args meth c r D tys E A d)  (hd : decode (mB r) pc = .ok (.lcmp, n - pc)) (ha : arB r pc (.lcmp) n x y = true)   {Y : AST} (hY : ∀ pc L S h sz nc ns, Y pc L S h sz nc ns → XS p l e R s m args below meth c Qg D tys A r pc L S h sz nc ns) (k : stI E mcs call d r Q Y (.lcmp) n x y pc L S h sz nc ns) : XS p l e R s m args below meth c Qg D tys A r pc L S h sz nc ns := by
  have hn : n = pc + 1 := by simpa [arB, and_assoc] using ha
  subst hn
  rw [Nat.add_sub_cancel_left] at hd
  delta stI at k; dsimp only at k
  split at k <;> first | exact sx_lcmp C hd (hY _ _ _ _ _ _ _ k) | exact k.elim
theorem st_i2l (C : CX p l R s m args meth c r D tys E A d)  (hd : decode (mB r) pc = .ok (.i2l, n - pc)) (ha : arB r pc (.i2l) n x y = true)   {Y : AST} (hY : ∀ pc L S h sz nc ns, Y pc L S h sz nc ns → XS p l e R s m args below meth c Qg D tys A r pc L S h sz nc ns) (k : stI E mcs call d r Q Y (.i2l) n x y pc L S h sz nc ns) : XS p l e R s m args below meth c Qg D tys A r pc L S h sz nc ns := by
  have hn : n = pc + 1 := by simpa [arB, and_assoc] using ha
  subst hn
  rw [Nat.add_sub_cancel_left] at hd
  delta stI at k; dsimp only at k
  split at k <;> first | exact sx_i2l C hd (hY _ _ _ _ _ _ _ k) | exact k.elim
theorem st_l2i (C : CX p l R s m args meth c r D tys E A d)  (hd : decode (mB r) pc = .ok (.l2i, n - pc)) (ha : arB r pc (.l2i) n x y = true)   {Y : AST} (hY : ∀ pc L S h sz nc ns, Y pc L S h sz nc ns → XS p l e R s m args below meth c Qg D tys A r pc L S h sz nc ns) (k : stI E mcs call d r Q Y (.l2i) n x y pc L S h sz nc ns) : XS p l e R s m args below meth c Qg D tys A r pc L S h sz nc ns := by
  have hn : n = pc + 1 := by simpa [arB, and_assoc] using ha
  subst hn
  rw [Nat.add_sub_cancel_left] at hd
  delta stI at k; dsimp only at k
  split at k <;> first | exact sx_l2i C hd (hY _ _ _ _ _ _ _ k) | exact k.elim
theorem st_i2c (C : CX p l R s m args meth c r D tys E A d)  (hd : decode (mB r) pc = .ok (.i2c, n - pc)) (ha : arB r pc (.i2c) n x y = true)   {Y : AST} (hY : ∀ pc L S h sz nc ns, Y pc L S h sz nc ns → XS p l e R s m args below meth c Qg D tys A r pc L S h sz nc ns) (k : stI E mcs call d r Q Y (.i2c) n x y pc L S h sz nc ns) : XS p l e R s m args below meth c Qg D tys A r pc L S h sz nc ns := by
  have hn : n = pc + 1 := by simpa [arB, and_assoc] using ha
  subst hn
  rw [Nat.add_sub_cancel_left] at hd
  delta stI at k; dsimp only at k
  split at k <;> first | exact sx_i2c C hd (hY _ _ _ _ _ _ _ k) | exact k.elim
theorem st_i2f (C : CX p l R s m args meth c r D tys E A d)  (hd : decode (mB r) pc = .ok (.i2f, n - pc)) (ha : arB r pc (.i2f) n x y = true)   {Y : AST} (hY : ∀ pc L S h sz nc ns, Y pc L S h sz nc ns → XS p l e R s m args below meth c Qg D tys A r pc L S h sz nc ns) (k : stI E mcs call d r Q Y (.i2f) n x y pc L S h sz nc ns) : XS p l e R s m args below meth c Qg D tys A r pc L S h sz nc ns := by
  have hn : n = pc + 1 := by simpa [arB, and_assoc] using ha
  subst hn
  rw [Nat.add_sub_cancel_left] at hd
  delta stI at k; dsimp only at k
  split at k <;> first | exact sx_i2f C hd (hY _ _ _ _ _ _ _ k) | exact k.elim
theorem st_i2d (C : CX p l R s m args meth c r D tys E A d)  (hd : decode (mB r) pc = .ok (.i2d, n - pc)) (ha : arB r pc (.i2d) n x y = true)   {Y : AST} (hY : ∀ pc L S h sz nc ns, Y pc L S h sz nc ns → XS p l e R s m args below meth c Qg D tys A r pc L S h sz nc ns) (k : stI E mcs call d r Q Y (.i2d) n x y pc L S h sz nc ns) : XS p l e R s m args below meth c Qg D tys A r pc L S h sz nc ns := by
  have hn : n = pc + 1 := by simpa [arB, and_assoc] using ha
  subst hn
  rw [Nat.add_sub_cancel_left] at hd
  delta stI at k; dsimp only at k
  split at k <;> first | exact sx_i2d C hd (hY _ _ _ _ _ _ _ k) | exact k.elim
theorem st_idiv (C : CX p l R s m args meth c r D tys E A d)  (hd : decode (mB r) pc = .ok (.idiv, n - pc)) (ha : arB r pc (.idiv) n x y = true)   {Y : AST} (hY : ∀ pc L S h sz nc ns, Y pc L S h sz nc ns → XS p l e R s m args below meth c Qg D tys A r pc L S h sz nc ns) (k : stI E mcs call d r Q Y (.idiv) n x y pc L S h sz nc ns) : XS p l e R s m args below meth c Qg D tys A r pc L S h sz nc ns := by
  have hn : n = pc + 1 := by simpa [arB, and_assoc] using ha
  subst hn
  rw [Nat.add_sub_cancel_left] at hd
  delta stI at k; dsimp only at k
  split at k <;> first | exact sx_idiv C hd k.1 (hY _ _ _ _ _ _ _ k.2) | exact k.elim
theorem st_irem (C : CX p l R s m args meth c r D tys E A d)  (hd : decode (mB r) pc = .ok (.irem, n - pc)) (ha : arB r pc (.irem) n x y = true)   {Y : AST} (hY : ∀ pc L S h sz nc ns, Y pc L S h sz nc ns → XS p l e R s m args below meth c Qg D tys A r pc L S h sz nc ns) (k : stI E mcs call d r Q Y (.irem) n x y pc L S h sz nc ns) : XS p l e R s m args below meth c Qg D tys A r pc L S h sz nc ns := by
  have hn : n = pc + 1 := by simpa [arB, and_assoc] using ha
  subst hn
  rw [Nat.add_sub_cancel_left] at hd
  delta stI at k; dsimp only at k
  split at k <;> first | exact sx_irem C hd k.1 (hY _ _ _ _ _ _ _ k.2) | exact k.elim
theorem st_ldiv (C : CX p l R s m args meth c r D tys E A d)  (hd : decode (mB r) pc = .ok (.ldiv, n - pc)) (ha : arB r pc (.ldiv) n x y = true)   {Y : AST} (hY : ∀ pc L S h sz nc ns, Y pc L S h sz nc ns → XS p l e R s m args below meth c Qg D tys A r pc L S h sz nc ns) (k : stI E mcs call d r Q Y (.ldiv) n x y pc L S h sz nc ns) : XS p l e R s m args below meth c Qg D tys A r pc L S h sz nc ns := by
  have hn : n = pc + 1 := by simpa [arB, and_assoc] using ha
  subst hn
  rw [Nat.add_sub_cancel_left] at hd
  delta stI at k; dsimp only at k
  split at k <;> first | exact sx_ldiv C hd k.1 (hY _ _ _ _ _ _ _ k.2) | exact k.elim
theorem st_lrem (C : CX p l R s m args meth c r D tys E A d)  (hd : decode (mB r) pc = .ok (.lrem, n - pc)) (ha : arB r pc (.lrem) n x y = true)   {Y : AST} (hY : ∀ pc L S h sz nc ns, Y pc L S h sz nc ns → XS p l e R s m args below meth c Qg D tys A r pc L S h sz nc ns) (k : stI E mcs call d r Q Y (.lrem) n x y pc L S h sz nc ns) : XS p l e R s m args below meth c Qg D tys A r pc L S h sz nc ns := by
  have hn : n = pc + 1 := by simpa [arB, and_assoc] using ha
  subst hn
  rw [Nat.add_sub_cancel_left] at hd
  delta stI at k; dsimp only at k
  split at k <;> first | exact sx_lrem C hd k.1 (hY _ _ _ _ _ _ _ k.2) | exact k.elim
theorem st_f2d (C : CX p l R s m args meth c r D tys E A d)  (hd : decode (mB r) pc = .ok (.f2d, n - pc)) (ha : arB r pc (.f2d) n x y = true)   {Y : AST} (hY : ∀ pc L S h sz nc ns, Y pc L S h sz nc ns → XS p l e R s m args below meth c Qg D tys A r pc L S h sz nc ns) (k : stI E mcs call d r Q Y (.f2d) n x y pc L S h sz nc ns) : XS p l e R s m args below meth c Qg D tys A r pc L S h sz nc ns := by
  have hn : n = pc + 1 := by simpa [arB, and_assoc] using ha
  subst hn
  rw [Nat.add_sub_cancel_left] at hd
  delta stI at k; dsimp only at k
  split at k <;> first | exact sx_f2d C hd k.1 (hY _ _ _ _ _ _ _ k.2) | exact k.elim
theorem st_fdiv (C : CX p l R s m args meth c r D tys E A d)  (hd : decode (mB r) pc = .ok (.fdiv, n - pc)) (ha : arB r pc (.fdiv) n x y = true)   {Y : AST} (hY : ∀ pc L S h sz nc ns, Y pc L S h sz nc ns → XS p l e R s m args below meth c Qg D tys A r pc L S h sz nc ns) (k : stI E mcs call d r Q Y (.fdiv) n x y pc L S h sz nc ns) : XS p l e R s m args below meth c Qg D tys A r pc L S h sz nc ns := by
  have hn : n = pc + 1 := by simpa [arB, and_assoc] using ha
  subst hn
  rw [Nat.add_sub_cancel_left] at hd
  delta stI at k; dsimp only at k
  split at k <;> first | exact sx_fdiv C hd k.1 (hY _ _ _ _ _ _ _ k.2) | exact k.elim
theorem st_ddiv (C : CX p l R s m args meth c r D tys E A d)  (hd : decode (mB r) pc = .ok (.ddiv, n - pc)) (ha : arB r pc (.ddiv) n x y = true)   {Y : AST} (hY : ∀ pc L S h sz nc ns, Y pc L S h sz nc ns → XS p l e R s m args below meth c Qg D tys A r pc L S h sz nc ns) (k : stI E mcs call d r Q Y (.ddiv) n x y pc L S h sz nc ns) : XS p l e R s m args below meth c Qg D tys A r pc L S h sz nc ns := by
  have hn : n = pc + 1 := by simpa [arB, and_assoc] using ha
  subst hn
  rw [Nat.add_sub_cancel_left] at hd
  delta stI at k; dsimp only at k
  split at k <;> first | exact sx_ddiv C hd k.1 (hY _ _ _ _ _ _ _ k.2) | exact k.elim
theorem st_fcmp (C : CX p l R s m args meth c r D tys E A d) {q : CmpOp} (hd : decode (mB r) pc = .ok (.fcmp q, n - pc)) (ha : arB r pc (.fcmp q) n x y = true)   {Y : AST} (hY : ∀ pc L S h sz nc ns, Y pc L S h sz nc ns → XS p l e R s m args below meth c Qg D tys A r pc L S h sz nc ns) (k : stI E mcs call d r Q Y (.fcmp q) n x y pc L S h sz nc ns) : XS p l e R s m args below meth c Qg D tys A r pc L S h sz nc ns := by
  have hn : n = pc + 1 := by simpa [arB, and_assoc] using ha
  subst hn
  rw [Nat.add_sub_cancel_left] at hd
  delta stI at k; dsimp only at k
  split at k <;> first | exact sx_fcmp C hd (hY _ _ _ _ _ _ _ k) | exact k.elim
theorem st_dcmp (C : CX p l R s m args meth c r D tys E A d) {q : CmpOp} (hd : decode (mB r) pc = .ok (.dcmp q, n - pc)) (ha : arB r pc (.dcmp q) n x y = true)   {Y : AST} (hY : ∀ pc L S h sz nc ns, Y pc L S h sz nc ns → XS p l e R s m args below meth c Qg D tys A r pc L S h sz nc ns) (k : stI E mcs call d r Q Y (.dcmp q) n x y pc L S h sz nc ns) : XS p l e R s m args below meth c Qg D tys A r pc L S h sz nc ns := by
  have hn : n = pc + 1 := by simpa [arB, and_assoc] using ha
  subst hn
  rw [Nat.add_sub_cancel_left] at hd
  delta stI at k; dsimp only at k
  split at k <;> first | exact sx_dcmp C hd (hY _ _ _ _ _ _ _ k) | exact k.elim
theorem st_goto (C : CX p l R s m args meth c r D tys E A d) {q : Int} (hd : decode (mB r) pc = .ok (.goto q, n - pc)) (ha : arB r pc (.goto q) n x y = true)   {Y : AST} (hY : ∀ pc L S h sz nc ns, Y pc L S h sz nc ns → XS p l e R s m args below meth c Qg D tys A r pc L S h sz nc ns) (k : stI E mcs call d r Q Y (.goto q) n x y pc L S h sz nc ns) : XS p l e R s m args below meth c Qg D tys A r pc L S h sz nc ns := by
  obtain ⟨hq, hn⟩ : (pc : Int) + q = (y : Int) ∧ n = pc + 3 := by simpa [arB, and_assoc] using ha
  subst hn
  rw [Nat.add_sub_cancel_left] at hd
  delta stI at k; dsimp only at k
  exact sx_goto C hd hq (hY _ _ _ _ _ _ _ k)
theorem st_ifCond (C : CX p l R s m args meth c r D tys E A d) {w : ClassFile.Cond} {q : Int} (hd : decode (mB r) pc = .ok (.ifCond w q, n - pc)) (ha : arB r pc (.ifCond w q) n x y = true)   {Y : AST} (hY : ∀ pc L S h sz nc ns, Y pc L S h sz nc ns → XS p l e R s m args below meth c Qg D tys A r pc L S h sz nc ns) (k : stI E mcs call d r Q Y (.ifCond w q) n x y pc L S h sz nc ns) : XS p l e R s m args below meth c Qg D tys A r pc L S h sz nc ns := by
  obtain ⟨hq, hn⟩ : (pc : Int) + q = (y : Int) ∧ n = pc + 3 := by simpa [arB, and_assoc] using ha
  subst hn
  rw [Nat.add_sub_cancel_left] at hd
  delta stI at k; dsimp only at k
  split at k
  · cases w with
    | eq => exact sx_if_eq C hd hq (fun z => hY _ _ _ _ _ _ _ (k.1 z)) (fun z => hY _ _ _ _ _ _ _ (k.2 z))
    | ne => exact sx_if_ne C hd hq (fun z => hY _ _ _ _ _ _ _ (k.1 z)) (fun z => hY _ _ _ _ _ _ _ (k.2 z))
    | lt => exact sx_if_lt C hd hq (fun z => hY _ _ _ _ _ _ _ (k.1 z)) (fun z => hY _ _ _ _ _ _ _ (k.2 z))
    | ge => exact sx_if_ge C hd hq (fun z => hY _ _ _ _ _ _ _ (k.1 z)) (fun z => hY _ _ _ _ _ _ _ (k.2 z))
    | gt => exact sx_if_gt C hd hq (fun z => hY _ _ _ _ _ _ _ (k.1 z)) (fun z => hY _ _ _ _ _ _ _ (k.2 z))
    | le => exact sx_if_le C hd hq (fun z => hY _ _ _ _ _ _ _ (k.1 z)) (fun z => hY _ _ _ _ _ _ _ (k.2 z))
  · exact k.elim
theorem st_if_icmp (C : CX p l R s m args meth c r D tys E A d) {w : ClassFile.Cond} {q : Int} (hd : decode (mB r) pc = .ok (.if_icmp w q, n - pc)) (ha : arB r pc (.if_icmp w q) n x y = true)   {Y : AST} (hY : ∀ pc L S h sz nc ns, Y pc L S h sz nc ns → XS p l e R s m args below meth c Qg D tys A r pc L S h sz nc ns) (k : stI E mcs call d r Q Y (.if_icmp w q) n x y pc L S h sz nc ns) : XS p l e R s m args below meth c Qg D tys A r pc L S h sz nc ns := by
  obtain ⟨hq, hn⟩ : (pc : Int) + q = (y : Int) ∧ n = pc + 3 := by simpa [arB, and_assoc] using ha
  subst hn
  rw [Nat.add_sub_cancel_left] at hd
  delta stI at k; dsimp only at k
  split at k
  · cases w with
    | eq => exact sx_icmp_eq C hd hq (fun z => hY _ _ _ _ _ _ _ (k.1 z)) (fun z => hY _ _ _ _ _ _ _ (k.2 z))
    | ne => exact sx_icmp_ne C hd hq (fun z => hY _ _ _ _ _ _ _ (k.1 z)) (fun z => hY _ _ _ _ _ _ _ (k.2 z))
    | lt => exact sx_icmp_lt C hd hq (fun z => hY _ _ _ _ _ _ _ (k.1 z)) (fun z => hY _ _ _ _ _ _ _ (k.2 z))
    | ge => exact sx_icmp_ge C hd hq (fun z => hY _ _ _ _ _ _ _ (k.1 z)) (fun z => hY _ _ _ _ _ _ _ (k.2 z))
    | gt => exact sx_icmp_gt C hd hq (fun z => hY _ _ _ _ _ _ _ (k.1 z)) (fun z => hY _ _ _ _ _ _ _ (k.2 z))
    | le => exact sx_icmp_le C hd hq (fun z => hY _ _ _ _ _ _ _ (k.1 z)) (fun z => hY _ _ _ _ _ _ _ (k.2 z))
  · exact k.elim
theorem st_if_acmp (C : CX p l R s m args meth c r D tys E A d) {w : ACond} {q : Int} (hd : decode (mB r) pc = .ok (.if_acmp w q, n - pc)) (ha : arB r pc (.if_acmp w q) n x y = true)   {Y : AST} (hY : ∀ pc L S h sz nc ns, Y pc L S h sz nc ns → XS p l e R s m args below meth c Qg D tys A r pc L S h sz nc ns) (k : stI E mcs call d r Q Y (.if_acmp w q) n x y pc L S h sz nc ns) : XS p l e R s m args below meth c Qg D tys A r pc L S h sz nc ns := by
  obtain ⟨hq, hn⟩ : (pc : Int) + q = (y : Int) ∧ n = pc + 3 := by simpa [arB, and_assoc] using ha
  subst hn
  rw [Nat.add_sub_cancel_left] at hd
  delta stI at k; dsimp only at k
  split at k
  · cases w with
    | eq => exact sx_acmp_eq C hd hq (fun z => hY _ _ _ _ _ _ _ (k.1 z)) (fun z => hY _ _ _ _ _ _ _ (k.2 z))
    | ne => exact sx_acmp_ne C hd hq (fun z => hY _ _ _ _ _ _ _ (k.1 z)) (fun z => hY _ _ _ _ _ _ _ (k.2 z))
  · exact k.elim
theorem st_ifnull (C : CX p l R s m args meth c r D tys E A d) {q : Int} (hd : decode (mB r) pc = .ok (.ifnull q, n - pc)) (ha : arB r pc (.ifnull q) n x y = true)   {Y : AST} (hY : ∀ pc L S h sz nc ns, Y pc L S h sz nc ns → XS p l e R s m args below meth c Qg D tys A r pc L S h sz nc ns) (k : stI E mcs call d r Q Y (.ifnull q) n x y pc L S h sz nc ns) : XS p l e R s m args below meth c Qg D tys A r pc L S h sz nc ns := by
  obtain ⟨hq, hn⟩ : (pc : Int) + q = (y : Int) ∧ n = pc + 3 := by simpa [arB, and_assoc] using ha
  subst hn
  rw [Nat.add_sub_cancel_left] at hd
  delta stI at k; dsimp only at k
  split at k <;> first | exact sx_ifnull_r (tgt := 0) C hd (hY _ _ _ _ _ _ _ k) | exact sx_ifnull_n (a := 0) C hd hq (hY _ _ _ _ _ _ _ k) | exact k.elim
theorem st_ifnonnull (C : CX p l R s m args meth c r D tys E A d) {q : Int} (hd : decode (mB r) pc = .ok (.ifnonnull q, n - pc)) (ha : arB r pc (.ifnonnull q) n x y = true)   {Y : AST} (hY : ∀ pc L S h sz nc ns, Y pc L S h sz nc ns → XS p l e R s m args below meth c Qg D tys A r pc L S h sz nc ns) (k : stI E mcs call d r Q Y (.ifnonnull q) n x y pc L S h sz nc ns) : XS p l e R s m args below meth c Qg D tys A r pc L S h sz nc ns := by
  obtain ⟨hq, hn⟩ : (pc : Int) + q = (y : Int) ∧ n = pc + 3 := by simpa [arB, and_assoc] using ha
  subst hn
  rw [Nat.add_sub_cancel_left] at hd
  delta stI at k; dsimp only at k
  split at k <;> first | exact sx_ifnonnull_r C hd hq (hY _ _ _ _ _ _ _ k) | exact sx_ifnonnull_n (tgt := 0) (a := 0) C hd (hY _ _ _ _ _ _ _ k) | exact k.elim
theorem st_tableswitch (C : CX p l R s m args meth c r D tys E A d) {df lo hi : Int} {os : Array Int} (hd : decode (mB r) pc = .ok (.tableswitch df lo hi os, n - pc)) (ha : arB r pc (.tableswitch df lo hi os) n x y = true)   {Y : AST} (hY : ∀ pc L S h sz nc ns, Y pc L S h sz nc ns → XS p l e R s m args below meth c Qg D tys A r pc L S h sz nc ns) (k : stI E mcs call d r Q Y (.tableswitch df lo hi os) n x y pc L S h sz nc ns) : XS p l e R s m args below meth c Qg D tys A r pc L S h sz nc ns := by
  obtain ⟨h1, h2, h3⟩ : 0 ≤ (pc : Int) + df ∧ (hi - lo).toNat + 1 = os.size ∧ ∀ q ∈ os.toList, 0 ≤ (pc : Int) + q := by
    simp only [arB, Bool.and_eq_true, decide_eq_true_eq, List.all_eq_true] at ha
    exact ha
  delta stI at k; dsimp only at k
  split at k
  · refine sx_table C hd (fun z q1 q2 => ?_) h1 (hY _ _ _ _ _ _ _ k)
    have hl : (z - lo).toNat < os.size := by omega
    exact ⟨os[(z - lo).toNat], Array.getElem?_eq_getElem hl, h3 _ (Array.mem_toList_iff.mpr (Array.getElem_mem hl))⟩
  · exact k.elim
theorem st_getfield (C : CX p l R s m args meth c r D tys E A d) {q : Nat} (hd : decode (mB r) pc = .ok (.getfield q, n - pc)) (ha : arB r pc (.getfield q) n x y = true) (hw : WDI r pc (.getfield q) x y)  {Y : AST} (hY : ∀ pc L S h sz nc ns, Y pc L S h sz nc ns → XS p l e R s m args below meth c Qg D tys A r pc L S h sz nc ns) (k : stI E mcs call d r Q Y (.getfield q) n x y pc L S h sz nc ns) : XS p l e R s m args below meth c Qg D tys A r pc L S h sz nc ns := by
  have hn : n = pc + 3 := by simpa [arB, and_assoc] using ha
  subst hn
  rw [Nat.add_sub_cancel_left] at hd
  delta stI at k; dsimp only at k
  split at k
  · split at k
    · exact sx_getf C hd hw (by assumption) k.1 (hY _ _ _ _ _ _ _ k.2)
    · exact k.elim
  · exact k.elim
theorem st_putfield (C : CX p l R s m args meth c r D tys E A d) {q : Nat} (hd : decode (mB r) pc = .ok (.putfield q, n - pc)) (ha : arB r pc (.putfield q) n x y = true) (hw : WDI r pc (.putfield q) x y)  {Y : AST} (hY : ∀ pc L S h sz nc ns, Y pc L S h sz nc ns → XS p l e R s m args below meth c Qg D tys A r pc L S h sz nc ns) (k : stI E mcs call d r Q Y (.putfield q) n x y pc L S h sz nc ns) : XS p l e R s m args below meth c Qg D tys A r pc L S h sz nc ns := by
  have hn : n = pc + 3 := by simpa [arB, and_assoc] using ha
  subst hn
  rw [Nat.add_sub_cancel_left] at hd
  delta stI at k; dsimp only at k
  split at k
  · split at k
    · exact sx_putf C hd hw (by assumption) k.1 k.2.1 k.2.2.1 (hY _ _ _ _ _ _ _ k.2.2.2)
    · exact k.elim
  · exact k.elim
theorem st_getstatic (C : CX p l R s m args meth c r D tys E A d) {q : Nat} (hd : decode (mB r) pc = .ok (.getstatic q, n - pc)) (ha : arB r pc (.getstatic q) n x y = true) (hw : WDI r pc (.getstatic q) x y)  {Y : AST} (hY : ∀ pc L S h sz nc ns, Y pc L S h sz nc ns → XS p l e R s m args below meth c Qg D tys A r pc L S h sz nc ns) (k : stI E mcs call d r Q Y (.getstatic q) n x y pc L S h sz nc ns) : XS p l e R s m args below meth c Qg D tys A r pc L S h sz nc ns := by
  have hn : n = pc + 3 := by simpa [arB, and_assoc] using ha
  subst hn
  rw [Nat.add_sub_cancel_left] at hd
  delta stI at k; dsimp only at k
  exact sx_gets C hd hw (hY _ _ _ _ _ _ _ k)
theorem st_new (C : CX p l R s m args meth c r D tys E A d) {q : Nat} (hd : decode (mB r) pc = .ok (.new q, n - pc)) (ha : arB r pc (.new q) n x y = true) (hw : WDI r pc (.new q) x y) (hTW : 6 ≤ d → TW p l e R s m args below meth c Qg D tys A r Q) {Y : AST} (hY : ∀ pc L S h sz nc ns, Y pc L S h sz nc ns → XS p l e R s m args below meth c Qg D tys A r pc L S h sz nc ns) (k : stI E mcs call d r Q Y (.new q) n x y pc L S h sz nc ns) : XS p l e R s m args below meth c Qg D tys A r pc L S h sz nc ns := by
  have hn : n = pc + 3 := by simpa [arB] using ha
  subst hn
  rw [Nat.add_sub_cancel_left] at hd
  delta stI at k; dsimp only at k
  rcases hw with ⟨h1, h2⟩ | ⟨h1, rr, h2, h3, h4, h5, h6⟩
  · rw [if_pos h1] at k
    intro H locs ls k1 k2 k3 k4 k5 k6 k7
    subst k2
    exact hTW k.1 pc q x S h H locs ls nc ns hd h2 k.2.1 k.2.2.1 k.2.2.2.1 k.2.2.2.2 k1 k3 k4 k5.1
  · rw [if_neg h1] at k
    subst h6
    exact sx_new C hd h2 h3 h4 h5 k.1 k.2.1 (hY _ _ _ _ _ _ _ k.2.2)
theorem st_newarray (C : CX p l R s m args meth c r D tys E A d) {q : ArrayType} (hd : decode (mB r) pc = .ok (.newarray q, n - pc)) (ha : arB r pc (.newarray q) n x y = true) (hw : WDI r pc (.newarray q) x y)  {Y : AST} (hY : ∀ pc L S h sz nc ns, Y pc L S h sz nc ns → XS p l e R s m args below meth c Qg D tys A r pc L S h sz nc ns) (k : stI E mcs call d r Q Y (.newarray q) n x y pc L S h sz nc ns) : XS p l e R s m args below meth c Qg D tys A r pc L S h sz nc ns := by
  obtain ⟨hn, hk⟩ : n = pc + 2 ∧ ((q = .int ∧ x = 0) ∨ (q = .boolean ∧ x = 1) ∨ (q = .long ∧ x = 4) ∨ (q = .double ∧ x = 5)) := by
    cases q <;> simp [arB] at ha <;> simp [ha]
  subst hn
  rw [Nat.add_sub_cancel_left] at hd
  delta stI at k; dsimp only at k
  split at k
  · rcases hk with ⟨rfl, rfl⟩ | ⟨rfl, rfl⟩ | ⟨rfl, rfl⟩ | ⟨rfl, rfl⟩
    · exact sx_newa C hd rfl (by decide) hw (fun _ _ => rfl) k.1 k.2.1 k.2.2.1 k.2.2.2.1 (hY _ _ _ _ _ _ _ k.2.2.2.2)
    · exact sx_newa C hd rfl (by decide) hw (fun _ _ => rfl) k.1 k.2.1 k.2.2.1 k.2.2.2.1 (hY _ _ _ _ _ _ _ k.2.2.2.2)
    · exact sx_newa C hd rfl (by decide) hw (fun _ _ => rfl) k.1 k.2.1 k.2.2.1 k.2.2.2.1 (hY _ _ _ _ _ _ _ k.2.2.2.2)
    · exact sx_newa C hd rfl (by decide) hw (fun _ _ => rfl) k.1 k.2.1 k.2.2.1 k.2.2.2.1 (hY _ _ _ _ _ _ _ k.2.2.2.2)
  · exact k.elim
theorem st_anewarray (C : CX p l R s m args meth c r D tys E A d) {q : Nat} (hd : decode (mB r) pc = .ok (.anewarray q, n - pc)) (ha : arB r pc (.anewarray q) n x y = true) (hw : WDI r pc (.anewarray q) x y)  {Y : AST} (hY : ∀ pc L S h sz nc ns, Y pc L S h sz nc ns → XS p l e R s m args below meth c Qg D tys A r pc L S h sz nc ns) (k : stI E mcs call d r Q Y (.anewarray q) n x y pc L S h sz nc ns) : XS p l e R s m args below meth c Qg D tys A r pc L S h sz nc ns := by
  have hn : n = pc + 3 := by simpa [arB, and_assoc] using ha
  subst hn
  rw [Nat.add_sub_cancel_left] at hd
  delta stI at k; dsimp only at k
  obtain ⟨C0, h1, h2, h3⟩ := hw
  split at k
  · exact sx_anew C hd h1 h2 h3 k.1 k.2.1 k.2.2.1 k.2.2.2.1 (hY _ _ _ _ _ _ _ k.2.2.2.2)
  · exact k.elim
theorem st_arraylength (C : CX p l R s m args meth c r D tys E A d)  (hd : decode (mB r) pc = .ok (.arraylength, n - pc)) (ha : arB r pc (.arraylength) n x y = true)   {Y : AST} (hY : ∀ pc L S h sz nc ns, Y pc L S h sz nc ns → XS p l e R s m args below meth c Qg D tys A r pc L S h sz nc ns) (k : stI E mcs call d r Q Y (.arraylength) n x y pc L S h sz nc ns) : XS p l e R s m args below meth c Qg D tys A r pc L S h sz nc ns := by
  have hn : n = pc + 1 := by simpa [arB, and_assoc] using ha
  subst hn
  rw [Nat.add_sub_cancel_left] at hd
  delta stI at k; dsimp only at k
  split at k
  · split at k
    · exact sx_alen C hd (by assumption) (hY _ _ _ _ _ _ _ k)
    · exact k.elim
    · rcases k with ⟨rfl, k⟩ | ⟨rfl, k⟩
      · exact sx_alen0 C hd (hY _ _ _ _ _ _ _ k)
      · exact sx_alenS C hd (hY _ _ _ _ _ _ _ k)
  · exact k.elim
theorem st_iaload (C : CX p l R s m args meth c r D tys E A d)  (hd : decode (mB r) pc = .ok (.iaload, n - pc)) (ha : arB r pc (.iaload) n x y = true)   {Y : AST} (hY : ∀ pc L S h sz nc ns, Y pc L S h sz nc ns → XS p l e R s m args below meth c Qg D tys A r pc L S h sz nc ns) (k : stI E mcs call d r Q Y (.iaload) n x y pc L S h sz nc ns) : XS p l e R s m args below meth c Qg D tys A r pc L S h sz nc ns := by
  have hn : n = pc + 1 := by simpa [arB, and_assoc] using ha
  subst hn
  rw [Nat.add_sub_cancel_left] at hd
  delta stI at k; dsimp only at k
  split at k
  · split at k
    · obtain ⟨rfl, h1, h2⟩ := k
      exact sx_iald C hd (by assumption) h1 (hY _ _ _ _ _ _ _ h2)
    · exact k.elim
    · exact k.elim
    · obtain ⟨rfl, h1, h2⟩ := k
      exact sx_ialdS C hd h1 (hY _ _ _ _ _ _ _ h2)
  · exact k.elim
theorem st_baload (C : CX p l R s m args meth c r D tys E A d)  (hd : decode (mB r) pc = .ok (.baload, n - pc)) (ha : arB r pc (.baload) n x y = true)   {Y : AST} (hY : ∀ pc L S h sz nc ns, Y pc L S h sz nc ns → XS p l e R s m args below meth c Qg D tys A r pc L S h sz nc ns) (k : stI E mcs call d r Q Y (.baload) n x y pc L S h sz nc ns) : XS p l e R s m args below meth c Qg D tys A r pc L S h sz nc ns := by
  have hn : n = pc + 1 := by simpa [arB, and_assoc] using ha
  subst hn
  rw [Nat.add_sub_cancel_left] at hd
  delta stI at k; dsimp only at k
  split at k
  · split at k
    · obtain ⟨rfl, h1, h2⟩ := k
      exact sx_bald C hd (by assumption) h1 (hY _ _ _ _ _ _ _ h2)
    · exact k.elim
  · exact k.elim
theorem st_laload (C : CX p l R s m args meth c r D tys E A d)  (hd : decode (mB r) pc = .ok (.laload, n - pc)) (ha : arB r pc (.laload) n x y = true)   {Y : AST} (hY : ∀ pc L S h sz nc ns, Y pc L S h sz nc ns → XS p l e R s m args below meth c Qg D tys A r pc L S h sz nc ns) (k : stI E mcs call d r Q Y (.laload) n x y pc L S h sz nc ns) : XS p l e R s m args below meth c Qg D tys A r pc L S h sz nc ns := by
  have hn : n = pc + 1 := by simpa [arB, and_assoc] using ha
  subst hn
  rw [Nat.add_sub_cancel_left] at hd
  delta stI at k; dsimp only at k
  split at k
  · split at k
    · obtain ⟨rfl, h1, h2⟩ := k
      exact sx_lald C hd (by assumption) h1 (hY _ _ _ _ _ _ _ h2)
    · exact k.elim
  · exact k.elim
theorem st_daload (C : CX p l R s m args meth c r D tys E A d)  (hd : decode (mB r) pc = .ok (.daload, n - pc)) (ha : arB r pc (.daload) n x y = true)   {Y : AST} (hY : ∀ pc L S h sz nc ns, Y pc L S h sz nc ns → XS p l e R s m args below meth c Qg D tys A r pc L S h sz nc ns) (k : stI E mcs call d r Q Y (.daload) n x y pc L S h sz nc ns) : XS p l e R s m args below meth c Qg D tys A r pc L S h sz nc ns := by
  have hn : n = pc + 1 := by simpa [arB, and_assoc] using ha
  subst hn
  rw [Nat.add_sub_cancel_left] at hd
  delta stI at k; dsimp only at k
  split at k
  · split at k
    · obtain ⟨rfl, h1, h2⟩ := k
      exact sx_dald C hd (by assumption) h1 (hY _ _ _ _ _ _ _ h2)
    · exact k.elim
  · exact k.elim
theorem st_aaload (C : CX p l R s m args meth c r D tys E A d)  (hd : decode (mB r) pc = .ok (.aaload, n - pc)) (ha : arB r pc (.aaload) n x y = true)   {Y : AST} (hY : ∀ pc L S h sz nc ns, Y pc L S h sz nc ns → XS p l e R s m args below meth c Qg D tys A r pc L S h sz nc ns) (k : stI E mcs call d r Q Y (.aaload) n x y pc L S h sz nc ns) : XS p l e R s m args below meth c Qg D tys A r pc L S h sz nc ns := by
  have hn : n = pc + 1 := by simpa [arB, and_assoc] using ha
  subst hn
  rw [Nat.add_sub_cancel_left] at hd
  delta stI at k; dsimp only at k
  split at k
  · split at k
    · obtain ⟨h0, h1, h2⟩ := k
      exact sx_aald C hd (by assumption) h0 h1 (hY _ _ _ _ _ _ _ h2)
    · exact k.elim
  · exact k.elim
theorem st_iastore (C : CX p l R s m args meth c r D tys E A d)  (hd : decode (mB r) pc = .ok (.iastore, n - pc)) (ha : arB r pc (.iastore) n x y = true)   {Y : AST} (hY : ∀ pc L S h sz nc ns, Y pc L S h sz nc ns → XS p l e R s m args below meth c Qg D tys A r pc L S h sz nc ns) (k : stI E mcs call d r Q Y (.iastore) n x y pc L S h sz nc ns) : XS p l e R s m args below meth c Qg D tys A r pc L S h sz nc ns := by
  have hn : n = pc + 1 := by simpa [arB, and_assoc] using ha
  subst hn
  rw [Nat.add_sub_cancel_left] at hd
  delta stI at k; dsimp only at k
  split at k
  · split at k
    · obtain ⟨rfl, h1, h2⟩ := k
      exact sx_iast C hd (by assumption) h1 (hY _ _ _ _ _ _ _ h2)
    · exact k.elim
  · exact k.elim
theorem st_bastore (C : CX p l R s m args meth c r D tys E A d)  (hd : decode (mB r) pc = .ok (.bastore, n - pc)) (ha : arB r pc (.bastore) n x y = true)   {Y : AST} (hY : ∀ pc L S h sz nc ns, Y pc L S h sz nc ns → XS p l e R s m args below meth c Qg D tys A r pc L S h sz nc ns) (k : stI E mcs call d r Q Y (.bastore) n x y pc L S h sz nc ns) : XS p l e R s m args below meth c Qg D tys A r pc L S h sz nc ns := by
  have hn : n = pc + 1 := by simpa [arB, and_assoc] using ha
  subst hn
  rw [Nat.add_sub_cancel_left] at hd
  delta stI at k; dsimp only at k
  split at k
  · split at k
    · obtain ⟨rfl, h1, h2⟩ := k
      exact sx_bast C hd (by assumption) h1 (hY _ _ _ _ _ _ _ h2)
    · exact k.elim
  · exact k.elim
theorem st_lastore (C : CX p l R s m args meth c r D tys E A d)  (hd : decode (mB r) pc = .ok (.lastore, n - pc)) (ha : arB r pc (.lastore) n x y = true)   {Y : AST} (hY : ∀ pc L S h sz nc ns, Y pc L S h sz nc ns → XS p l e R s m args below meth c Qg D tys A r pc L S h sz nc ns) (k : stI E mcs call d r Q Y (.lastore) n x y pc L S h sz nc ns) : XS p l e R s m args below meth c Qg D tys A r pc L S h sz nc ns := by
  have hn : n = pc + 1 := by simpa [arB, and_assoc] using ha
  subst hn
  rw [Nat.add_sub_cancel_left] at hd
  delta stI at k; dsimp only at k
  split at k
  · split at k
    · obtain ⟨rfl, h1, h2⟩ := k
      exact sx_last C hd (by assumption) h1 (hY _ _ _ _ _ _ _ h2)
    · exact k.elim
  · exact k.elim
theorem st_dastore (C : CX p l R s m args meth c r D tys E A d)  (hd : decode (mB r) pc = .ok (.dastore, n - pc)) (ha : arB r pc (.dastore) n x y = true)   {Y : AST} (hY : ∀ pc L S h sz nc ns, Y pc L S h sz nc ns → XS p l e R s m args below meth c Qg D tys A r pc L S h sz nc ns) (k : stI E mcs call d r Q Y (.dastore) n x y pc L S h sz nc ns) : XS p l e R s m args below meth c Qg D tys A r pc L S h sz nc ns := by
  have hn : n = pc + 1 := by simpa [arB, and_assoc] using ha
  subst hn
  rw [Nat.add_sub_cancel_left] at hd
  delta stI at k; dsimp only at k
  split at k
  · split at k
    · obtain ⟨rfl, h1, h2⟩ := k
      exact sx_dast C hd (by assumption) h1 (hY _ _ _ _ _ _ _ h2)
    · exact k.elim
  · exact k.elim
theorem st_aastore (C : CX p l R s m args meth c r D tys E A d)  (hd : decode (mB r) pc = .ok (.aastore, n - pc)) (ha : arB r pc (.aastore) n x y = true)   {Y : AST} (hY : ∀ pc L S h sz nc ns, Y pc L S h sz nc ns → XS p l e R s m args below meth c Qg D tys A r pc L S h sz nc ns) (k : stI E mcs call d r Q Y (.aastore) n x y pc L S h sz nc ns) : XS p l e R s m args below meth c Qg D tys A r pc L S h sz nc ns := by
  have hn : n = pc + 1 := by simpa [arB, and_assoc] using ha
  subst hn
  rw [Nat.add_sub_cancel_left] at hd
  delta stI at k; dsimp only at k
  split at k
  · split at k
    · split at k
      · obtain ⟨h0, h1, h2⟩ := k
        exact sx_aast C hd (by assumption) (by assumption) h0 h1 (hY _ _ _ _ _ _ _ h2)
      · exact k.elim
    · exact k.elim
  · split at k
    · obtain ⟨h0, h1, h2⟩ := k
      exact sx_aastN C hd (by assumption) h0 h1 (hY _ _ _ _ _ _ _ h2)
    · exact k.elim
  · exact k.elim
theorem st_checkcast (C : CX p l R s m args meth c r D tys E A d) {q : Nat} (hd : decode (mB r) pc = .ok (.checkcast q, n - pc)) (ha : arB r pc (.checkcast q) n x y = true) (hw : WDI r pc (.checkcast q) x y)  {Y : AST} (hY : ∀ pc L S h sz nc ns, Y pc L S h sz nc ns → XS p l e R s m args below meth c Qg D tys A r pc L S h sz nc ns) (k : stI E mcs call d r Q Y (.checkcast q) n x y pc L S h sz nc ns) : XS p l e R s m args below meth c Qg D tys A r pc L S h sz nc ns := by
  have hn : n = pc + 3 := by simpa [arB, and_assoc] using ha
  subst hn
  rw [Nat.add_sub_cancel_left] at hd
  delta stI at k; dsimp only at k
  obtain ⟨nm, w1, w2⟩ := hw
  split at k
  · split at k
    · exact sx_cast C hd (by assumption) w1 (fun rr hr => w2 _ rr k.1 hr) (hY _ _ _ _ _ _ _ k.2)
    · exact k.elim
  · exact k.elim
theorem st_invokestatic (C : CX p l R s m args meth c r D tys E A d) {q : Nat} (hd : decode (mB r) pc = .ok (.invokestatic q, n - pc)) (ha : arB r pc (.invokestatic q) n x y = true) (hw : WDI r pc (.invokestatic q) x y) (hTH : TH p l e R s m args below meth c Qg D tys A r Q) (hHF : HF r) (hcall : ∀ cm as h sz Q', call cm as h sz Q' → ∀ rc, mtab[cm]? = some rc → MS rc → ∃ d', d = d' + 1 ∧ Ctr l D tys E d' rc as h sz Q') {Y : AST} (hY : ∀ pc L S h sz nc ns, Y pc L S h sz nc ns → XS p l e R s m args below meth c Qg D tys A r pc L S h sz nc ns) (k : stI E (mcsT mtab) call d r Q Y (.invokestatic q) n x y pc L S h sz nc ns) : XS p l e R s m args below meth c Qg D tys A r pc L S h sz nc ns := by
  have hn : n = pc + 3 := by simpa [arB] using ha
  subst hn
  rw [Nat.add_sub_cancel_left] at hd
  delta stI at k; dsimp only at k
  rcases hw with ⟨h0, w1, w2, w3, w4⟩ | ⟨rfl, w1⟩ | ⟨rfl, w1⟩ | ⟨h0, h1, h01, h02, rc, ⟨hx, hms, hpd, hst⟩, hlk⟩
  · rcases h0 with rfl | rfl
    · rw [if_pos rfl] at k
      split at k
      · split at k
        · split at k
          · obtain ⟨rfl, rfl, a1, a2, a3, a4, a5, a6, a7, a8⟩ := k
            exact sx_copyI C hd w1 w2 w3 w4 (by assumption) (by assumption) a1 a2 a3 a4 a5 a6 a7 (hY _ _ _ _ _ _ _ a8)
          · exact k.elim
        · exact k.elim
      · exact k.elim
    · rw [if_neg (by decide), if_pos rfl] at k
      split at k
      · split at k
        · split at k
          · obtain ⟨rfl, rfl, a1, a2, a3, a4, a5, a9, a6, a7, a8⟩ := k
            exact sx_copyR C hd w1 w2 w3 w4 (by assumption) (by assumption) a1 a2 a3 a4 a5 a9 a6 a7 (hY _ _ _ _ _ _ _ a8)
          · exact k.elim
        · exact k.elim
      · exact k.elim
  · rw [if_neg (by decide), if_neg (by decide), if_pos rfl] at k
    split at k
    · exact sx_min C hd w1 k.1 k.2.1 (hY _ _ _ _ _ _ _ k.2.2)
    · exact k.elim
  · rw [if_neg (by decide), if_neg (by decide), if_neg (by decide), if_pos rfl] at k
    split at k
    · exact sx_max C hd w1 k.1 k.2.1 (hY _ _ _ _ _ _ _ k.2.2)
    · exact k.elim
  · rw [if_neg h0, if_neg h1, if_neg h01, if_neg h02] at k
    split at k
    · rename_i as rest htk
      obtain ⟨c1, c2, c3, Qc, c4, c5⟩ := k
      obtain ⟨d', rfl, hM⟩ := hcall _ _ _ _ _ c4 rc hx hms
      rw [mcs_at hx] at c2 c3 c5
      obtain ⟨t1, t2⟩ := tk_all htk
      exact sx_callS C hTH hHF.1 hHF.2 hd hM hms ⟨hlk, by rw [t2]; exact hpd⟩ hst t1 c1 c2 c3 rfl (fun o h' sz' z => aft_mono hY (c5 o h' sz' z))
    · exact k.elim
theorem st_invokespecial (C : CX p l R s m args meth c r D tys E A d) {q : Nat} (hd : decode (mB r) pc = .ok (.invokespecial q, n - pc)) (ha : arB r pc (.invokespecial q) n x y = true) (hw : WDI r pc (.invokespecial q) x y) (hTH : TH p l e R s m args below meth c Qg D tys A r Q) (hHF : HF r) (hcall : ∀ cm as h sz Q', call cm as h sz Q' → ∀ rc, mtab[cm]? = some rc → MS rc → ∃ d', d = d' + 1 ∧ Ctr l D tys E d' rc as h sz Q') {Y : AST} (hY : ∀ pc L S h sz nc ns, Y pc L S h sz nc ns → XS p l e R s m args below meth c Qg D tys A r pc L S h sz nc ns) (k : stI E (mcsT mtab) call d r Q Y (.invokespecial q) n x y pc L S h sz nc ns) : XS p l e R s m args below meth c Qg D tys A r pc L S h sz nc ns := by
  have hn : n = pc + 3 := by simpa [arB] using ha
  subst hn
  rw [Nat.add_sub_cancel_left] at hd
  delta stI at k; dsimp only at k
  rcases hw with ⟨rfl, w1, w2, w3⟩ | ⟨h0, rc, ⟨hx, hms, hpd, hin, hnm, hvd, hnh⟩, hlk⟩
  · rw [if_pos rfl] at k
    split at k
    · exact sx_objI C hd w1 w2 w3 k.1 k.2.1 (hY _ _ _ _ _ _ _ k.2.2)
    · exact k.elim
  · rw [if_neg h0] at k
    split at k
    · rename_i as b rest htk
      obtain ⟨c1, c2, c3, Qc, c4, c5⟩ := k
      obtain ⟨d', rfl, hM⟩ := hcall _ _ _ _ _ c4 rc hx hms
      rw [mcs_at hx] at c2 c3 c5
      obtain ⟨t1, t2⟩ := tk_all htk
      exact sx_callI C hTH hHF.1 hHF.2 hd hM hms ⟨hlk, by rw [t2]; exact hpd⟩ hin hnm hvd hnh t1 c1 c2 c3 rfl (fun o h' sz' z => aft_mono hY (c5 o h' sz' z))
    · exact k.elim
theorem st_invokevirtual (C : CX p l R s m args meth c r D tys E A d) {q : Nat} (hd : decode (mB r) pc = .ok (.invokevirtual q, n - pc)) (ha : arB r pc (.invokevirtual q) n x y = true) (hw : WDI r pc (.invokevirtual q) x y) (hTH : TH p l e R s m args below meth c Qg D tys A r Q) (hHF : HF r) (hcall : ∀ cm as h sz Q', call cm as h sz Q' → ∀ rc, mtab[cm]? = some rc → MS rc → ∃ d', d = d' + 1 ∧ Ctr l D tys E d' rc as h sz Q') {Y : AST} (hY : ∀ pc L S h sz nc ns, Y pc L S h sz nc ns → XS p l e R s m args below meth c Qg D tys A r pc L S h sz nc ns) (k : stI E (mcsT mtab) call d r Q Y (.invokevirtual q) n x y pc L S h sz nc ns) : XS p l e R s m args below meth c Qg D tys A r pc L S h sz nc ns := by
  have hn : n = pc + 3 := by simpa [arB] using ha
  subst hn
  rw [Nat.add_sub_cancel_left] at hd
  delta stI at k; dsimp only at k
  rcases hw with ⟨rfl, w1, w2, w3, w4, w5⟩ | ⟨rfl, hy, w1, w2, w3, hdo⟩ | ⟨h0, h1, rc, rr, ⟨hx, hms, hpd, hin, hsel, hnh⟩, hrr, hrc, hlk⟩
  · rw [if_pos rfl] at k
    split at k
    · split at k
      · obtain ⟨rfl, a1, a2, a3⟩ := k
        exact sx_getC C hd w1 w2 w3 w4 w5 (by assumption) a1 a2 (hY _ _ _ _ _ _ _ a3)
      · exact k.elim
    · exact k.elim
  · rw [if_neg (by decide)] at k
    split at k
    · rename_i as b rest htk
      split at k
      · rename_i ci fs hb
        rw [if_pos rfl] at k
        obtain ⟨hsub, c1, c2, c3, Qc, c4, c5⟩ := k
        intro H locs ls k1 k2 k3 k4 k5 k6 k7
        obtain ⟨rr0, hrr0, -⟩ := k1 _ _ hb
        obtain ⟨rr, rc, hrr, hx, hms, hin, hsel, hnh⟩ := hdo ci hsub ⟨rr0, hrr0⟩
        obtain ⟨d', rfl, hM⟩ := hcall _ _ _ _ _ c4 rc hx hms
        rw [mcs_at hx] at c2 c3 c5
        obtain ⟨t1, t2⟩ := tk_all htk
        exact sx_callU C hTH hHF.1 hHF.2 hd hb hrr hM hms (by rw [t2]; exact hy) w1 w2 w3 hin hsel hnh t1 c1 c2 c3 rfl (fun o h' sz' z => aft_mono hY (c5 o h' sz' z)) H locs ls k1 k2 k3 k4 k5 k6 k7
      · exact k.elim
    · exact k.elim
  · rw [if_neg h0] at k
    split at k
    · rename_i as b rest htk
      split at k
      · rename_i ci fs hb
        rw [if_neg h1] at k
        obtain ⟨hci, c1, c2, c3, Qc, c4, c5⟩ := k
        obtain ⟨d', rfl, hM⟩ := hcall _ _ _ _ _ c4 rc hx hms
        rw [mcs_at hx] at c2 c3 c5
        obtain ⟨t1, t2⟩ := tk_all htk
        exact sx_callV C hTH hHF.1 hHF.2 hd hb (by rw [hci]; exact hrr) hrc hM hms ⟨hlk, by rw [t2]; exact hpd⟩ hin hsel hnh t1 c1 c2 c3 rfl (fun o h' sz' z => aft_mono hY (c5 o h' sz' z))
      · exact k.elim
    · exact k.elim
theorem st_ireturn (C : CX p l R s m args meth c r D tys E A d) (hd : decode (mB r) pc = .ok (.ireturn, n - pc)) (ha : arB r pc .ireturn n x y = true) (hRT : RT p l e R s m args below meth c Qg D tys A r Q) {Y : AST} (hY : ∀ pc L S h sz nc ns, Y pc L S h sz nc ns → XS p l e R s m args below meth c Qg D tys A r pc L S h sz nc ns) (k : stI E mcs call d r Q Y .ireturn n x y pc L S h sz nc ns) : XS p l e R s m args below meth c Qg D tys A r pc L S h sz nc ns := by
  obtain ⟨hn, ht⟩ : n = pc + 1 ∧ ((y = 0 ∧ mT r = some .int) ∨ (y = 1 ∧ mT r = some .boolean) ∨ (y = 2 ∧ mT r = some .char)) := by
    simp only [arB, Bool.and_eq_true, beq_iff_eq] at ha
    obtain ⟨h1, h2⟩ := ha
    refine ⟨h1, ?_⟩
    split at h2 <;> simp_all
  subst hn
  rw [Nat.add_sub_cancel_left] at hd
  delta stI at k; dsimp only at k
  split at k
  · intro H locs ls k1 k2 k3 k4 k5 k6 k7
    subst k2
    exact hRT _ pc y _ _ h H locs ls nc ns hd (⟨_, rfl, rfl, k.1, ht⟩) k.2 k1 k3 k4 k6 k7
  · exact k.elim
theorem st_lreturn (C : CX p l R s m args meth c r D tys E A d) (hd : decode (mB r) pc = .ok (.lreturn, n - pc)) (ha : arB r pc .lreturn n x y = true) (hRT : RT p l e R s m args below meth c Qg D tys A r Q) {Y : AST} (hY : ∀ pc L S h sz nc ns, Y pc L S h sz nc ns → XS p l e R s m args below meth c Qg D tys A r pc L S h sz nc ns) (k : stI E mcs call d r Q Y .lreturn n x y pc L S h sz nc ns) : XS p l e R s m args below meth c Qg D tys A r pc L S h sz nc ns := by
  obtain ⟨hn, ht⟩ : n = pc + 1 ∧ (mT r = some .long) := by
    simp only [arB, Bool.and_eq_true, beq_iff_eq] at ha
    obtain ⟨h1, h2⟩ := ha
    refine ⟨h1, ?_⟩
    split at h2 <;> simp_all
  subst hn
  rw [Nat.add_sub_cancel_left] at hd
  delta stI at k; dsimp only at k
  split at k
  · intro H locs ls k1 k2 k3 k4 k5 k6 k7
    subst k2
    exact hRT _ pc y _ _ h H locs ls nc ns hd (⟨_, rfl, rfl, ht⟩) k k1 k3 k4 k6 k7
  · exact k.elim
theorem st_freturn (C : CX p l R s m args meth c r D tys E A d) (hd : decode (mB r) pc = .ok (.freturn, n - pc)) (ha : arB r pc .freturn n x y = true) (hRT : RT p l e R s m args below meth c Qg D tys A r Q) {Y : AST} (hY : ∀ pc L S h sz nc ns, Y pc L S h sz nc ns → XS p l e R s m args below meth c Qg D tys A r pc L S h sz nc ns) (k : stI E mcs call d r Q Y .freturn n x y pc L S h sz nc ns) : XS p l e R s m args below meth c Qg D tys A r pc L S h sz nc ns := by
  obtain ⟨hn, ht⟩ : n = pc + 1 ∧ (mT r = some .float) := by
    simp only [arB, Bool.and_eq_true, beq_iff_eq] at ha
    obtain ⟨h1, h2⟩ := ha
    refine ⟨h1, ?_⟩
    split at h2 <;> simp_all
  subst hn
  rw [Nat.add_sub_cancel_left] at hd
  delta stI at k; dsimp only at k
  split at k
  · intro H locs ls k1 k2 k3 k4 k5 k6 k7
    subst k2
    exact hRT _ pc y _ _ h H locs ls nc ns hd (⟨_, rfl, rfl, ht⟩) k k1 k3 k4 k6 k7
  · exact k.elim
theorem st_dreturn (C : CX p l R s m args meth c r D tys E A d) (hd : decode (mB r) pc = .ok (.dreturn, n - pc)) (ha : arB r pc .dreturn n x y = true) (hRT : RT p l e R s m args below meth c Qg D tys A r Q) {Y : AST} (hY : ∀ pc L S h sz nc ns, Y pc L S h sz nc ns → XS p l e R s m args below meth c Qg D tys A r pc L S h sz nc ns) (k : stI E mcs call d r Q Y .dreturn n x y pc L S h sz nc ns) : XS p l e R s m args below meth c Qg D tys A r pc L S h sz nc ns := by
  obtain ⟨hn, ht⟩ : n = pc + 1 ∧ (mT r = some .double) := by
    simp only [arB, Bool.and_eq_true, beq_iff_eq] at ha
    obtain ⟨h1, h2⟩ := ha
    refine ⟨h1, ?_⟩
    split at h2 <;> simp_all
  subst hn
  rw [Nat.add_sub_cancel_left] at hd
  delta stI at k; dsimp only at k
  split at k
  · intro H locs ls k1 k2 k3 k4 k5 k6 k7
    subst k2
    exact hRT _ pc y _ _ h H locs ls nc ns hd (⟨_, rfl, rfl, ht⟩) k k1 k3 k4 k6 k7
  · exact k.elim
theorem st_areturn (C : CX p l R s m args meth c r D tys E A d) (hd : decode (mB r) pc = .ok (.areturn, n - pc)) (ha : arB r pc .areturn n x y = true) (hRT : RT p l e R s m args below meth c Qg D tys A r Q) {Y : AST} (hY : ∀ pc L S h sz nc ns, Y pc L S h sz nc ns → XS p l e R s m args below meth c Qg D tys A r pc L S h sz nc ns) (k : stI E mcs call d r Q Y .areturn n x y pc L S h sz nc ns) : XS p l e R s m args below meth c Qg D tys A r pc L S h sz nc ns := by
  obtain ⟨hn, ht⟩ : n = pc + 1 ∧ (∃ rt, mT r = some rt ∧ ((∃ z, rt = .object z) ∨ ∃ z, rt = .array z)) := by
    simp only [arB, Bool.and_eq_true, beq_iff_eq] at ha
    obtain ⟨h1, h2⟩ := ha
    refine ⟨h1, ?_⟩
    split at h2 <;> simp_all
  subst hn
  rw [Nat.add_sub_cancel_left] at hd
  delta stI at k; dsimp only at k
  split at k
  · intro H locs ls k1 k2 k3 k4 k5 k6 k7
    subst k2
    exact hRT _ pc y _ _ h H locs ls nc ns hd (⟨_, rfl, rfl, Or.inr ⟨_, rfl⟩, ht⟩) k k1 k3 k4 k6 k7
  · intro H locs ls k1 k2 k3 k4 k5 k6 k7
    subst k2
    exact hRT _ pc y _ _ h H locs ls nc ns hd (⟨_, rfl, rfl, Or.inl rfl, ht⟩) k k1 k3 k4 k6 k7
  · exact k.elim
theorem st_return_ (C : CX p l R s m args meth c r D tys E A d) (hd : decode (mB r) pc = .ok (.return_, n - pc)) (ha : arB r pc .return_ n x y = true) (hRT : RT p l e R s m args below meth c Qg D tys A r Q) {Y : AST} (hY : ∀ pc L S h sz nc ns, Y pc L S h sz nc ns → XS p l e R s m args below meth c Qg D tys A r pc L S h sz nc ns) (k : stI E mcs call d r Q Y .return_ n x y pc L S h sz nc ns) : XS p l e R s m args below meth c Qg D tys A r pc L S h sz nc ns := by
  obtain ⟨hn, ht⟩ : n = pc + 1 ∧ (mT r = none) := by
    simp only [arB, Bool.and_eq_true, beq_iff_eq] at ha
    obtain ⟨h1, h2⟩ := ha
    refine ⟨h1, ?_⟩
    split at h2 <;> simp_all
  subst hn
  rw [Nat.add_sub_cancel_left] at hd
  delta stI at k; dsimp only at k
  split at k
  · intro H locs ls k1 k2 k3 k4 k5 k6 k7
    subst k2
    exact hRT _ pc y _ _ h H locs ls nc ns hd (⟨rfl, rfl, ht⟩) k k1 k3 k4 k6 k7
  · exact k.elim
end SND7
