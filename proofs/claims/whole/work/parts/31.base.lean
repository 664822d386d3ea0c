/-! ===== specifications: ints as images of whole numbers, ends, calls, loops ===== -/
def z (a : Int) : Int32 := Int32.ofInt a
theorem z_toInt {a : Int} (h1 : -2147483648 ≤ a) (h2 : a ≤ 2147483647) : (z a).toInt = a := by
  unfold z
  rw [Int32.toInt_ofInt]
  have e : (Int32.size : Nat) = 4294967296 := rfl
  rw [e]
  exact Int.bmod_eq_of_le (by omega) (by omega)
theorem z_add (a b : Int) : z a + z b = z (a + b) := (Int32.ofInt_add a b).symm
theorem z_sub (a b : Int) : z a - z b = z (a - b) := (Int32.ofInt_sub a b).symm
theorem z_mul (a b : Int) : z a * z b = z (a * b) := (Int32.ofInt_mul a b).symm
theorem z_neg (a : Int) : - z a = z (-a) := (Int32.ofInt_neg a).symm
theorem z_back (x : Int32) : z x.toInt = x := by unfold z; simp
theorem nI_z (n : Nat) : nI n = z (n : Int) := by
  unfold nI z
  first | exact Int32.ofInt_eq_ofNat.symm | exact (Int32.ofInt_eq_ofNat n).symm | exact congrArg (fun b => Int32.ofUInt32 (UInt32.ofBitVec b)) (BitVec.ofInt_natCast 32 n).symm
theorem nsg0 (x : Nat) : nsg x 0 = z (x : Int) := nI_z x
theorem nsg1 (x : Nat) : nsg x 1 = z (-(x : Int)) := by
  show - nI x = _
  rw [nI_z, z_neg]
theorem z_eq {a b : Int} (h1 : -2147483648 ≤ a) (h2 : a ≤ 2147483647) (h3 : -2147483648 ≤ b) (h4 : b ≤ 2147483647) : z a = z b ↔ a = b := by
  constructor
  · intro h
    have h5 := congrArg Int32.toInt h
    rw [z_toInt h1 h2, z_toInt h3 h4] at h5
    exact h5
  · intro h; rw [h]
theorem z_lt {a b : Int} (h1 : -2147483648 ≤ a) (h2 : a ≤ 2147483647) (h3 : -2147483648 ≤ b) (h4 : b ≤ 2147483647) : z a < z b ↔ a < b := by
  rw [Int32.lt_iff_toInt_lt, z_toInt h1 h2, z_toInt h3 h4]
theorem z_le {a b : Int} (h1 : -2147483648 ≤ a) (h2 : a ≤ 2147483647) (h3 : -2147483648 ≤ b) (h4 : b ≤ 2147483647) : z a ≤ z b ↔ a ≤ b := by
  rw [Int32.le_iff_toInt_le, z_toInt h1 h2, z_toInt h3 h4]
theorem z_nat {a : Int} (h1 : -2147483648 ≤ a) (h2 : a ≤ 2147483647) : (z a).toNatClampNeg = a.toNat := by
  show (z a).toInt.toNat = _
  rw [z_toInt h1 h2]
theorem z_in {a : Int} {m : Nat} (h1 : -2147483648 ≤ a) (h2 : a ≤ 2147483647) : vp_in (z a) m ↔ 0 ≤ a ∧ a < m := by
  unfold vp_in
  have h0 : (0 : Int32) = z 0 := rfl
  rw [z_nat h1 h2, h0, z_lt h1 h2 (by omega) (by omega)]
  omega
theorem zero_z : (0 : Int32) = z 0 := rfl
theorem cnd_eq (a b : Int32) : cnd .eq a b = (a = b) := rfl
theorem cnd_ne (a b : Int32) : cnd .ne a b = ¬ a = b := rfl
theorem cnd_lt (a b : Int32) : cnd .lt a b = (a < b) := rfl
theorem cnd_ge (a b : Int32) : cnd .ge a b = (b ≤ a) := rfl
theorem cnd_gt (a b : Int32) : cnd .gt a b = (b < a) := rfl
theorem cnd_le (a b : Int32) : cnd .le a b = (a ≤ b) := rfl
theorem vok_0 (v : Int32) : vok 0 (.int v) = True := rfl
theorem vok_3r (a : Nat) : vok 3 (.ref a) = True := rfl
theorem vok_3n : vok 3 .null = True := rfl
theorem vok_4 (v : Int64) : vok 4 (.long v) = True := rfl
theorem vok_z1 {a : Int} (h : a = 0 ∨ a = 1) : vok 1 (.int (z a)) = True := by
  rcases h with rfl | rfl
  · exact eq_true (Or.inl rfl)
  · exact eq_true (Or.inr rfl)
theorem vok_z2 {a : Int} (h : 0 ≤ a) (h2 : a ≤ 65535) : vok 2 (.int (z a)) = True := by
  refine eq_true ?_
  have e0 : (0 : Int32) = z 0 := rfl
  have e1 : (65535 : Int32) = z 65535 := rfl
  show 0 ≤ z a ∧ z a ≤ 65535
  rw [e0, e1, z_le (by omega) (by omega) (by omega) (by omega), z_le (by omega) (by omega) (by omega) (by omega)]
  exact ⟨h, h2⟩
theorem run_s (E : EX) (mcs : Nat → Nat × Nat) (call : CT) (d : Nat) (r : MI) (Q : QT) (X : AST) (k pc : Nat) (L : LV) (S : List Value) (h : AH) (sz nc ns : Nat) : run E mcs call d r Q X (k + 1) pc L S h sz nc ns = match lkp pc (mI r) with
    | none => False
    | some (b, i, n, x, y) => cond (b || isc i) (X pc L S h sz nc ns) (stI E mcs call d r Q (run E mcs call d r Q X k) i n x y pc L S h sz nc ns) := rfl
theorem run_0 (E : EX) (mcs : Nat → Nat × Nat) (call : CT) (d : Nat) (r : MI) (Q : QT) (X : AST) (pc : Nat) (L : LV) (S : List Value) (h : AH) (sz nc ns : Nat) : run E mcs call d r Q X 0 pc L S h sz nc ns = X pc L S h sz nc ns := rfl
/-- one answer, one heap -/
def rets (v : Option Value) (h1 : AH) (s1 : Nat) : QT := fun o h' sz' => o = .ok v ∧ h' = h1 ∧ sz' = s1
theorem rets_ok (v w : Option Value) (h1 h' : AH) (s1 s' : Nat) : rets v h1 s1 (.ok w) h' s' = (w = v ∧ h' = h1 ∧ s' = s1) := by
  unfold rets
  rw [Except.ok.injEq]
/-- one exception -/
def thrs (e : String) (h1 : AH) (s1 : Nat) : QT := fun o h' sz' => o = .error e ∧ h' = h1 ∧ s1 ≤ sz'
def vpu (v : Option Value) (rest : List Value) : List Value := match v with
  | none => rest
  | some w => w :: rest
section SPC
variable {E : EX} {mcs : Nat → Nat × Nat} {call : CT} {d : Nat} {r : MI} {Q : QT} {pc n x y q : Nat} {L : LV} {S rest as : List Value} {h h1 : AH} {sz s1 nc ns : Nat} {b : Bool} {v : Option Value} {a ci : Nat} {fs : List Value}
theorem cal_r {X : AST} (hs : call x as h sz (rets v h1 s1)) (hc : catS rest ≤ 8) (b1 : nc + (mcs x).1 ≤ mC r) (b2 : ns + (mcs x).2 ≤ mS r) (k : X n L (vpu v rest) h1 s1 (nc + (mcs x).1) (ns + (mcs x).2)) : cal mcs call r Q X x as pc n L rest h sz nc ns := by
  refine ⟨hc, b1, b2, _, hs, ?_⟩
  rintro o h' sz' ⟨rfl, rfl, rfl⟩
  cases v <;> exact k
theorem R_cV (hl : lkp pc (mI r) = some (b, .invokevirtual q, n, x, y)) (hx3 : x ≠ 1003) (hx5 : x ≠ 500) (ht : tk (y % 16) [] S = some (as, .ref a :: rest)) (ha : h a = some (.inr (ci, fs))) (hci : ci = y / 16) (hs : call x (.ref a :: as) h sz (rets v h1 s1)) (hc : catS rest ≤ 8) (b1 : nc + (mcs x).1 ≤ mC r) (b2 : ns + (mcs x).2 ≤ mS r) (k : Rr E mcs call d r Q n L (vpu v rest) h1 s1 (nc + (mcs x).1) (ns + (mcs x).2)) : Rr E mcs call d r Q pc L S h sz nc ns := by
  refine R_intro ?_
  unfold stp
  rw [hl]
  show (if x = 1003 then _ else _)
  rw [if_neg hx3, ht]
  dsimp only
  rw [ha]
  dsimp only
  rw [if_neg hx5]
  exact ⟨hci, cal_r hs hc b1 b2 k⟩
theorem R_cS (hl : lkp pc (mI r) = some (b, .invokestatic q, n, x, y)) (hx : ¬ (1000 ≤ x ∧ x ≤ 1005)) (ht : tk y [] S = some (as, rest)) (hs : call x as h sz (rets v h1 s1)) (hc : catS rest ≤ 8) (b1 : nc + (mcs x).1 ≤ mC r) (b2 : ns + (mcs x).2 ≤ mS r) (k : Rr E mcs call d r Q n L (vpu v rest) h1 s1 (nc + (mcs x).1) (ns + (mcs x).2)) : Rr E mcs call d r Q pc L S h sz nc ns := by
  refine R_intro ?_
  unfold stp
  rw [hl]
  show (if x = 1000 then _ else _)
  rw [if_neg (by omega), if_neg (by omega), if_neg (by omega), if_neg (by omega), ht]
  exact cal_r hs hc b1 b2 k
theorem R_cI (hl : lkp pc (mI r) = some (b, .invokespecial q, n, x, y)) (hx : x ≠ 0) (ht : tk y [] S = some (as, .ref a :: rest)) (hs : call x (.ref a :: as) h sz (rets v h1 s1)) (hc : catS rest ≤ 8) (b1 : nc + (mcs x).1 ≤ mC r) (b2 : ns + (mcs x).2 ≤ mS r) (k : Rr E mcs call d r Q n L (vpu v rest) h1 s1 (nc + (mcs x).1) (ns + (mcs x).2)) : Rr E mcs call d r Q pc L S h sz nc ns := by
  refine R_intro ?_
  unfold stp
  rw [hl]
  show (if x = 0 then _ else _)
  rw [if_neg hx, ht]
  exact cal_r hs hc b1 b2 k
/-- super() of the class at the top -/
theorem R_obj (hl : lkp pc (mI r) = some (b, .invokespecial q, n, 0, y)) (hc : catS rest ≤ 8) (h1d : 1 ≤ d) (k : Rr E mcs call d r Q n L rest h sz nc ns) : Rr E mcs call d r Q pc L (.ref a :: rest) h sz nc ns := by
  refine R_intro ?_
  unfold stp
  rw [hl]
  exact ⟨hc, h1d, k⟩
/-- the first instruction of a loop, then on -/
theorem R_hd {i : Instr} (hl : lkp pc (mI r) = some (b, i, n, x, y)) (K : Nat) (k : stI E mcs call d r Q (run E mcs call d r Q (Rr E mcs call d r Q) K) i n x y pc L S h sz nc ns) : Rr E mcs call d r Q pc L S h sz nc ns := by
  intro X hX hw
  refine hX pc L S h sz nc ns (run E mcs call d r Q (Rr E mcs call d r Q) K) (fun pc L S h sz nc ns hY => R_run K hY X hX hw) ?_
  unfold stp
  rw [hl]
  exact k
end SPC
/-- a loop that counts up: what holds behind it holds at each turn -/
theorem loop_up {P : Nat → Prop} {n : Nat} (hend : P n) (hstep : ∀ k, k < n → P (k + 1) → P k) : ∀ k, k ≤ n → P k := by
  intro k hk
  obtain ⟨j, rfl⟩ := Nat.le.dest hk
  clear hk
  induction j generalizing k with
  | zero => exact hend
  | succ j ih =>
    refine hstep k (by omega) ?_
    exact ih (k := k + 1) (by rw [show k + 1 + j = k + (j + 1) by omega]; exact hend) (by rw [show k + 1 + j = k + (j + 1) by omega]; exact hstep)
/-! longs as images of whole numbers -/
def zl (a : Int) : Int64 := Int64.ofInt a
theorem zl_toInt {a : Int} (h1 : -9223372036854775808 ≤ a) (h2 : a ≤ 9223372036854775807) : (zl a).toInt = a := by
  unfold zl
  rw [Int64.toInt_ofInt]
  have e : (Int64.size : Nat) = 18446744073709551616 := rfl
  rw [e]
  exact Int.bmod_eq_of_le (by omega) (by omega)
theorem zl_add (a b : Int) : zl a + zl b = zl (a + b) := (Int64.ofInt_add a b).symm
theorem zl_mul (a b : Int) : zl a * zl b = zl (a * b) := (Int64.ofInt_mul a b).symm
theorem zl_sub (a b : Int) : zl a - zl b = zl (a - b) := (Int64.ofInt_sub a b).symm
theorem z_l {a : Int} (h1 : -2147483648 ≤ a) (h2 : a ≤ 2147483647) : (z a).toInt64 = zl a := by
  refine Int32.toInt64_ofInt ?_ ?_
  · exact h1
  · exact h2
theorem zl_i (a : Int) : (zl a).toInt32 = z a := Int64.toInt32_ofInt
theorem lN_zl (n : Nat) : lN n = zl (n : Int) := by
  unfold lN zl
  first | exact Int64.ofInt_eq_ofNat.symm | rfl
theorem zl_eq {a b : Int} (h1 : -9223372036854775808 ≤ a) (h2 : a ≤ 9223372036854775807) (h3 : -9223372036854775808 ≤ b) (h4 : b ≤ 9223372036854775807) : zl a = zl b ↔ a = b := by
  constructor
  · intro h
    have h5 := congrArg Int64.toInt h
    rw [zl_toInt h1 h2, zl_toInt h3 h4] at h5
    exact h5
  · intro h; rw [h]
theorem zl_div {a b : Int} (h1 : 0 ≤ a) (h2 : a ≤ 9223372036854775807) (h3 : 0 < b) (h4 : b ≤ 9223372036854775807) : zl a / zl b = zl (a / b) := by
  apply Int64.toInt_inj.mp
  have h5 : 0 ≤ a / b := Int.ediv_nonneg h1 (by omega)
  have h6 : a / b ≤ a := Int.ediv_le_self _ h1
  rw [Int64.toInt_div, zl_toInt (by omega) h2, zl_toInt (by omega) h4, zl_toInt (by omega) (by omega), Int.tdiv_eq_ediv_of_nonneg h1]
  exact Int.bmod_eq_of_le (by omega) (by omega)
theorem zl_0 : (0 : Int64) = zl 0 := rfl
theorem lcst (x : Nat) : (Value.long (lN x)) = .long (zl (x : Int)) := by rw [lN_zl]
theorem vpu_none (rest : List Value) : vpu none rest = rest := rfl
theorem vpu_some (v : Value) (rest : List Value) : vpu (some v) rest = v :: rest := rfl
/-- the first n elements of f, the others of g -/
def cp (n : Nat) (f g : Nat → Int) : Nat → Int := fun j => if j < n then f j else g j
theorem cpy_z (f g : Nat → Int) (n : Nat) : va_cpy (fun k => z (f k)) (fun k => z (g k)) 0 0 n = fun k => z (cp n f g k) := by
  funext k
  unfold va_cpy cp
  by_cases h : k < n
  · rw [if_pos ⟨Nat.zero_le _, by omega⟩, if_pos h]
    simp
  · rw [if_neg (by omega), if_neg h]
theorem cp_0 (f g : Nat → Int) : cp 0 f g = g := by
  funext j
  unfold cp
  rw [if_neg (by omega)]
theorem wkl_nil : wkl [] [] := fun _ _ h => h
theorem wkl_c {o : Option Value} {L' L : LV} (h : wkl L' L) : wkl (o :: L') (o :: L) := by
  intro i v hv
  cases i with
  | zero => exact hv
  | succ i => exact h i v hv
theorem wkl_n {o : Option Value} {L' L : LV} (h : wkl L' L) : wkl (none :: L') (o :: L) := by
  intro i v hv
  cases i with
  | zero => cases hv
  | succ i => exact h i v hv
section SPD
variable {E : EX} {mcs : Nat → Nat × Nat} {call : CT} {d : Nat} {r : MI} {Q : QT} {pc n y q : Nat} {L L' : LV} {S rest : List Value} {h h' : AH} {sz nc ns : Nat} {b : Bool}
theorem R_heap (e : h' = h) (k : Rr E mcs call d r Q pc L S h sz nc ns) : Rr E mcs call d r Q pc L S h' sz nc ns := by rw [e]; exact k
theorem R_hl (e : h' = h) (e2 : L' = L) (k : Rr E mcs call d r Q pc L S h sz nc ns) : Rr E mcs call d r Q pc L' S h' sz nc ns := by rw [e, e2]; exact k
theorem R_cpI {a a' m0 m1 : Nat} {f g : Nat → Int32} {sp dp nn : Int} (hl : lkp pc (mI r) = some (b, .invokestatic q, n, 1000, y)) (ha : h a = some (.inl (0, m0, .inl f))) (hb : h a' = some (.inl (0, m1, .inl g))) (hs : 0 ≤ sp ∧ 0 ≤ dp ∧ 0 ≤ nn ∧ sp + nn ≤ m0 ∧ dp + nn ≤ m1 ∧ sp ≤ 10000 ∧ dp ≤ 10000 ∧ nn ≤ 10000) (hc : catS rest ≤ 8) (hd : 1 ≤ d) (k : Rr E mcs call d r Q n L rest (hup h a' (.inl (0, m1, .inl (va_cpy f g sp.toNat dp.toNat nn.toNat)))) sz nc ns) : Rr E mcs call d r Q pc L (.int (z nn) :: .int (z dp) :: .ref a' :: .int (z sp) :: .ref a :: rest) h sz nc ns := by
  refine R_intro ?_
  unfold stp
  rw [hl]
  dsimp only
  rw [sI_invokestatic, if_pos rfl]
  dsimp only
  rw [ha]
  dsimp only
  rw [hb]
  dsimp only
  rw [zero_z, z_lt (by omega) (by omega) (by omega) (by omega), z_lt (by omega) (by omega) (by omega) (by omega), z_lt (by omega) (by omega) (by omega) (by omega), z_nat (by omega) (by omega), z_nat (by omega) (by omega), z_nat (by omega) (by omega)]
  exact ⟨rfl, rfl, by omega, by omega, by omega, by omega, by omega, hc, hd, k⟩
end SPD
