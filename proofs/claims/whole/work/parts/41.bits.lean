theorem va_rfs (a : Nat) : va_rf (some a) = .ref a := rfl
/-! ===== Integer.bitCount ===== -/
def pct (m : Nat) : Nat → Nat
  | 0 => 0
  | k + 1 => pct m k + (if m.testBit k = true then 1 else 0)
def sq1 (x : Nat) : Nat := x - (x / 2 &&& 1431655765)
def sq2 (x : Nat) : Nat := (x &&& 858993459) + (x / 4 &&& 858993459)
def sq3 (x : Nat) : Nat := (x + x / 16) &&& 252645135
def allN (f : Nat → Bool) : Nat → Bool
  | 0 => true
  | n + 1 => f n && allN f n
theorem allN_s {f : Nat → Bool} {n : Nat} (h : allN f n = true) : ∀ k, k < n → f k = true := by
  induction n with
  | zero => intro k hk; exact absurd hk (Nat.not_lt_zero k)
  | succ n ih =>
    intro k hk
    have h2 := Bool.and_eq_true_iff.mp h
    by_cases hn : k = n
    · subst hn; exact h2.1
    · exact ih h2.2 k (by omega)
def pc16 (a : Nat) : Nat := a % 2 + a / 2 % 2 + a / 4 % 2 + a / 8 % 2 + a / 16 % 2 + a / 32 % 2 + a / 64 % 2 + a / 128 % 2 + a / 256 % 2 + a / 512 % 2 + a / 1024 % 2 + a / 2048 % 2 + a / 4096 % 2 + a / 8192 % 2 + a / 16384 % 2 + a / 32768 % 2
def sqOK (a : Nat) : Bool := Nat.ble (sq2 (sq1 a)) 20479 && Nat.ble (sq2 (sq1 a) % 16) 4 && Nat.ble (sq3 (sq2 (sq1 a)) % 256) 8 && Nat.ble (sq3 (sq2 (sq1 a)) / 256) 8 && Nat.beq (sq3 (sq2 (sq1 a)) % 256 + sq3 (sq2 (sq1 a)) / 256) (pc16 a)
theorem sq_all : allN (fun u => allN (fun v => sqOK (256 * u + v)) 256) 256 = true := by decide +kernel
theorem sq_a {a : Nat} (ha : a < 65536) : sq2 (sq1 a) < 20480 ∧ sq2 (sq1 a) % 16 ≤ 4 ∧ sq3 (sq2 (sq1 a)) % 256 ≤ 8 ∧ sq3 (sq2 (sq1 a)) / 256 ≤ 8 ∧ sq3 (sq2 (sq1 a)) % 256 + sq3 (sq2 (sq1 a)) / 256 = pc16 a := by
  have h1 := allN_s (allN_s sq_all (a / 256) (by omega)) (a % 256) (by omega)
  rw [show 256 * (a / 256) + a % 256 = a by omega] at h1
  unfold sqOK at h1
  simp only [Bool.and_eq_true, Nat.ble_eq, Nat.beq_eq] at h1
  obtain ⟨⟨⟨⟨h2, h3⟩, h4⟩, h5⟩, h6⟩ := h1
  exact ⟨by omega, h3, h4, h5, h6⟩
theorem andk {k a b m q : Nat} (ha : a < 2 ^ k) (hm : m < 2 ^ k) : (2 ^ k * b + a) &&& (2 ^ k * q + m) = 2 ^ k * (b &&& q) + (a &&& m) := by
  apply Nat.eq_of_testBit_eq
  intro i
  have hx : a &&& m < 2 ^ k := Nat.lt_of_le_of_lt Nat.and_le_left ha
  rw [Nat.testBit_and, Nat.testBit_two_pow_mul_add _ ha, Nat.testBit_two_pow_mul_add _ hm, Nat.testBit_two_pow_mul_add _ hx]
  split
  · rw [Nat.testBit_and]
  · rw [Nat.testBit_and]
theorem and16 {a b m q : Nat} (ha : a < 65536) (hm : m < 65536) : (a + 65536 * b) &&& (m + 65536 * q) = (a &&& m) + 65536 * (b &&& q) := by
  have h := andk (k := 16) (a := a) (b := b) (m := m) (q := q) ha hm
  rw [show a + 65536 * b = 2 ^ 16 * b + a by omega, show m + 65536 * q = 2 ^ 16 * q + m by omega, h]
  omega
theorem andl {k a b m : Nat} (ha : a < 2 ^ k) (hm : m < 2 ^ k) : (2 ^ k * b + a) &&& m = a &&& m := by
  have h := andk (k := k) (a := a) (b := b) (m := m) (q := 0) ha hm
  rw [Nat.mul_zero, Nat.zero_add, Nat.and_zero, Nat.mul_zero, Nat.zero_add] at h
  exact h
theorem and_le' (a m : Nat) : a &&& m ≤ a := Nat.and_le_left
theorem sq1_s {a b : Nat} (ha : a < 65536) (hb : b < 65536) : sq1 (a + 65536 * b) = sq1 a + 65536 * sq1 b ∧ sq1 a < 65536 := by
  unfold sq1
  have e1 : (a + 65536 * b) / 2 = (2 ^ 15 * (b % 2) + a / 2) + 65536 * (b / 2) := by omega
  have e2 : (1431655765 : Nat) = 21845 + 65536 * 21845 := rfl
  have k1 : (a / 2) &&& 1431655765 = (a / 2) &&& 21845 := by
    rw [e2]
    have := and16 (a := a / 2) (b := 0) (m := 21845) (q := 21845) (by omega) (by decide)
    rw [Nat.mul_zero, Nat.add_zero, Nat.zero_and, Nat.mul_zero, Nat.add_zero] at this
    exact this
  have k2 : (b / 2) &&& 1431655765 = (b / 2) &&& 21845 := by
    rw [e2]
    have := and16 (a := b / 2) (b := 0) (m := 21845) (q := 21845) (by omega) (by decide)
    rw [Nat.mul_zero, Nat.add_zero, Nat.zero_and, Nat.mul_zero, Nat.add_zero] at this
    exact this
  have l1 := and_le' (a / 2) 21845
  have l2 := and_le' (b / 2) 21845
  have k3 : (a + 65536 * b) / 2 &&& 1431655765 = (a / 2 &&& 21845) + 65536 * (b / 2 &&& 21845) := by
    rw [e1, e2, and16 (by omega) (by decide), andl (by omega) (by decide)]
  rw [k1, k2, k3]
  generalize a / 2 &&& 21845 = A at *
  generalize b / 2 &&& 21845 = B at *
  omega
theorem sq2_s {a b : Nat} (ha : a < 65536) (hb : b < 65536) : sq2 (a + 65536 * b) = sq2 a + 65536 * sq2 b ∧ sq2 a < 65536 := by
  unfold sq2
  have e1 : (a + 65536 * b) / 4 = (2 ^ 14 * (b % 4) + a / 4) + 65536 * (b / 4) := by omega
  have e2 : (858993459 : Nat) = 13107 + 65536 * 13107 := rfl
  have kk : ∀ x, x < 65536 → x &&& 858993459 = x &&& 13107 := by
    intro x hx
    rw [e2]
    have := and16 (a := x) (b := 0) (m := 13107) (q := 13107) hx (by decide)
    rw [Nat.mul_zero, Nat.add_zero, Nat.zero_and, Nat.mul_zero, Nat.add_zero] at this
    exact this
  have k3 : (a + 65536 * b) / 4 &&& 858993459 = (a / 4 &&& 13107) + 65536 * (b / 4 &&& 13107) := by
    rw [e1, e2, and16 (by omega) (by decide), andl (by omega) (by decide)]
  have k4 : (a + 65536 * b) &&& 858993459 = (a &&& 13107) + 65536 * (b &&& 13107) := by
    rw [e2, and16 (by omega) (by decide)]
  have l1 : a / 4 &&& 13107 ≤ 13107 := Nat.and_le_right
  have l2 : a &&& 13107 ≤ 13107 := Nat.and_le_right
  rw [kk a ha, kk b hb, kk (a / 4) (by omega), kk (b / 4) (by omega), k3, k4]
  generalize a / 4 &&& 13107 = A at *
  generalize b / 4 &&& 13107 = B at *
  generalize a &&& 13107 = C at *
  generalize b &&& 13107 = D at *
  omega
theorem sq3_s {a b : Nat} (ha : a < 20480) (hb : b < 20480) (hb2 : b % 16 ≤ 4) : sq3 (a + 65536 * b) = sq3 a + 65536 * sq3 b ∧ sq3 a < 65536 := by
  unfold sq3
  have e2 : (252645135 : Nat) = 3855 + 65536 * 3855 := rfl
  have e1 : a + 65536 * b + (a + 65536 * b) / 16 = (2 ^ 12 * ((a + a / 16) / 4096 + b % 16) + (a + a / 16) % 4096) + 65536 * (b + b / 16) := by omega
  have kk : ∀ x, x < 65536 → x &&& 252645135 = x &&& 3855 := by
    intro x hx
    rw [e2]
    have := and16 (a := x) (b := 0) (m := 3855) (q := 3855) hx (by decide)
    rw [Nat.mul_zero, Nat.add_zero, Nat.zero_and, Nat.mul_zero, Nat.add_zero] at this
    exact this
  have k5 : (a + a / 16) &&& 3855 = (a + a / 16) % 4096 &&& 3855 := by
    have h := andl (k := 12) (a := (a + a / 16) % 4096) (b := (a + a / 16) / 4096) (m := 3855) (by omega) (by decide)
    rw [← h]
    congr 1
    omega
  have k3 : a + 65536 * b + (a + 65536 * b) / 16 &&& 252645135 = ((a + a / 16) % 4096 &&& 3855) + 65536 * (b + b / 16 &&& 3855) := by
    rw [e1, e2, and16 (by omega) (by decide), andl (by omega) (by decide)]
  have l1 : (a + a / 16) % 4096 &&& 3855 ≤ 3855 := Nat.and_le_right
  rw [k3, kk (a + a / 16) (by omega), kk (b + b / 16) (by omega), k5]
  exact ⟨rfl, by omega⟩
theorem pc_16 (a : Nat) : pct a 16 = pc16 a := by
  have hb : ∀ k, (if a.testBit k = true then 1 else 0) = a / 2 ^ k % 2 := by
    intro k
    rw [Nat.testBit_eq_decide_div_mod_eq]
    rcases Nat.mod_two_eq_zero_or_one (a / 2 ^ k) with h | h
    · rw [h]; rfl
    · rw [h]; rfl
  unfold pc16
  simp only [pct, hb, Nat.zero_add, Nat.reducePow, Nat.div_one]
theorem pct_hi {a b : Nat} (ha : a < 65536) : ∀ k, pct (a + 65536 * b) (16 + k) = pct a 16 + pct b k := by
  intro k
  have ht : ∀ i, (a + 65536 * b).testBit i = if i < 16 then a.testBit i else b.testBit (i - 16) := by
    intro i
    rw [show a + 65536 * b = 2 ^ 16 * b + a by omega, Nat.testBit_two_pow_mul_add _ ha]
  induction k with
  | zero =>
    simp only [pct, Nat.add_zero, ht]
    rfl
  | succ k ih =>
    rw [show 16 + (k + 1) = (16 + k) + 1 by omega]
    have ht2 : (a + 65536 * b).testBit (16 + k) = b.testBit k := by rw [ht, if_neg (by omega), show 16 + k - 16 = k by omega]
    show pct (a + 65536 * b) (16 + k) + _ = pct a 16 + (pct b k + _)
    rw [ih, ht2, Nat.add_assoc]
def bcF (a : Int32) : Int32 :=
  let b := a - ((a.toUInt32 >>> ((z 1).toUInt32 &&& Int32.toUInt32 31)).toInt32 &&& nI 1431655765)
  let c := (b &&& nI 858993459) + ((b.toUInt32 >>> ((z 2).toUInt32 &&& Int32.toUInt32 31)).toInt32 &&& nI 858993459)
  let e := (c + (c.toUInt32 >>> ((z 4).toUInt32 &&& Int32.toUInt32 31)).toInt32) &&& nI 252645135
  let f := e + (e.toUInt32 >>> ((z 8).toUInt32 &&& Int32.toUInt32 31)).toInt32
  let g := f + (f.toUInt32 >>> ((z 16).toUInt32 &&& Int32.toUInt32 31)).toInt32
  g &&& z 63
theorem z_ush {m k : Nat} (hm : m < 4294967296) (hk : k < 32) : ((z (m : Int)).toUInt32 >>> ((z (k : Int)).toUInt32 &&& Int32.toUInt32 31)).toInt32 = z ((m / 2 ^ k : Nat) : Int) := by
  rw [← nI_z, ← nI_z, ← nI_z]
  exact pk_ushrN hm _ k ((by decide +kernel : ∀ k, k < 32 → (((nI k).toUInt32 &&& Int32.toUInt32 31).toBitVec % 32).toNat = k) k hk)
theorem bcF_z {m : Nat} (hm : m < 2 ^ 28) : bcF (z (m : Int)) = z ((pct m 32 : Nat) : Int) := by
  have hA : m % 65536 < 65536 := by omega
  have hB : m / 65536 < 65536 := by omega
  have em : m = m % 65536 + 65536 * (m / 65536) := by omega
  obtain ⟨p1, q1⟩ := sq1_s hA hB
  obtain ⟨-, q1'⟩ := sq1_s hB hA
  obtain ⟨p2, q2⟩ := sq2_s q1 q1'
  obtain ⟨a1, a2, a3, a4, a5⟩ := sq_a hA
  obtain ⟨b1, b2, b3, b4, b5⟩ := sq_a hB
  obtain ⟨p3, q3⟩ := sq3_s a1 b1 b2
  have hS : sq3 (sq2 (sq1 m)) = sq3 (sq2 (sq1 (m % 65536))) + 65536 * sq3 (sq2 (sq1 (m / 65536))) := by
    rw [← p3, ← p2, ← p1, ← em]
  have hP : pct m 32 = pc16 (m % 65536) + pc16 (m / 65536) := by
    have h := pct_hi (b := m / 65536) hA 16
    rw [← em] at h
    rw [show (32 : Nat) = 16 + 16 from rfl, h, pc_16, pc_16]
  have h1 : sq1 m ≤ m := Nat.sub_le _ _
  have l1 : m / 2 &&& 1431655765 ≤ m / 2 := Nat.and_le_left
  have h2 : sq2 (sq1 m) ≤ 1717986918 := by
    have x1 : sq1 m &&& 858993459 ≤ 858993459 := Nat.and_le_right
    have x2 : sq1 m / 4 &&& 858993459 ≤ 858993459 := Nat.and_le_right
    unfold sq2
    omega
  have e1 : z (m : Int) - z ((m / 2 ^ 1 &&& 1431655765 : Nat) : Int) = z ((sq1 m : Nat) : Int) := by
    rw [z_sub]
    congr 1
    unfold sq1
    rw [show (2 : Nat) ^ 1 = 2 from rfl]
    omega
  have f1 := z_ush (m := m) (k := 1) (by omega) (by decide)
  have f2 := z_ush (m := sq1 m) (k := 2) (by omega) (by decide)
  have f3 := z_ush (m := sq2 (sq1 m)) (k := 4) (by omega) (by decide)
  have f4 := z_ush (m := sq3 (sq2 (sq1 m))) (k := 8) (by omega) (by decide)
  have f5 := z_ush (m := sq3 (sq2 (sq1 m)) + sq3 (sq2 (sq1 m)) / 2 ^ 8) (k := 16) (by omega) (by decide)
  have c1 : ∀ n : Nat, nI n = z (n : Int) := nI_z
  unfold bcF
  dsimp only
  simp only [c1]
  rw [show z 1 = z ((1 : Nat) : Int) from rfl, show z 2 = z ((2 : Nat) : Int) from rfl, show z 4 = z ((4 : Nat) : Int) from rfl, show z 8 = z ((8 : Nat) : Int) from rfl, show z 16 = z ((16 : Nat) : Int) from rfl, show z 63 = z ((63 : Nat) : Int) from rfl]
  rw [f1, z_and, e1, f2, z_and, z_and, z_add]
  rw [show ((sq1 m &&& 858993459 : Nat) : Int) + ((sq1 m / 2 ^ 2 &&& 858993459 : Nat) : Int) = ((sq2 (sq1 m) : Nat) : Int) from by unfold sq2; rw [show (2 : Nat) ^ 2 = 4 from rfl]; omega]
  rw [f3, z_add, show ((sq2 (sq1 m) : Nat) : Int) + ((sq2 (sq1 m) / 2 ^ 4 : Nat) : Int) = ((sq2 (sq1 m) + sq2 (sq1 m) / 16 : Nat) : Int) from by rw [show (2 : Nat) ^ 4 = 16 from rfl]; omega, z_and]
  rw [show (sq2 (sq1 m) + sq2 (sq1 m) / 16 &&& 252645135) = sq3 (sq2 (sq1 m)) from rfl]
  rw [f4, z_add, show ((sq3 (sq2 (sq1 m)) : Nat) : Int) + ((sq3 (sq2 (sq1 m)) / 2 ^ 8 : Nat) : Int) = ((sq3 (sq2 (sq1 m)) + sq3 (sq2 (sq1 m)) / 2 ^ 8 : Nat) : Int) from by omega]
  rw [f5, z_add, show ((sq3 (sq2 (sq1 m)) + sq3 (sq2 (sq1 m)) / 2 ^ 8 : Nat) : Int) + (((sq3 (sq2 (sq1 m)) + sq3 (sq2 (sq1 m)) / 2 ^ 8) / 2 ^ 16 : Nat) : Int) = ((sq3 (sq2 (sq1 m)) + sq3 (sq2 (sq1 m)) / 2 ^ 8 + (sq3 (sq2 (sq1 m)) + sq3 (sq2 (sq1 m)) / 2 ^ 8) / 2 ^ 16 : Nat) : Int) from by omega, z_and]
  rw [show (63 : Nat) = 2 ^ 6 - 1 from rfl, Nat.and_two_pow_sub_one_eq_mod]
  congr 2
  rw [hS, hP]
  rw [← a5, ← b5]
  generalize sq3 (sq2 (sq1 (m % 65536))) = A at a3 a4 ⊢
  generalize sq3 (sq2 (sq1 (m / 65536))) = B at b3 b4 ⊢
  clear hS hP h1 l1 h2 e1 f1 f2 f3 f4 f5 c1 p1 p2 p3 q1 q2 q3 q1' em hA hB
  have hA' : A = A % 256 + 256 * (A / 256) := by omega
  have hB' : B = B % 256 + 256 * (B / 256) := by omega
  generalize A % 256 = a0 at *
  generalize A / 256 = a1 at *
  generalize B % 256 = b0 at *
  generalize B / 256 = b1 at *
  subst hA'
  subst hB'
  have x1 : (a0 + 256 * a1 + 65536 * (b0 + 256 * b1)) / 2 ^ 8 = a1 + 256 * b0 + 65536 * b1 := by omega
  rw [x1]
  have x2 : (a0 + 256 * a1 + 65536 * (b0 + 256 * b1) + (a1 + 256 * b0 + 65536 * b1)) / 2 ^ 16 = b0 + b1 + 256 * b1 := by omega
  rw [x2]
  omega
set_option maxRecDepth 16384 in
theorem sp_191 {E : EX} {d : Nat} {h : AH} {sz m : Nat} (hm : m < 2 ^ 28) : Sp E (d + 1) 191 [.int (z (m : Int))] h sz (rets (some (.int (z ((pct m 32 : Nat) : Int)))) h sz) := by
  rw [← bcF_z hm]
  generalize z (m : Int) = a
  refine ⟨mi_191, mt_191, Nat.le_of_ble_eq_true rfl, ?_⟩
  change Rr _ _ _ _ mi_191 _ 0 [some (.int a)] [] _ _ 0 0
  refine R_run 60 ?_
  simp only [run_s, run_0, isc, Bool.or_false, Bool.false_or, Bool.or_true, Bool.true_or, Bool.or_self, cond_false, cond_true, gl, sl, stl, stl2, c2, isw, nf, pf, lnb, tk, true_and, and_true, nsg0, nsg1, Int.cast_ofNat_Int, Int.natCast_zero, Int.natCast_one, zero_z, z_add, z_sub, z_mul, z_neg, cnd_eq, cnd_ne, cnd_lt, cnd_ge, cnd_gt, cnd_le, vok_0, vok_3r, vok_3n, vok_4, Nat.add_zero, Nat.zero_add, Nat.reduceAdd, Nat.reduceSub, Nat.reduceMod, Nat.reduceDiv, Nat.reduceEqDiff, Nat.reduceLeDiff, Nat.reduceMul, Int.reduceNeg, if_true, if_false, ite_true, ite_false, reduceIte, hup_app, Nat.add_left_cancel_iff, Nat.left_eq_add, Nat.add_eq_left, reduceCtorEq, subc_0, subc_1, subc_2, subc_3, subc_4, subc_5, subc_6, subc_7, subc_8, subc_9, subc_10, subc_11, subc_12, sube_2, sube_3, sube_5, sube_8, sube_9, sube_10, rets_ok, va_rfs, true_or, or_true, or_false, false_or, sI_bipush, sI_iadd, sI_iand, sI_iconst, sI_iload_n, sI_ireturn, sI_istore_n, sI_isub, sI_iushr, sI_ldc_w, ix_191_0, ix_191_1, ix_191_2, ix_191_3, ix_191_4, ix_191_7, ix_191_8, ix_191_9, ix_191_10, ix_191_11, ix_191_14, ix_191_15, ix_191_16, ix_191_17, ix_191_18, ix_191_21, ix_191_22, ix_191_23, ix_191_24, ix_191_25, ix_191_26, ix_191_27, ix_191_28, ix_191_29, ix_191_32, ix_191_33, ix_191_34, ix_191_35, ix_191_36, ix_191_38, ix_191_39, ix_191_40, ix_191_41, ix_191_42, ix_191_43, ix_191_45, ix_191_46, ix_191_47, ix_191_48, ix_191_49, ix_191_51, ix_191_52, mC_191, mS_191, mH_191]
  rfl
