/-! ===== bits ===== -/
theorem z_or (a b : Nat) : z (a : Int) ||| z (b : Int) = z ((a ||| b : Nat) : Int) := by
  rw [← nI_z, ← nI_z, ← nI_z]
  apply Int32.toBitVec_inj.mp
  rw [Int32.toBitVec_or]
  show BitVec.ofNat 32 a ||| BitVec.ofNat 32 b = BitVec.ofNat 32 (a ||| b)
  apply BitVec.eq_of_getLsbD_eq
  intro i hi
  simp [BitVec.getLsbD_or, BitVec.getLsbD_ofNat, hi, Nat.testBit_or]
theorem z_and (a b : Nat) : z (a : Int) &&& z (b : Int) = z ((a &&& b : Nat) : Int) := by
  rw [← nI_z, ← nI_z, ← nI_z]
  apply Int32.toBitVec_inj.mp
  rw [Int32.toBitVec_and]
  show BitVec.ofNat 32 a &&& BitVec.ofNat 32 b = BitVec.ofNat 32 (a &&& b)
  apply BitVec.eq_of_getLsbD_eq
  intro i hi
  simp [BitVec.getLsbD_and, BitVec.getLsbD_ofNat, hi, Nat.testBit_and]
theorem z_xor (a b : Nat) : z (a : Int) ^^^ z (b : Int) = z ((a ^^^ b : Nat) : Int) := by
  rw [← nI_z, ← nI_z, ← nI_z]
  apply Int32.toBitVec_inj.mp
  rw [Int32.toBitVec_xor]
  show BitVec.ofNat 32 a ^^^ BitVec.ofNat 32 b = BitVec.ofNat 32 (a ^^^ b)
  apply BitVec.eq_of_getLsbD_eq
  intro i hi
  simp [BitVec.getLsbD_xor, BitVec.getLsbD_ofNat, hi, Nat.testBit_xor]
theorem z_shl1' : ∀ t, t < 31 → nI 1 <<< (nI t &&& 31) = nI (2 ^ t) := by decide +kernel
theorem z_shl1 {t : Nat} (h : t < 31) : z 1 <<< (z (t : Int) &&& z 31) = z ((2 ^ t : Nat) : Int) := by
  rw [← nI_z, ← nI_z]
  exact z_shl1' t h
theorem z_lit0 : z 0 = z ((0 : Nat) : Int) := rfl
theorem z_lit1 : z 1 = z ((1 : Nat) : Int) := rfl
theorem mask_bit {m t : Nat} : (m &&& 2 ^ t = 0) ↔ m.testBit t = false := by
  constructor
  · intro h
    have h1 := congrArg (fun x => Nat.testBit x t) h
    simpa [Nat.testBit_and, Nat.testBit_two_pow_self] using h1
  · intro h
    apply Nat.eq_of_testBit_eq
    intro i
    rw [Nat.testBit_and, Nat.testBit_two_pow, Nat.zero_testBit]
    by_cases hi : t = i
    · subst hi; simp [h]
    · simp [hi]
theorem or_lt {a b : Nat} (k : Nat) (ha : a < 2 ^ k) (hb : b < 2 ^ k) : a ||| b < 2 ^ k := Nat.or_lt_two_pow ha hb
/-! ===== tiles: the lower and the higher number by the place in the set ===== -/
def wh (p : Nat) : Nat → Nat → Nat → Nat × Nat
  | 0, l, i => (i, l)
  | f + 1, l, i => if l ≤ p - i then (i, l) else wh p f (l - (p - i + 1)) (i + 1)
def lowN (p t : Nat) : Nat := (wh p 8 t 0).1
def highN (p t : Nat) : Nat := (wh p 8 t 0).1 + (wh p 8 t 0).2
def tri (p i : Nat) : Nat := i * (p + 1) - i * (i - 1) / 2
def szN (p : Nat) : Nat := (p + 1) * (p + 2) / 2
theorem tri_ok : ∀ p, p < 7 → ∀ i, i ≤ p → ∀ j, j ≤ p → i ≤ j → lowN p (tri p i + (j - i)) = i ∧ highN p (tri p i + (j - i)) = j ∧ tri p i + (j - i) < szN p := by decide +kernel
theorem tri_s : ∀ p, p < 7 → ∀ i, i ≤ p → tri p i + (p + 1 - i) = tri p (i + 1) := by decide +kernel
theorem tri_e : ∀ p, p < 7 → tri p (p + 1) = szN p ∧ szN p ≤ 28 := by decide +kernel
/-- the tiles below t that bear v -/
def bearT (p : Nat) : Nat → Nat → Nat
  | 0, _ => 0
  | t + 1, v => bearT p t v ||| (if lowN p t = v ∨ highN p t = v then 2 ^ t else 0)
/-- a house: its four cells; rows 0 low numbers, 1 high numbers, 2 bearers, 3 pips, players, tiles, draws, ruling, size -/
def HB (a : Nat) (W : GS) : Nat → va_E
  | 0 => .inr (6, [.int (z (W 3 0)), .int (z (W 3 1)), .int (z (W 3 2)), .int (z (W 3 3)), .int (z (W 3 4)), .int (z (W 3 5)), .ref (a + 1), .ref (a + 2), .ref (a + 3)])
  | 1 => .inl (0, 28, .inl fun k => z (W 0 k))
  | 2 => .inl (0, 28, .inl fun k => z (W 1 k))
  | _ => .inl (0, 7, .inl fun k => z (W 2 k))
def isH (h : AH) (a : Nat) (W : GS) : Prop := h a = some (HB a W 0) ∧ h (a + 1) = some (HB a W 1) ∧ h (a + 2) = some (HB a W 2) ∧ h (a + 3) = some (HB a W 3)
theorem isH_blk {h : AH} {b : Nat} {W : GS} : isH (blk h b 4 (HB b W)) b W := ⟨blk_at (k := 0) (by decide), blk_at (by decide), blk_at (by decide), blk_at (by decide)⟩
theorem isH_eq {h h' : AH} {b : Nat} {W : GS} (k : isH h' b W) (hout : ∀ q, q < b ∨ b + 4 ≤ q → h' q = h q) : h' = blk h b 4 (HB b W) := by
  obtain ⟨h0, h1, h2, h3⟩ := k
  refine blk_eq (fun k hk => ?_) hout
  match k, hk with
  | 0, _ => exact h0
  | 1, _ => exact h1
  | 2, _ => exact h2
  | 3, _ => exact h3
/-- its rows when t tiles are laid down -/
def hRow (p t : Nat) (sc : Nat → Int) : GS
  | 0 => cp t (fun k => (lowN p k : Int)) (fun _ => 0)
  | 1 => cp t (fun k => (highN p k : Int)) (fun _ => 0)
  | 2 => fun v => (bearT p t v : Int)
  | _ => sc
def hSc (p pl ti dr ru : Int) (sz : Nat) : Nat → Int
  | 0 => p
  | 1 => pl
  | 2 => ti
  | 3 => dr
  | 4 => ru
  | _ => sz
def hW (p : Nat) (pl ti dr ru : Int) : GS := hRow p (szN p) (hSc p pl ti dr ru (szN p))
def stN (f : Nat → Nat) (i v : Nat) : Nat → Nat := fun j => if j = i then v else f j
theorem upd_zn (f : Nat → Nat) (i v : Nat) : upd (fun k => z ((f k : Nat) : Int)) i (z ((v : Nat) : Int)) = fun k => z ((stN f i v k : Nat) : Int) := by
  funext k
  unfold upd stN
  by_cases h : k = i
  · simp [h]
  · simp [h]
theorem bear_s {p t i j : Nat} (hi : lowN p t = i) (hj : highN p t = j) : stN (stN (bearT p t) i (bearT p t i ||| 2 ^ t)) j (stN (bearT p t) i (bearT p t i ||| 2 ^ t) j ||| 2 ^ t) = bearT p (t + 1) := by
  funext v
  unfold stN
  show _ = bearT p t v ||| (if lowN p t = v ∨ highN p t = v then 2 ^ t else 0)
  rw [hi, hj]
  by_cases h1 : v = j
  · subst h1
    rw [if_pos rfl, if_pos (Or.inr rfl)]
    by_cases h2 : v = i
    · subst h2
      rw [if_pos rfl, Nat.or_assoc, Nat.or_self]
    · rw [if_neg h2]
  · rw [if_neg h1]
    by_cases h2 : v = i
    · subst h2
      rw [if_pos rfl, if_pos (Or.inl rfl)]
    · rw [if_neg h2, if_neg (fun q => q.elim (fun q => h2 q.symm) (fun q => h1 q.symm)), Nat.or_zero]
section HOUSE
variable {E : EX} {d : Nat} {h : AH} {sz b : Nat} {W : GS}
set_option maxRecDepth 16384 in
theorem sp_47 {p : Nat} (hp : p < 7) : Sp E (d + 1) 47 [.int (z (p : Int))] h sz (rets (some (.int (z ((szN p : Nat) : Int)))) h sz) := by
  refine ⟨mi_47, mt_47, Nat.le_of_ble_eq_true rfl, ?_⟩
  change Rr _ _ _ _ mi_47 _ 0 [some (.int (z (p : Int)))] [] _ _ 0 0
  refine R_run 60 ?_
  simp only [run_s, run_0, isc, Bool.or_false, Bool.false_or, Bool.or_true, Bool.true_or, Bool.or_self, cond_false, cond_true, gl, sl, stl, stl2, c2, isw, nf, pf, lnb, tk, true_and, and_true, nsg0, nsg1, Int.cast_ofNat_Int, Int.natCast_zero, Int.natCast_one, zero_z, z_add, z_sub, z_mul, z_neg, cnd_eq, cnd_ne, cnd_lt, cnd_ge, cnd_gt, cnd_le, vok_0, vok_3r, vok_3n, vok_4, Nat.add_zero, Nat.zero_add, Nat.reduceAdd, Nat.reduceSub, Nat.reduceMod, Nat.reduceDiv, Nat.reduceEqDiff, Nat.reduceLeDiff, Nat.reduceMul, Int.reduceNeg, if_true, if_false, ite_true, ite_false, reduceIte, hup_app, Nat.add_left_cancel_iff, Nat.left_eq_add, Nat.add_eq_left, reduceCtorEq, subc_0, subc_1, subc_2, subc_3, subc_4, subc_5, subc_6, subc_7, subc_8, subc_9, subc_10, subc_11, subc_12, sube_2, sube_3, sube_5, sube_8, sube_9, sube_10, rets_ok, sI_iadd, sI_iconst, sI_idiv, sI_iload_n, sI_imul, sI_ireturn, ix_47_0, ix_47_1, ix_47_2, ix_47_3, ix_47_4, ix_47_5, ix_47_6, ix_47_7, ix_47_8, ix_47_9, mC_47, mS_47, mH_47]
  match p, hp with
  | 0, _ => exact ⟨by decide, rfl⟩
  | 1, _ => exact ⟨by decide, rfl⟩
  | 2, _ => exact ⟨by decide, rfl⟩
  | 3, _ => exact ⟨by decide, rfl⟩
  | 4, _ => exact ⟨by decide, rfl⟩
  | 5, _ => exact ⟨by decide, rfl⟩
  | 6, _ => exact ⟨by decide, rfl⟩
set_option maxRecDepth 16384 in
theorem sp_48 {k : Int} (hH : isH h b W) (k1 : 0 ≤ k) (k2 : k < 28) : Sp E (d + 1) 48 [.ref b, .int (z k)] h sz (rets (some (.int (z (W 0 k.toNat)))) h sz) := by
  obtain ⟨h0, h1, h2, h3⟩ := hH
  refine ⟨mi_48, mt_48, Nat.le_of_ble_eq_true rfl, ?_⟩
  change Rr _ _ _ _ mi_48 _ 0 [some (.ref b), some (.int (z k))] [] _ _ 0 0
  refine R_run 60 ?_
  simp only [run_s, run_0, isc, Bool.or_false, Bool.false_or, Bool.or_true, Bool.true_or, Bool.or_self, cond_false, cond_true, gl, sl, stl, stl2, c2, isw, nf, pf, lnb, tk, true_and, and_true, nsg0, nsg1, Int.cast_ofNat_Int, Int.natCast_zero, Int.natCast_one, zero_z, z_add, z_sub, z_mul, z_neg, cnd_eq, cnd_ne, cnd_lt, cnd_ge, cnd_gt, cnd_le, vok_0, vok_3r, vok_3n, vok_4, Nat.add_zero, Nat.zero_add, Nat.reduceAdd, Nat.reduceSub, Nat.reduceMod, Nat.reduceDiv, Nat.reduceEqDiff, Nat.reduceLeDiff, Nat.reduceMul, Int.reduceNeg, if_true, if_false, ite_true, ite_false, reduceIte, hup_app, Nat.add_left_cancel_iff, Nat.left_eq_add, Nat.add_eq_left, reduceCtorEq, subc_0, subc_1, subc_2, subc_3, subc_4, subc_5, subc_6, subc_7, subc_8, subc_9, subc_10, subc_11, subc_12, sube_2, sube_3, sube_5, sube_8, sube_9, sube_10, rets_ok, sI_aload_n, sI_bipush, sI_getfield, sI_goto, sI_iaload, sI_iconst, sI_ifCond, sI_if_icmp, sI_iload_n, sI_ireturn, ix_48_0, ix_48_1, ix_48_4, ix_48_5, ix_48_7, ix_48_10, ix_48_11, ix_48_14, ix_48_15, ix_48_16, ix_48_19, ix_48_20, mC_48, mS_48, mH_48, h0, h1, HB]
  simp (disch := omega) only [z_lt, z_le, z_eq, z_in, z_nat, Int.toNat_natCast, upd_z, z_l, zl_0, zl_add, zl_sub, zl_mul, zl_i, zl_eq, zl_div, Int.reduceLT, Int.reduceLE, Int.reduceToNat, Nat.reduceAdd, Nat.reduceLeDiff, not_false_eq_true, true_and, and_true]
  exact ⟨fun q => absurd q (by omega), fun _ => ⟨fun q => absurd q (by omega), fun _ => ⟨k1, by omega⟩⟩⟩
set_option maxRecDepth 16384 in
theorem sp_49 {k : Int} (hH : isH h b W) (k1 : 0 ≤ k) (k2 : k < 28) : Sp E (d + 1) 49 [.ref b, .int (z k)] h sz (rets (some (.int (z (W 1 k.toNat)))) h sz) := by
  obtain ⟨h0, h1, h2, h3⟩ := hH
  refine ⟨mi_49, mt_49, Nat.le_of_ble_eq_true rfl, ?_⟩
  change Rr _ _ _ _ mi_49 _ 0 [some (.ref b), some (.int (z k))] [] _ _ 0 0
  refine R_run 60 ?_
  simp only [run_s, run_0, isc, Bool.or_false, Bool.false_or, Bool.or_true, Bool.true_or, Bool.or_self, cond_false, cond_true, gl, sl, stl, stl2, c2, isw, nf, pf, lnb, tk, true_and, and_true, nsg0, nsg1, Int.cast_ofNat_Int, Int.natCast_zero, Int.natCast_one, zero_z, z_add, z_sub, z_mul, z_neg, cnd_eq, cnd_ne, cnd_lt, cnd_ge, cnd_gt, cnd_le, vok_0, vok_3r, vok_3n, vok_4, Nat.add_zero, Nat.zero_add, Nat.reduceAdd, Nat.reduceSub, Nat.reduceMod, Nat.reduceDiv, Nat.reduceEqDiff, Nat.reduceLeDiff, Nat.reduceMul, Int.reduceNeg, if_true, if_false, ite_true, ite_false, reduceIte, hup_app, Nat.add_left_cancel_iff, Nat.left_eq_add, Nat.add_eq_left, reduceCtorEq, subc_0, subc_1, subc_2, subc_3, subc_4, subc_5, subc_6, subc_7, subc_8, subc_9, subc_10, subc_11, subc_12, sube_2, sube_3, sube_5, sube_8, sube_9, sube_10, rets_ok, sI_aload_n, sI_bipush, sI_getfield, sI_goto, sI_iaload, sI_iconst, sI_ifCond, sI_if_icmp, sI_iload_n, sI_ireturn, ix_49_0, ix_49_1, ix_49_4, ix_49_5, ix_49_7, ix_49_10, ix_49_11, ix_49_14, ix_49_15, ix_49_16, ix_49_19, ix_49_20, mC_49, mS_49, mH_49, h0, h2, HB]
  simp (disch := omega) only [z_lt, z_le, z_eq, z_in, z_nat, Int.toNat_natCast, upd_z, z_l, zl_0, zl_add, zl_sub, zl_mul, zl_i, zl_eq, zl_div, Int.reduceLT, Int.reduceLE, Int.reduceToNat, Nat.reduceAdd, Nat.reduceLeDiff, not_false_eq_true, true_and, and_true]
  exact ⟨fun q => absurd q (by omega), fun _ => ⟨fun q => absurd q (by omega), fun _ => ⟨k1, by omega⟩⟩⟩
set_option maxRecDepth 16384 in
theorem sp_50 {k : Int} (hH : isH h b W) (k1 : 0 ≤ k) (k2 : k ≤ 6) : Sp E (d + 1) 50 [.ref b, .int (z k)] h sz (rets (some (.int (z (W 2 k.toNat)))) h sz) := by
  obtain ⟨h0, h1, h2, h3⟩ := hH
  refine ⟨mi_50, mt_50, Nat.le_of_ble_eq_true rfl, ?_⟩
  change Rr _ _ _ _ mi_50 _ 0 [some (.ref b), some (.int (z k))] [] _ _ 0 0
  refine R_run 60 ?_
  simp only [run_s, run_0, isc, Bool.or_false, Bool.false_or, Bool.or_true, Bool.true_or, Bool.or_self, cond_false, cond_true, gl, sl, stl, stl2, c2, isw, nf, pf, lnb, tk, true_and, and_true, nsg0, nsg1, Int.cast_ofNat_Int, Int.natCast_zero, Int.natCast_one, zero_z, z_add, z_sub, z_mul, z_neg, cnd_eq, cnd_ne, cnd_lt, cnd_ge, cnd_gt, cnd_le, vok_0, vok_3r, vok_3n, vok_4, Nat.add_zero, Nat.zero_add, Nat.reduceAdd, Nat.reduceSub, Nat.reduceMod, Nat.reduceDiv, Nat.reduceEqDiff, Nat.reduceLeDiff, Nat.reduceMul, Int.reduceNeg, if_true, if_false, ite_true, ite_false, reduceIte, hup_app, Nat.add_left_cancel_iff, Nat.left_eq_add, Nat.add_eq_left, reduceCtorEq, subc_0, subc_1, subc_2, subc_3, subc_4, subc_5, subc_6, subc_7, subc_8, subc_9, subc_10, subc_11, subc_12, sube_2, sube_3, sube_5, sube_8, sube_9, sube_10, rets_ok, sI_aload_n, sI_bipush, sI_getfield, sI_goto, sI_iaload, sI_iconst, sI_ifCond, sI_if_icmp, sI_iload_n, sI_ireturn, ix_50_0, ix_50_1, ix_50_4, ix_50_5, ix_50_7, ix_50_10, ix_50_11, ix_50_14, ix_50_15, ix_50_16, ix_50_19, ix_50_20, mC_50, mS_50, mH_50, h0, h3, HB]
  simp (disch := omega) only [z_lt, z_le, z_eq, z_in, z_nat, Int.toNat_natCast, upd_z, z_l, zl_0, zl_add, zl_sub, zl_mul, zl_i, zl_eq, zl_div, Int.reduceLT, Int.reduceLE, Int.reduceToNat, Nat.reduceAdd, Nat.reduceLeDiff, not_false_eq_true, true_and, and_true]
  exact ⟨fun q => absurd q (by omega), fun _ => ⟨fun q => absurd q (by omega), fun _ => ⟨k1, by omega⟩⟩⟩
/- the pips on the tiles of a hand -/
def pipN (W : GS) (m : Nat) : Nat → Int := sumTo (fun t => if m.testBit t = true then W 0 t + W 1 t else 0)
theorem pipN_s (W : GS) (m k : Nat) : pipN W m (k + 1) = pipN W m k + if m.testBit k = true then W 0 k + W 1 k else 0 := rfl
theorem z_31 : (31 : Int32) = z 31 := rfl
set_option maxRecDepth 16384 in
theorem sp_51 {n m : Nat} (hH : isH h b W) (hn : W 3 5 = n) (hn2 : n ≤ 28) : Sp E (d + 1) 51 [.ref b, .int (z (m : Int))] h sz (rets (some (.int (z (pipN W m n)))) h sz) := by
  obtain ⟨h0, h1, h2, h3⟩ := hH
  refine ⟨mi_51, mt_51, Nat.le_of_ble_eq_true rfl, ?_⟩
  change Rr _ _ _ _ mi_51 _ 0 [some (.ref b), some (.int (z (m : Int))), none, none] [] _ _ 0 0
  refine R_run 60 ?_
  simp only [run_s, run_0, isc, Bool.or_false, Bool.false_or, Bool.or_true, Bool.true_or, Bool.or_self, cond_false, cond_true, gl, sl, stl, stl2, c2, isw, nf, pf, lnb, tk, true_and, and_true, nsg0, nsg1, Int.cast_ofNat_Int, Int.natCast_zero, Int.natCast_one, zero_z, z_add, z_sub, z_mul, z_neg, cnd_eq, cnd_ne, cnd_lt, cnd_ge, cnd_gt, cnd_le, vok_0, vok_3r, vok_3n, vok_4, Nat.add_zero, Nat.zero_add, Nat.reduceAdd, Nat.reduceSub, Nat.reduceMod, Nat.reduceDiv, Nat.reduceEqDiff, Nat.reduceLeDiff, Nat.reduceMul, Int.reduceNeg, if_true, if_false, ite_true, ite_false, reduceIte, hup_app, Nat.add_left_cancel_iff, Nat.left_eq_add, Nat.add_eq_left, reduceCtorEq, subc_0, subc_1, subc_2, subc_3, subc_4, subc_5, subc_6, subc_7, subc_8, subc_9, subc_10, subc_11, subc_12, sube_2, sube_3, sube_5, sube_8, sube_9, sube_10, rets_ok, sI_aload_n, sI_bipush, sI_getfield, sI_goto, sI_iadd, sI_iaload, sI_iand, sI_iconst, sI_ifCond, sI_if_icmp, sI_iinc, sI_iload_n, sI_ireturn, sI_ishl, sI_istore_n, ix_51_0, ix_51_1, ix_51_2, ix_51_3, ix_51_4, ix_51_5, ix_51_6, ix_51_9, ix_51_12, ix_51_13, ix_51_15, ix_51_18, ix_51_19, ix_51_20, ix_51_21, ix_51_22, ix_51_23, ix_51_26, ix_51_27, ix_51_28, ix_51_31, ix_51_32, ix_51_33, ix_51_34, ix_51_37, ix_51_38, ix_51_39, ix_51_40, ix_51_41, ix_51_42, ix_51_45, ix_51_48, ix_51_49, mC_51, mS_51, mH_51, h0, h1, HB, hn]
  refine loop_up (P := fun k => Rr _ _ _ _ mi_51 _ 4 [some (.ref b), some (.int (z (m : Int))), some (.int (z (pipN W m k))), some (.int (z k))] [] h sz 0 0) (n := n) ?_ (fun k hk ih => ?_) 0 (Nat.zero_le _)
  · refine R_hd ix_51_4 60 ?_
    simp only [run_s, run_0, isc, Bool.or_false, Bool.false_or, Bool.or_true, Bool.true_or, Bool.or_self, cond_false, cond_true, gl, sl, stl, stl2, c2, isw, nf, pf, lnb, tk, true_and, and_true, nsg0, nsg1, Int.cast_ofNat_Int, Int.natCast_zero, Int.natCast_one, zero_z, z_add, z_sub, z_mul, z_neg, cnd_eq, cnd_ne, cnd_lt, cnd_ge, cnd_gt, cnd_le, vok_0, vok_3r, vok_3n, vok_4, Nat.add_zero, Nat.zero_add, Nat.reduceAdd, Nat.reduceSub, Nat.reduceMod, Nat.reduceDiv, Nat.reduceEqDiff, Nat.reduceLeDiff, Nat.reduceMul, Int.reduceNeg, if_true, if_false, ite_true, ite_false, reduceIte, hup_app, Nat.add_left_cancel_iff, Nat.left_eq_add, Nat.add_eq_left, reduceCtorEq, subc_0, subc_1, subc_2, subc_3, subc_4, subc_5, subc_6, subc_7, subc_8, subc_9, subc_10, subc_11, subc_12, sube_2, sube_3, sube_5, sube_8, sube_9, sube_10, rets_ok, sI_aload_n, sI_bipush, sI_getfield, sI_goto, sI_iadd, sI_iaload, sI_iand, sI_iconst, sI_ifCond, sI_if_icmp, sI_iinc, sI_iload_n, sI_ireturn, sI_ishl, sI_istore_n, ix_51_0, ix_51_1, ix_51_2, ix_51_3, ix_51_4, ix_51_5, ix_51_6, ix_51_9, ix_51_12, ix_51_13, ix_51_15, ix_51_18, ix_51_19, ix_51_20, ix_51_21, ix_51_22, ix_51_23, ix_51_26, ix_51_27, ix_51_28, ix_51_31, ix_51_32, ix_51_33, ix_51_34, ix_51_37, ix_51_38, ix_51_39, ix_51_40, ix_51_41, ix_51_42, ix_51_45, ix_51_48, ix_51_49, mC_51, mS_51, mH_51, h0, h1, h2, HB, hn]
    simp (disch := omega) only [z_lt, z_le, z_eq, z_in, z_nat, Int.toNat_natCast, upd_z, z_l, zl_0, zl_add, zl_sub, zl_mul, zl_i, zl_eq, zl_div, Int.reduceLT, Int.reduceLE, Int.reduceToNat, Nat.reduceAdd, Nat.reduceLeDiff, not_false_eq_true, true_and, and_true]
    exact ⟨fun _ => trivial, fun q => absurd (Int.le_refl _) q⟩
  · simp only [pipN_s, Int.natCast_add, Int.natCast_one] at ih
    refine R_hd ix_51_4 60 ?_
    simp only [run_s, run_0, isc, Bool.or_false, Bool.false_or, Bool.or_true, Bool.true_or, Bool.or_self, cond_false, cond_true, gl, sl, stl, stl2, c2, isw, nf, pf, lnb, tk, true_and, and_true, nsg0, nsg1, Int.cast_ofNat_Int, Int.natCast_zero, Int.natCast_one, zero_z, z_add, z_sub, z_mul, z_neg, cnd_eq, cnd_ne, cnd_lt, cnd_ge, cnd_gt, cnd_le, vok_0, vok_3r, vok_3n, vok_4, Nat.add_zero, Nat.zero_add, Nat.reduceAdd, Nat.reduceSub, Nat.reduceMod, Nat.reduceDiv, Nat.reduceEqDiff, Nat.reduceLeDiff, Nat.reduceMul, Int.reduceNeg, if_true, if_false, ite_true, ite_false, reduceIte, hup_app, Nat.add_left_cancel_iff, Nat.left_eq_add, Nat.add_eq_left, reduceCtorEq, subc_0, subc_1, subc_2, subc_3, subc_4, subc_5, subc_6, subc_7, subc_8, subc_9, subc_10, subc_11, subc_12, sube_2, sube_3, sube_5, sube_8, sube_9, sube_10, rets_ok, sI_aload_n, sI_bipush, sI_getfield, sI_goto, sI_iadd, sI_iaload, sI_iand, sI_iconst, sI_ifCond, sI_if_icmp, sI_iinc, sI_iload_n, sI_ireturn, sI_ishl, sI_istore_n, ix_51_0, ix_51_1, ix_51_2, ix_51_3, ix_51_4, ix_51_5, ix_51_6, ix_51_9, ix_51_12, ix_51_13, ix_51_15, ix_51_18, ix_51_19, ix_51_20, ix_51_21, ix_51_22, ix_51_23, ix_51_26, ix_51_27, ix_51_28, ix_51_31, ix_51_32, ix_51_33, ix_51_34, ix_51_37, ix_51_38, ix_51_39, ix_51_40, ix_51_41, ix_51_42, ix_51_45, ix_51_48, ix_51_49, mC_51, mS_51, mH_51, h0, h1, h2, HB, hn]
    rw [z_31, z_shl1 (by omega), z_and]
    have hm : z ((m &&& 2 ^ k : Nat) : Int) = z 0 ↔ m.testBit k = false := by
      rw [← mask_bit, z_lit0, ← nI_z, ← nI_z]
      have hle : m &&& 2 ^ k ≤ 2 ^ k := Nat.and_le_right
      have h28 : 2 ^ k ≤ 2 ^ 28 := Nat.pow_le_pow_right (by decide) (by omega)
      exact nI_eq (by omega) (by decide)
    rw [hm]
    simp (disch := omega) only [z_lt, z_le, z_eq, z_in, z_nat, Int.toNat_natCast, upd_z, z_l, zl_0, zl_add, zl_sub, zl_mul, zl_i, zl_eq, zl_div, Int.reduceLT, Int.reduceLE, Int.reduceToNat, Nat.reduceAdd, Nat.reduceLeDiff, not_false_eq_true, true_and, and_true]
    refine ⟨fun q => absurd q (by omega), fun _ => ⟨fun q => absurd q (by omega), fun _ => ⟨fun q => ?_, fun q => ⟨by omega, by omega, ?_⟩⟩⟩⟩
    · rw [q, if_neg (by decide), Int.add_zero] at ih
      exact ih
    · rw [if_pos (by simpa using q)] at ih
      exact ih
theorem bearT_lt (p : Nat) : ∀ t v, bearT p t v < 2 ^ t := by
  intro t
  induction t with
  | zero => intro v; exact Nat.one_pos
  | succ t ih =>
    intro v
    unfold bearT
    have h1 : 2 ^ t < 2 ^ (t + 1) := Nat.pow_lt_pow_right (by decide) (Nat.lt_succ_self t)
    refine or_lt (t + 1) (Nat.lt_trans (ih v) h1) ?_
    split
    · exact h1
    · exact Nat.pos_of_ne_zero (by simp)
set_option maxRecDepth 16384 in
theorem sp_46 {p : Nat} {pl ti dr ru : Int} (hp : p < 7) (hdr : dr = 0 ∨ dr = 1) (hru : 0 ≤ ru ∧ ru ≤ 65535) (h0 : h b = some (.inr (6, dfl 6))) : Sp E (d + 2) 46 [.ref b, .int (z (p : Int)), .int (z pl), .int (z ti), .int (z dr), .int (z ru)] h (b + 1) (rets none (blk h b 4 (HB b (hW p pl ti dr ru))) (b + 4)) := by
  refine ⟨mi_46, mt_46, Nat.le_of_ble_eq_true rfl, ?_⟩
  change Rr _ _ _ _ mi_46 _ 0 [some (.ref b), some (.int (z (p : Int))), some (.int (z pl)), some (.int (z ti)), some (.int (z dr)), some (.int (z ru)), none, none, none] [] _ _ 0 0
  refine R_run 60 ?_
  simp only [run_s, run_0, isc, Bool.or_false, Bool.false_or, Bool.or_true, Bool.true_or, Bool.or_self, cond_false, cond_true, gl, sl, stl, stl2, c2, isw, nf, pf, lnb, tk, true_and, and_true, nsg0, nsg1, Int.cast_ofNat_Int, Int.natCast_zero, Int.natCast_one, zero_z, z_add, z_sub, z_mul, z_neg, cnd_eq, cnd_ne, cnd_lt, cnd_ge, cnd_gt, cnd_le, vok_0, vok_3r, vok_3n, vok_4, Nat.add_zero, Nat.zero_add, Nat.reduceAdd, Nat.reduceSub, Nat.reduceMod, Nat.reduceDiv, Nat.reduceEqDiff, Nat.reduceLeDiff, Nat.reduceMul, Int.reduceNeg, if_true, if_false, ite_true, ite_false, reduceIte, hup_app, Nat.add_left_cancel_iff, Nat.left_eq_add, Nat.add_eq_left, reduceCtorEq, subc_0, subc_1, subc_2, subc_3, subc_4, subc_5, subc_6, subc_7, subc_8, subc_9, subc_10, subc_11, subc_12, sube_2, sube_3, sube_5, sube_8, sube_9, sube_10, rets_ok, sI_aload_n, sI_bipush, sI_dup2, sI_getfield, sI_goto, sI_iaload, sI_iastore, sI_iconst, sI_if_icmp, sI_iinc, sI_iload, sI_iload_n, sI_invokespecial, sI_invokestatic, sI_ior, sI_ishl, sI_istore, sI_newarray, sI_putfield, sI_return_, ix_46_0, ix_46_1, ix_46_4, ix_46_5, ix_46_6, ix_46_9, ix_46_10, ix_46_11, ix_46_14, ix_46_15, ix_46_16, ix_46_19, ix_46_20, ix_46_22, ix_46_25, ix_46_26, ix_46_28, ix_46_31, ix_46_32, ix_46_33, ix_46_36, ix_46_39, ix_46_40, ix_46_42, ix_46_44, ix_46_47, ix_46_48, ix_46_50, ix_46_52, ix_46_55, ix_46_56, ix_46_58, ix_46_60, ix_46_63, ix_46_64, ix_46_66, ix_46_67, ix_46_69, ix_46_71, ix_46_72, ix_46_75, ix_46_77, ix_46_79, ix_46_82, ix_46_84, ix_46_86, ix_46_88, ix_46_89, ix_46_92, ix_46_94, ix_46_96, ix_46_99, ix_46_101, ix_46_103, ix_46_106, ix_46_107, ix_46_110, ix_46_112, ix_46_114, ix_46_115, ix_46_116, ix_46_119, ix_46_121, ix_46_123, ix_46_124, ix_46_125, ix_46_128, ix_46_130, ix_46_131, ix_46_132, ix_46_133, ix_46_135, ix_46_136, ix_46_137, ix_46_138, ix_46_139, ix_46_142, ix_46_144, ix_46_145, ix_46_146, ix_46_147, ix_46_149, ix_46_150, ix_46_151, ix_46_152, ix_46_155, ix_46_158, ix_46_161, ix_46_164, ix_46_167, mC_46, mS_46, mH_46]
  refine R_obj ix_46_1 (Nat.le_of_ble_eq_true rfl) (by omega) ?_
  refine R_run 60 ?_
  simp only [run_s, run_0, isc, Bool.or_false, Bool.false_or, Bool.or_true, Bool.true_or, Bool.or_self, cond_false, cond_true, gl, sl, stl, stl2, c2, isw, nf, pf, lnb, tk, true_and, and_true, nsg0, nsg1, Int.cast_ofNat_Int, Int.natCast_zero, Int.natCast_one, zero_z, z_add, z_sub, z_mul, z_neg, cnd_eq, cnd_ne, cnd_lt, cnd_ge, cnd_gt, cnd_le, vok_0, vok_3r, vok_3n, vok_4, Nat.add_zero, Nat.zero_add, Nat.reduceAdd, Nat.reduceSub, Nat.reduceMod, Nat.reduceDiv, Nat.reduceEqDiff, Nat.reduceLeDiff, Nat.reduceMul, Int.reduceNeg, if_true, if_false, ite_true, ite_false, reduceIte, hup_app, Nat.add_left_cancel_iff, Nat.left_eq_add, Nat.add_eq_left, reduceCtorEq, subc_0, subc_1, subc_2, subc_3, subc_4, subc_5, subc_6, subc_7, subc_8, subc_9, subc_10, subc_11, subc_12, sube_2, sube_3, sube_5, sube_8, sube_9, sube_10, rets_ok, sI_aload_n, sI_bipush, sI_dup2, sI_getfield, sI_goto, sI_iaload, sI_iastore, sI_iconst, sI_if_icmp, sI_iinc, sI_iload, sI_iload_n, sI_invokespecial, sI_invokestatic, sI_ior, sI_ishl, sI_istore, sI_newarray, sI_putfield, sI_return_, ix_46_0, ix_46_1, ix_46_4, ix_46_5, ix_46_6, ix_46_9, ix_46_10, ix_46_11, ix_46_14, ix_46_15, ix_46_16, ix_46_19, ix_46_20, ix_46_22, ix_46_25, ix_46_26, ix_46_28, ix_46_31, ix_46_32, ix_46_33, ix_46_36, ix_46_39, ix_46_40, ix_46_42, ix_46_44, ix_46_47, ix_46_48, ix_46_50, ix_46_52, ix_46_55, ix_46_56, ix_46_58, ix_46_60, ix_46_63, ix_46_64, ix_46_66, ix_46_67, ix_46_69, ix_46_71, ix_46_72, ix_46_75, ix_46_77, ix_46_79, ix_46_82, ix_46_84, ix_46_86, ix_46_88, ix_46_89, ix_46_92, ix_46_94, ix_46_96, ix_46_99, ix_46_101, ix_46_103, ix_46_106, ix_46_107, ix_46_110, ix_46_112, ix_46_114, ix_46_115, ix_46_116, ix_46_119, ix_46_121, ix_46_123, ix_46_124, ix_46_125, ix_46_128, ix_46_130, ix_46_131, ix_46_132, ix_46_133, ix_46_135, ix_46_136, ix_46_137, ix_46_138, ix_46_139, ix_46_142, ix_46_144, ix_46_145, ix_46_146, ix_46_147, ix_46_149, ix_46_150, ix_46_151, ix_46_152, ix_46_155, ix_46_158, ix_46_161, ix_46_164, ix_46_167, mC_46, mS_46, mH_46, h0, dfl, vok_z1 hdr, vok_z2 hru.1 hru.2]
  refine R_cS ix_46_33 (by decide) rfl (sp_47 hp) (Nat.le_of_ble_eq_true rfl) (by rw [mcs_47, mC_46]; omega) (by rw [mcs_47, mS_46]; omega) ?_
  simp only [mcs_47, vpu, Nat.add_zero, Nat.zero_add, Nat.reduceAdd]
  refine R_run 60 ?_
  simp only [run_s, run_0, isc, Bool.or_false, Bool.false_or, Bool.or_true, Bool.true_or, Bool.or_self, cond_false, cond_true, gl, sl, stl, stl2, c2, isw, nf, pf, lnb, tk, true_and, and_true, nsg0, nsg1, Int.cast_ofNat_Int, Int.natCast_zero, Int.natCast_one, zero_z, z_add, z_sub, z_mul, z_neg, cnd_eq, cnd_ne, cnd_lt, cnd_ge, cnd_gt, cnd_le, vok_0, vok_3r, vok_3n, vok_4, Nat.add_zero, Nat.zero_add, Nat.reduceAdd, Nat.reduceSub, Nat.reduceMod, Nat.reduceDiv, Nat.reduceEqDiff, Nat.reduceLeDiff, Nat.reduceMul, Int.reduceNeg, if_true, if_false, ite_true, ite_false, reduceIte, hup_app, Nat.add_left_cancel_iff, Nat.left_eq_add, Nat.add_eq_left, reduceCtorEq, subc_0, subc_1, subc_2, subc_3, subc_4, subc_5, subc_6, subc_7, subc_8, subc_9, subc_10, subc_11, subc_12, sube_2, sube_3, sube_5, sube_8, sube_9, sube_10, rets_ok, sI_aload_n, sI_bipush, sI_dup2, sI_getfield, sI_goto, sI_iaload, sI_iastore, sI_iconst, sI_if_icmp, sI_iinc, sI_iload, sI_iload_n, sI_invokespecial, sI_invokestatic, sI_ior, sI_ishl, sI_istore, sI_newarray, sI_putfield, sI_return_, ix_46_0, ix_46_1, ix_46_4, ix_46_5, ix_46_6, ix_46_9, ix_46_10, ix_46_11, ix_46_14, ix_46_15, ix_46_16, ix_46_19, ix_46_20, ix_46_22, ix_46_25, ix_46_26, ix_46_28, ix_46_31, ix_46_32, ix_46_33, ix_46_36, ix_46_39, ix_46_40, ix_46_42, ix_46_44, ix_46_47, ix_46_48, ix_46_50, ix_46_52, ix_46_55, ix_46_56, ix_46_58, ix_46_60, ix_46_63, ix_46_64, ix_46_66, ix_46_67, ix_46_69, ix_46_71, ix_46_72, ix_46_75, ix_46_77, ix_46_79, ix_46_82, ix_46_84, ix_46_86, ix_46_88, ix_46_89, ix_46_92, ix_46_94, ix_46_96, ix_46_99, ix_46_101, ix_46_103, ix_46_106, ix_46_107, ix_46_110, ix_46_112, ix_46_114, ix_46_115, ix_46_116, ix_46_119, ix_46_121, ix_46_123, ix_46_124, ix_46_125, ix_46_128, ix_46_130, ix_46_131, ix_46_132, ix_46_133, ix_46_135, ix_46_136, ix_46_137, ix_46_138, ix_46_139, ix_46_142, ix_46_144, ix_46_145, ix_46_146, ix_46_147, ix_46_149, ix_46_150, ix_46_151, ix_46_152, ix_46_155, ix_46_158, ix_46_161, ix_46_164, ix_46_167, mC_46, mS_46, mH_46, h0, dfl, Nat.add_assoc]
  simp (disch := omega) only [z_lt, z_le, z_eq, z_in, z_nat, Int.toNat_natCast, upd_z, z_l, zl_0, zl_add, zl_sub, zl_mul, zl_i, zl_eq, zl_div, Int.reduceLT, Int.reduceLE, Int.reduceToNat, Nat.reduceAdd, Nat.reduceLeDiff, not_false_eq_true, true_and, and_true]
  have tr0 : tri p 0 = 0 := by unfold tri; simp
  refine R_hl (h := blk h b 4 (HB b (hRow p (tri p 0) (hSc p pl ti dr ru (szN p))))) (L := [some (.ref b), some (.int (z (p : Int))), some (.int (z pl)), some (.int (z ti)), some (.int (z dr)), some (.int (z ru)), some (.int (z ((tri p 0 : Nat) : Int))), some (.int (z ((0 : Nat) : Int))), none]) ?_ ?_ ?_
  · refine isH_eq ⟨?_, ?_, ?_, ?_⟩ (fun q hq => ?_)
    all_goals first | (simp only [hup_app, Nat.add_left_cancel_iff, Nat.left_eq_add, Nat.add_eq_left, Nat.reduceEqDiff, reduceCtorEq, if_true, if_false, ite_true, ite_false, reduceIte, upd_z, HB, hRow, hSc, dfa, tr0, cp_0, zero_z, bearT, Int.natCast_zero]; done) | (simp only [hup_app, Nat.add_left_cancel_iff, Nat.left_eq_add, Nat.add_eq_left, Nat.reduceEqDiff, reduceCtorEq, if_true, if_false, ite_true, ite_false, reduceIte, upd_z, HB, hRow, hSc, dfa, tr0, cp_0, zero_z, bearT, Int.natCast_zero]; rfl) | ((repeat rw [hup_ne _ _ (by omega)]); done) | (rw [hup_ne _ _ (by omega)]; (repeat rw [hup_ne _ _ (by omega)]))
  · rw [tr0]; rfl
  refine loop_up (P := fun i => Rr _ _ _ _ mi_46 _ 69 [some (.ref b), some (.int (z (p : Int))), some (.int (z pl)), some (.int (z ti)), some (.int (z dr)), some (.int (z ru)), some (.int (z ((tri p i : Nat) : Int))), some (.int (z (i : Int))), none] [] (blk h b 4 (HB b (hRow p (tri p i) (hSc p pl ti dr ru (szN p))))) (b + 4) 3 63) (n := p + 1) ?_ (fun i hi ih => ?_) 0 (Nat.zero_le _)
  · have hte := (tri_e p hp).1
    refine R_hd ix_46_69 60 ?_
    simp only [run_s, run_0, isc, Bool.or_false, Bool.false_or, Bool.or_true, Bool.true_or, Bool.or_self, cond_false, cond_true, gl, sl, stl, stl2, c2, isw, nf, pf, lnb, tk, true_and, and_true, nsg0, nsg1, Int.cast_ofNat_Int, Int.natCast_zero, Int.natCast_one, zero_z, z_add, z_sub, z_mul, z_neg, cnd_eq, cnd_ne, cnd_lt, cnd_ge, cnd_gt, cnd_le, vok_0, vok_3r, vok_3n, vok_4, Nat.add_zero, Nat.zero_add, Nat.reduceAdd, Nat.reduceSub, Nat.reduceMod, Nat.reduceDiv, Nat.reduceEqDiff, Nat.reduceLeDiff, Nat.reduceMul, Int.reduceNeg, if_true, if_false, ite_true, ite_false, reduceIte, hup_app, Nat.add_left_cancel_iff, Nat.left_eq_add, Nat.add_eq_left, reduceCtorEq, subc_0, subc_1, subc_2, subc_3, subc_4, subc_5, subc_6, subc_7, subc_8, subc_9, subc_10, subc_11, subc_12, sube_2, sube_3, sube_5, sube_8, sube_9, sube_10, rets_ok, sI_aload_n, sI_bipush, sI_dup2, sI_getfield, sI_goto, sI_iaload, sI_iastore, sI_iconst, sI_if_icmp, sI_iinc, sI_iload, sI_iload_n, sI_invokespecial, sI_invokestatic, sI_ior, sI_ishl, sI_istore, sI_newarray, sI_putfield, sI_return_, ix_46_0, ix_46_1, ix_46_4, ix_46_5, ix_46_6, ix_46_9, ix_46_10, ix_46_11, ix_46_14, ix_46_15, ix_46_16, ix_46_19, ix_46_20, ix_46_22, ix_46_25, ix_46_26, ix_46_28, ix_46_31, ix_46_32, ix_46_33, ix_46_36, ix_46_39, ix_46_40, ix_46_42, ix_46_44, ix_46_47, ix_46_48, ix_46_50, ix_46_52, ix_46_55, ix_46_56, ix_46_58, ix_46_60, ix_46_63, ix_46_64, ix_46_66, ix_46_67, ix_46_69, ix_46_71, ix_46_72, ix_46_75, ix_46_77, ix_46_79, ix_46_82, ix_46_84, ix_46_86, ix_46_88, ix_46_89, ix_46_92, ix_46_94, ix_46_96, ix_46_99, ix_46_101, ix_46_103, ix_46_106, ix_46_107, ix_46_110, ix_46_112, ix_46_114, ix_46_115, ix_46_116, ix_46_119, ix_46_121, ix_46_123, ix_46_124, ix_46_125, ix_46_128, ix_46_130, ix_46_131, ix_46_132, ix_46_133, ix_46_135, ix_46_136, ix_46_137, ix_46_138, ix_46_139, ix_46_142, ix_46_144, ix_46_145, ix_46_146, ix_46_147, ix_46_149, ix_46_150, ix_46_151, ix_46_152, ix_46_155, ix_46_158, ix_46_161, ix_46_164, ix_46_167, mC_46, mS_46, mH_46, Int.natCast_add, Int.natCast_one]
    simp (disch := omega) only [z_lt, z_le, z_eq, z_in, z_nat, Int.toNat_natCast, upd_z, z_l, zl_0, zl_add, zl_sub, zl_mul, zl_i, zl_eq, zl_div, Int.reduceLT, Int.reduceLE, Int.reduceToNat, Nat.reduceAdd, Nat.reduceLeDiff, not_false_eq_true, true_and, and_true]
    exact ⟨fun _ => by rw [hte]; rfl, fun q => absurd q (by omega)⟩
  · refine R_hd ix_46_69 60 ?_
    simp only [run_s, run_0, isc, Bool.or_false, Bool.false_or, Bool.or_true, Bool.true_or, Bool.or_self, cond_false, cond_true, gl, sl, stl, stl2, c2, isw, nf, pf, lnb, tk, true_and, and_true, nsg0, nsg1, Int.cast_ofNat_Int, Int.natCast_zero, Int.natCast_one, zero_z, z_add, z_sub, z_mul, z_neg, cnd_eq, cnd_ne, cnd_lt, cnd_ge, cnd_gt, cnd_le, vok_0, vok_3r, vok_3n, vok_4, Nat.add_zero, Nat.zero_add, Nat.reduceAdd, Nat.reduceSub, Nat.reduceMod, Nat.reduceDiv, Nat.reduceEqDiff, Nat.reduceLeDiff, Nat.reduceMul, Int.reduceNeg, if_true, if_false, ite_true, ite_false, reduceIte, hup_app, Nat.add_left_cancel_iff, Nat.left_eq_add, Nat.add_eq_left, reduceCtorEq, subc_0, subc_1, subc_2, subc_3, subc_4, subc_5, subc_6, subc_7, subc_8, subc_9, subc_10, subc_11, subc_12, sube_2, sube_3, sube_5, sube_8, sube_9, sube_10, rets_ok, sI_aload_n, sI_bipush, sI_dup2, sI_getfield, sI_goto, sI_iaload, sI_iastore, sI_iconst, sI_if_icmp, sI_iinc, sI_iload, sI_iload_n, sI_invokespecial, sI_invokestatic, sI_ior, sI_ishl, sI_istore, sI_newarray, sI_putfield, sI_return_, ix_46_0, ix_46_1, ix_46_4, ix_46_5, ix_46_6, ix_46_9, ix_46_10, ix_46_11, ix_46_14, ix_46_15, ix_46_16, ix_46_19, ix_46_20, ix_46_22, ix_46_25, ix_46_26, ix_46_28, ix_46_31, ix_46_32, ix_46_33, ix_46_36, ix_46_39, ix_46_40, ix_46_42, ix_46_44, ix_46_47, ix_46_48, ix_46_50, ix_46_52, ix_46_55, ix_46_56, ix_46_58, ix_46_60, ix_46_63, ix_46_64, ix_46_66, ix_46_67, ix_46_69, ix_46_71, ix_46_72, ix_46_75, ix_46_77, ix_46_79, ix_46_82, ix_46_84, ix_46_86, ix_46_88, ix_46_89, ix_46_92, ix_46_94, ix_46_96, ix_46_99, ix_46_101, ix_46_103, ix_46_106, ix_46_107, ix_46_110, ix_46_112, ix_46_114, ix_46_115, ix_46_116, ix_46_119, ix_46_121, ix_46_123, ix_46_124, ix_46_125, ix_46_128, ix_46_130, ix_46_131, ix_46_132, ix_46_133, ix_46_135, ix_46_136, ix_46_137, ix_46_138, ix_46_139, ix_46_142, ix_46_144, ix_46_145, ix_46_146, ix_46_147, ix_46_149, ix_46_150, ix_46_151, ix_46_152, ix_46_155, ix_46_158, ix_46_161, ix_46_164, ix_46_167, mC_46, mS_46, mH_46]
    simp (disch := omega) only [z_lt, z_le, z_eq, z_in, z_nat, Int.toNat_natCast, upd_z, z_l, zl_0, zl_add, zl_sub, zl_mul, zl_i, zl_eq, zl_div, Int.reduceLT, Int.reduceLE, Int.reduceToNat, Nat.reduceAdd, Nat.reduceLeDiff, not_false_eq_true, true_and, and_true]
    refine ⟨fun q => absurd q (by omega), fun _ => ⟨fun q => absurd q (by omega), fun _ => ?_⟩⟩
    have hinner := loop_up (P := fun m => Rr E (mcsT mtab) (Sp E (d + 1)) (d + 1) mi_46 (rets none (blk h b 4 (HB b (hW p pl ti dr ru))) (b + 4)) 86 [some (.ref b), some (.int (z (p : Int))), some (.int (z pl)), some (.int (z ti)), some (.int (z dr)), some (.int (z ru)), some (.int (z ((tri p i + m : Nat) : Int))), some (.int (z (i : Int))), some (.int (z ((i + m : Nat) : Int)))] [] (blk h b 4 (HB b (hRow p (tri p i + m) (hSc p pl ti dr ru (szN p))))) (b + 4) 3 63) (n := p + 1 - i) ?_ (fun m hm im => ?_) 0 (Nat.zero_le _)
    · exact hinner
    · refine R_hd ix_46_86 60 ?_
      simp only [run_s, run_0, isc, Bool.or_false, Bool.false_or, Bool.or_true, Bool.true_or, Bool.or_self, cond_false, cond_true, gl, sl, stl, stl2, c2, isw, nf, pf, lnb, tk, true_and, and_true, nsg0, nsg1, Int.cast_ofNat_Int, Int.natCast_zero, Int.natCast_one, zero_z, z_add, z_sub, z_mul, z_neg, cnd_eq, cnd_ne, cnd_lt, cnd_ge, cnd_gt, cnd_le, vok_0, vok_3r, vok_3n, vok_4, Nat.add_zero, Nat.zero_add, Nat.reduceAdd, Nat.reduceSub, Nat.reduceMod, Nat.reduceDiv, Nat.reduceEqDiff, Nat.reduceLeDiff, Nat.reduceMul, Int.reduceNeg, if_true, if_false, ite_true, ite_false, reduceIte, hup_app, Nat.add_left_cancel_iff, Nat.left_eq_add, Nat.add_eq_left, reduceCtorEq, subc_0, subc_1, subc_2, subc_3, subc_4, subc_5, subc_6, subc_7, subc_8, subc_9, subc_10, subc_11, subc_12, sube_2, sube_3, sube_5, sube_8, sube_9, sube_10, rets_ok, sI_aload_n, sI_bipush, sI_dup2, sI_getfield, sI_goto, sI_iaload, sI_iastore, sI_iconst, sI_if_icmp, sI_iinc, sI_iload, sI_iload_n, sI_invokespecial, sI_invokestatic, sI_ior, sI_ishl, sI_istore, sI_newarray, sI_putfield, sI_return_, ix_46_0, ix_46_1, ix_46_4, ix_46_5, ix_46_6, ix_46_9, ix_46_10, ix_46_11, ix_46_14, ix_46_15, ix_46_16, ix_46_19, ix_46_20, ix_46_22, ix_46_25, ix_46_26, ix_46_28, ix_46_31, ix_46_32, ix_46_33, ix_46_36, ix_46_39, ix_46_40, ix_46_42, ix_46_44, ix_46_47, ix_46_48, ix_46_50, ix_46_52, ix_46_55, ix_46_56, ix_46_58, ix_46_60, ix_46_63, ix_46_64, ix_46_66, ix_46_67, ix_46_69, ix_46_71, ix_46_72, ix_46_75, ix_46_77, ix_46_79, ix_46_82, ix_46_84, ix_46_86, ix_46_88, ix_46_89, ix_46_92, ix_46_94, ix_46_96, ix_46_99, ix_46_101, ix_46_103, ix_46_106, ix_46_107, ix_46_110, ix_46_112, ix_46_114, ix_46_115, ix_46_116, ix_46_119, ix_46_121, ix_46_123, ix_46_124, ix_46_125, ix_46_128, ix_46_130, ix_46_131, ix_46_132, ix_46_133, ix_46_135, ix_46_136, ix_46_137, ix_46_138, ix_46_139, ix_46_142, ix_46_144, ix_46_145, ix_46_146, ix_46_147, ix_46_149, ix_46_150, ix_46_151, ix_46_152, ix_46_155, ix_46_158, ix_46_161, ix_46_164, ix_46_167, mC_46, mS_46, mH_46]
      simp (disch := omega) only [z_lt, z_le, z_eq, z_in, z_nat, Int.toNat_natCast, upd_z, z_l, zl_0, zl_add, zl_sub, zl_mul, zl_i, zl_eq, zl_div, Int.reduceLT, Int.reduceLE, Int.reduceToNat, Nat.reduceAdd, Nat.reduceLeDiff, not_false_eq_true, true_and, and_true]
      refine ⟨fun _ => ?_, fun q => absurd q (by omega)⟩
      rw [tri_s p hp i (by omega)]
      refine R_forget ?_ ih
      repeat first | exact wkl_nil | apply wkl_c | apply wkl_n
    · obtain ⟨ok1, ok2, ok3⟩ := tri_ok p hp i (by omega) (i + m) (by omega) (by omega)
      rw [Nat.add_sub_cancel_left] at ok1 ok2 ok3
      have hse := (tri_e p hp).2
      have hbl := bearT_lt p (tri p i + m)
      obtain ⟨g0, g1, g2, g3⟩ := isH_blk (h := h) (b := b) (W := hRow p (tri p i + m) (hSc p pl ti dr ru (szN p)))
      generalize hH : blk h b 4 (HB b (hRow p (tri p i + m) (hSc p pl ti dr ru (szN p)))) = H at g0 g1 g2 g3
      generalize ht : tri p i + m = t at *
      refine R_hd ix_46_86 60 ?_
      simp only [run_s, run_0, isc, Bool.or_false, Bool.false_or, Bool.or_true, Bool.true_or, Bool.or_self, cond_false, cond_true, gl, sl, stl, stl2, c2, isw, nf, pf, lnb, tk, true_and, and_true, nsg0, nsg1, Int.cast_ofNat_Int, Int.natCast_zero, Int.natCast_one, zero_z, z_add, z_sub, z_mul, z_neg, cnd_eq, cnd_ne, cnd_lt, cnd_ge, cnd_gt, cnd_le, vok_0, vok_3r, vok_3n, vok_4, Nat.add_zero, Nat.zero_add, Nat.reduceAdd, Nat.reduceSub, Nat.reduceMod, Nat.reduceDiv, Nat.reduceEqDiff, Nat.reduceLeDiff, Nat.reduceMul, Int.reduceNeg, if_true, if_false, ite_true, ite_false, reduceIte, hup_app, Nat.add_left_cancel_iff, Nat.left_eq_add, Nat.add_eq_left, reduceCtorEq, subc_0, subc_1, subc_2, subc_3, subc_4, subc_5, subc_6, subc_7, subc_8, subc_9, subc_10, subc_11, subc_12, sube_2, sube_3, sube_5, sube_8, sube_9, sube_10, rets_ok, sI_aload_n, sI_bipush, sI_dup2, sI_getfield, sI_goto, sI_iaload, sI_iastore, sI_iconst, sI_if_icmp, sI_iinc, sI_iload, sI_iload_n, sI_invokespecial, sI_invokestatic, sI_ior, sI_ishl, sI_istore, sI_newarray, sI_putfield, sI_return_, ix_46_0, ix_46_1, ix_46_4, ix_46_5, ix_46_6, ix_46_9, ix_46_10, ix_46_11, ix_46_14, ix_46_15, ix_46_16, ix_46_19, ix_46_20, ix_46_22, ix_46_25, ix_46_26, ix_46_28, ix_46_31, ix_46_32, ix_46_33, ix_46_36, ix_46_39, ix_46_40, ix_46_42, ix_46_44, ix_46_47, ix_46_48, ix_46_50, ix_46_52, ix_46_55, ix_46_56, ix_46_58, ix_46_60, ix_46_63, ix_46_64, ix_46_66, ix_46_67, ix_46_69, ix_46_71, ix_46_72, ix_46_75, ix_46_77, ix_46_79, ix_46_82, ix_46_84, ix_46_86, ix_46_88, ix_46_89, ix_46_92, ix_46_94, ix_46_96, ix_46_99, ix_46_101, ix_46_103, ix_46_106, ix_46_107, ix_46_110, ix_46_112, ix_46_114, ix_46_115, ix_46_116, ix_46_119, ix_46_121, ix_46_123, ix_46_124, ix_46_125, ix_46_128, ix_46_130, ix_46_131, ix_46_132, ix_46_133, ix_46_135, ix_46_136, ix_46_137, ix_46_138, ix_46_139, ix_46_142, ix_46_144, ix_46_145, ix_46_146, ix_46_147, ix_46_149, ix_46_150, ix_46_151, ix_46_152, ix_46_155, ix_46_158, ix_46_161, ix_46_164, ix_46_167, mC_46, mS_46, mH_46, g0, g1, g2, g3, HB, hRow]
      rw [z_31, z_shl1 (by omega)]
      simp (disch := omega) only [z_nat, Int.toNat_natCast, z_or, upd_zn]
      rw [bear_s ok1 ok2]
      simp (disch := omega) only [z_lt, z_le, z_eq, z_in, z_nat, Int.toNat_natCast, upd_z, z_l, zl_0, zl_add, zl_sub, zl_mul, zl_i, zl_eq, zl_div, Int.reduceLT, Int.reduceLE, Int.reduceToNat, Nat.reduceAdd, Nat.reduceLeDiff, not_false_eq_true, true_and, and_true]
      have e0 := cp_s (fun k => ((lowN p k : Nat) : Int)) (fun _ => 0) t
      have e1 := cp_s (fun k => ((highN p k : Nat) : Int)) (fun _ => 0) t
      try dsimp only at e0 e1
      rw [ok1] at e0
      rw [ok2] at e1
      rw [e0, e1]
      refine ⟨fun q => absurd q (by omega), fun _ => ⟨fun q => absurd q (by omega), fun _ => ⟨fun q => absurd q (by omega), fun _ => ⟨by omega, by omega, by omega, by omega, by omega, by omega, ?_⟩⟩⟩⟩
      rw [← Nat.add_assoc, ht] at im
      refine R_hl ?_ ?_ im
      · refine isH_eq ⟨?_, ?_, ?_, ?_⟩ (fun q hq => ?_)
        all_goals first | (simp only [hup_app, Nat.add_left_cancel_iff, Nat.left_eq_add, Nat.add_eq_left, Nat.reduceEqDiff, reduceCtorEq, if_true, if_false, ite_true, ite_false, reduceIte, upd_z, g0, HB, hRow]; done) | (simp only [hup_app, Nat.add_left_cancel_iff, Nat.left_eq_add, Nat.add_eq_left, Nat.reduceEqDiff, reduceCtorEq, if_true, if_false, ite_true, ite_false, reduceIte, upd_z, g0, HB, hRow]; rfl) | ((repeat rw [hup_ne _ _ (by omega)]); done) | (rw [hup_ne _ _ (by omega)]; (repeat rw [hup_ne _ _ (by omega)]))
        rw [← hH, blk_out hq]
      · simp only [Int.natCast_add, Int.natCast_one, Int.add_assoc]
end HOUSE
