section GAME6
variable {E : EX} {d : Nat} {h : AH} {sz g hs : Nat} {G W : GS}
theorem z_i2c {a : Int} (h1 : 0 ≤ a) (h2 : a < 65536) : ((z a).toUInt32 % 65536).toInt32 = z a := by
  obtain ⟨n, rfl⟩ : ∃ n : Nat, a = n := ⟨a.toNat, by omega⟩
  rw [← nI_z]
  apply Int32.toBitVec_inj.mp
  show BitVec.ofNat 32 n % 65536#32 = BitVec.ofNat 32 n
  apply BitVec.eq_of_toNat_eq
  rw [BitVec.toNat_umod]
  have e1 : (BitVec.ofNat 32 n).toNat = n := by rw [BitVec.toNat_ofNat]; exact Nat.mod_eq_of_lt (by omega)
  have e2 : (65536#32).toNat = 65536 := rfl
  rw [e1, e2]
  exact Nat.mod_eq_of_lt (by omega)
set_option maxRecDepth 16384 in
theorem sp_34 {i l : Int} {b1 : Int} (hG : isG h g hs G) (hl : G 7 1 = l) (hb : b1 = 0 ∨ b1 = 1) (hi : 0 ≤ i ∧ i ≤ l ∧ l ≤ 28) (hv : ∀ j : Nat, (j : Int) ≤ l → 0 ≤ G 2 j ∧ G 2 j ≤ 6) : Sp E (d + 2) 34 [.ref g, .int (z i), .int (z b1)] h sz (rets (some (.int (z (48 + G 2 (if b1 = 0 then i.toNat else (l - i).toNat))))) h sz) := by
  have hG' := hG
  obtain ⟨h0, h1, h2, h3, h4⟩ := hG
  refine ⟨mi_34, mt_34, Nat.le_of_ble_eq_true rfl, ?_⟩
  change Rr _ _ _ _ mi_34 _ 0 [some (.ref g), some (.int (z i)), some (.int (z b1))] [] _ _ 0 0
  refine R_run 60 ?_
  simp only [run_s, run_0, isc, Bool.or_false, Bool.false_or, Bool.or_true, Bool.true_or, Bool.or_self, cond_false, cond_true, gl, sl, stl, stl2, c2, isw, nf, pf, lnb, tk, true_and, and_true, nsg0, nsg1, Int.cast_ofNat_Int, Int.natCast_zero, Int.natCast_one, zero_z, z_add, z_sub, z_mul, z_neg, cnd_eq, cnd_ne, cnd_lt, cnd_ge, cnd_gt, cnd_le, vok_0, vok_3r, vok_3n, vok_4, Nat.add_zero, Nat.zero_add, Nat.reduceAdd, Nat.reduceSub, Nat.reduceMod, Nat.reduceDiv, Nat.reduceEqDiff, Nat.reduceLeDiff, Nat.reduceMul, Int.reduceNeg, if_true, if_false, ite_true, ite_false, reduceIte, hup_app, Nat.add_left_cancel_iff, Nat.left_eq_add, Nat.add_eq_left, reduceCtorEq, subc_0, subc_1, subc_2, subc_3, subc_4, subc_5, subc_6, subc_7, subc_8, subc_9, subc_10, subc_11, subc_12, sube_2, sube_3, sube_5, sube_8, sube_9, sube_10, rets_ok, sI_aload_n, sI_bipush, sI_getfield, sI_goto, sI_i2c, sI_iadd, sI_ifCond, sI_iload_n, sI_invokevirtual, sI_ireturn, sI_isub, ix_34_0, ix_34_2, ix_34_3, ix_34_4, ix_34_7, ix_34_8, ix_34_11, ix_34_12, ix_34_13, ix_34_16, ix_34_17, ix_34_20, ix_34_21, ix_34_22, mC_34, mS_34, mH_34, h0, GB, hl]
  simp (disch := omega) only [z_lt, z_le, z_eq, z_in, z_nat, Int.toNat_natCast, upd_z, z_l, zl_0, zl_add, zl_sub, zl_mul, zl_i, zl_eq, zl_div, Int.reduceLT, Int.reduceLE, Int.reduceToNat, Nat.reduceAdd, Nat.reduceLeDiff, not_false_eq_true, true_and, and_true]
  refine ⟨fun q => ?_, fun q => ?_⟩
  · rw [if_pos q]
    have hv1 := hv i.toNat (by omega)
    refine R_cV ix_34_17 (by decide) (by decide) rfl h0 rfl (sp_28 hG' (k := i) (by omega)) (Nat.le_of_ble_eq_true rfl) (by rw [mcs_28, mC_34]; omega) (by rw [mcs_28, mS_34]; omega) ?_
    simp only [mcs_28, vpu, Nat.add_zero, Nat.zero_add, Nat.reduceAdd]
    refine R_run 60 ?_
    simp only [run_s, run_0, isc, Bool.or_false, Bool.false_or, Bool.or_true, Bool.true_or, Bool.or_self, cond_false, cond_true, gl, sl, stl, stl2, c2, isw, nf, pf, lnb, tk, true_and, and_true, nsg0, nsg1, Int.cast_ofNat_Int, Int.natCast_zero, Int.natCast_one, zero_z, z_add, z_sub, z_mul, z_neg, cnd_eq, cnd_ne, cnd_lt, cnd_ge, cnd_gt, cnd_le, vok_0, vok_3r, vok_3n, vok_4, Nat.add_zero, Nat.zero_add, Nat.reduceAdd, Nat.reduceSub, Nat.reduceMod, Nat.reduceDiv, Nat.reduceEqDiff, Nat.reduceLeDiff, Nat.reduceMul, Int.reduceNeg, if_true, if_false, ite_true, ite_false, reduceIte, hup_app, Nat.add_left_cancel_iff, Nat.left_eq_add, Nat.add_eq_left, reduceCtorEq, subc_0, subc_1, subc_2, subc_3, subc_4, subc_5, subc_6, subc_7, subc_8, subc_9, subc_10, subc_11, subc_12, sube_2, sube_3, sube_5, sube_8, sube_9, sube_10, rets_ok, sI_aload_n, sI_bipush, sI_getfield, sI_goto, sI_i2c, sI_iadd, sI_ifCond, sI_iload_n, sI_invokevirtual, sI_ireturn, sI_isub, ix_34_0, ix_34_2, ix_34_3, ix_34_4, ix_34_7, ix_34_8, ix_34_11, ix_34_12, ix_34_13, ix_34_16, ix_34_17, ix_34_20, ix_34_21, ix_34_22, mC_34, mS_34, mH_34]
    rw [z_i2c (by omega) (by omega), vok_z2 (by omega) (by omega)]
    first | exact ⟨trivial, rfl⟩ | exact rfl | trivial
  · rw [if_neg q]
    have hv1 := hv (l - i).toNat (by omega)
    refine R_cV ix_34_17 (by decide) (by decide) rfl h0 rfl (sp_28 hG' (k := l - i) (by omega)) (Nat.le_of_ble_eq_true rfl) (by rw [mcs_28, mC_34]; omega) (by rw [mcs_28, mS_34]; omega) ?_
    simp only [mcs_28, vpu, Nat.add_zero, Nat.zero_add, Nat.reduceAdd]
    refine R_run 60 ?_
    simp only [run_s, run_0, isc, Bool.or_false, Bool.false_or, Bool.or_true, Bool.true_or, Bool.or_self, cond_false, cond_true, gl, sl, stl, stl2, c2, isw, nf, pf, lnb, tk, true_and, and_true, nsg0, nsg1, Int.cast_ofNat_Int, Int.natCast_zero, Int.natCast_one, zero_z, z_add, z_sub, z_mul, z_neg, cnd_eq, cnd_ne, cnd_lt, cnd_ge, cnd_gt, cnd_le, vok_0, vok_3r, vok_3n, vok_4, Nat.add_zero, Nat.zero_add, Nat.reduceAdd, Nat.reduceSub, Nat.reduceMod, Nat.reduceDiv, Nat.reduceEqDiff, Nat.reduceLeDiff, Nat.reduceMul, Int.reduceNeg, if_true, if_false, ite_true, ite_false, reduceIte, hup_app, Nat.add_left_cancel_iff, Nat.left_eq_add, Nat.add_eq_left, reduceCtorEq, subc_0, subc_1, subc_2, subc_3, subc_4, subc_5, subc_6, subc_7, subc_8, subc_9, subc_10, subc_11, subc_12, sube_2, sube_3, sube_5, sube_8, sube_9, sube_10, rets_ok, sI_aload_n, sI_bipush, sI_getfield, sI_goto, sI_i2c, sI_iadd, sI_ifCond, sI_iload_n, sI_invokevirtual, sI_ireturn, sI_isub, ix_34_0, ix_34_2, ix_34_3, ix_34_4, ix_34_7, ix_34_8, ix_34_11, ix_34_12, ix_34_13, ix_34_16, ix_34_17, ix_34_20, ix_34_21, ix_34_22, mC_34, mS_34, mH_34]
    rw [z_i2c (by omega) (by omega), vok_z2 (by omega) (by omega)]
    first | exact ⟨trivial, rfl⟩ | exact rfl | trivial
end GAME6
