section GAME3
variable {E : EX} {d : Nat} {h : AH} {sz g hs : Nat} {G W : GS}
set_option maxRecDepth 16384 in
theorem sp_29 {n t bn : Nat} {b1 v : Int} (hG : isG h g hs G) (hH : isH h hs W) (hn : G 7 1 = n) (hn2 : n ≤ 28) (hb : b1 = 0 ∨ b1 = 1) (hv : G 2 (if b1 = 0 then n else 0) = v) (hv2 : 0 ≤ v ∧ v ≤ 6) (hbn : W 2 v.toNat = bn) (hbn2 : bn < 2 ^ 28) (ht : t < 28) : Sp E (d + 3) 29 [.ref g, .int (z (t : Int)), .int (z b1)] h sz (rets (some (.int (z (if n = 0 ∨ bn.testBit t = true then 1 else 0)))) h sz) := by
  have hG' := hG
  have hH' := hH
  obtain ⟨h0, h1, h2, h3, h4⟩ := hG
  obtain ⟨w0, w1, w2, w3⟩ := hH
  have s27 := sp_27 (E := E) (d := d) (sz := sz) hG' (l := (n : Int)) hn (by omega) hb
  rw [Int.toNat_natCast, hv] at s27
  refine ⟨mi_29, mt_29, Nat.le_of_ble_eq_true rfl, ?_⟩
  change Rr _ _ _ _ mi_29 _ 0 [some (.ref g), some (.int (z (t : Int))), some (.int (z b1))] [] _ _ 0 0
  refine R_run 60 ?_
  simp only [run_s, run_0, isc, Bool.or_false, Bool.false_or, Bool.or_true, Bool.true_or, Bool.or_self, cond_false, cond_true, gl, sl, stl, stl2, c2, isw, nf, pf, lnb, tk, true_and, and_true, nsg0, nsg1, Int.cast_ofNat_Int, Int.natCast_zero, Int.natCast_one, zero_z, z_add, z_sub, z_mul, z_neg, cnd_eq, cnd_ne, cnd_lt, cnd_ge, cnd_gt, cnd_le, vok_0, vok_3r, vok_3n, vok_4, Nat.add_zero, Nat.zero_add, Nat.reduceAdd, Nat.reduceSub, Nat.reduceMod, Nat.reduceDiv, Nat.reduceEqDiff, Nat.reduceLeDiff, Nat.reduceMul, Int.reduceNeg, if_true, if_false, ite_true, ite_false, reduceIte, hup_app, Nat.add_left_cancel_iff, Nat.left_eq_add, Nat.add_eq_left, reduceCtorEq, subc_0, subc_1, subc_2, subc_3, subc_4, subc_5, subc_6, subc_7, subc_8, subc_9, subc_10, subc_11, subc_12, sube_2, sube_3, sube_5, sube_8, sube_9, sube_10, rets_ok, sI_aload_n, sI_getfield, sI_goto, sI_iand, sI_iconst, sI_ifCond, sI_iload_n, sI_invokevirtual, sI_ireturn, sI_ishl, ix_29_0, ix_29_1, ix_29_4, ix_29_7, ix_29_8, ix_29_11, ix_29_12, ix_29_13, ix_29_16, ix_29_19, ix_29_20, ix_29_21, ix_29_22, ix_29_23, ix_29_26, ix_29_27, ix_29_30, ix_29_31, mC_29, mS_29, mH_29, h0, GB, hn, vok_z1 (Or.inr rfl), vok_z1 (Or.inl rfl)]
  simp (disch := omega) only [z_lt, z_le, z_eq, z_in, z_nat, Int.toNat_natCast, upd_z, z_l, zl_0, zl_add, zl_sub, zl_mul, zl_i, zl_eq, zl_div, Int.reduceLT, Int.reduceLE, Int.reduceToNat, Nat.reduceAdd, Nat.reduceLeDiff, not_false_eq_true, true_and, and_true]
  refine ⟨fun q => ?_, fun q => ?_⟩
  · rw [if_pos (Or.inl (by omega))]
  · refine R_cV ix_29_13 (by decide) (by decide) rfl h0 rfl (s27) (Nat.le_of_ble_eq_true rfl) (by rw [mcs_27, mC_29]; omega) (by rw [mcs_27, mS_29]; omega) ?_
    simp only [mcs_27, vpu, Nat.add_zero, Nat.zero_add, Nat.reduceAdd]
    have s50 := sp_50 (E := E) (d := d + 1) (sz := sz) hH' (k := v) hv2.1 hv2.2
    rw [hbn] at s50
    refine R_cV ix_29_16 (by decide) (by decide) rfl w0 rfl (s50) (Nat.le_of_ble_eq_true rfl) (by rw [mcs_50, mC_29]; omega) (by rw [mcs_50, mS_29]; omega) ?_
    simp only [mcs_50, vpu, Nat.add_zero, Nat.zero_add, Nat.reduceAdd]
    refine R_run 60 ?_
    simp only [run_s, run_0, isc, Bool.or_false, Bool.false_or, Bool.or_true, Bool.true_or, Bool.or_self, cond_false, cond_true, gl, sl, stl, stl2, c2, isw, nf, pf, lnb, tk, true_and, and_true, nsg0, nsg1, Int.cast_ofNat_Int, Int.natCast_zero, Int.natCast_one, zero_z, z_add, z_sub, z_mul, z_neg, cnd_eq, cnd_ne, cnd_lt, cnd_ge, cnd_gt, cnd_le, vok_0, vok_3r, vok_3n, vok_4, Nat.add_zero, Nat.zero_add, Nat.reduceAdd, Nat.reduceSub, Nat.reduceMod, Nat.reduceDiv, Nat.reduceEqDiff, Nat.reduceLeDiff, Nat.reduceMul, Int.reduceNeg, if_true, if_false, ite_true, ite_false, reduceIte, hup_app, Nat.add_left_cancel_iff, Nat.left_eq_add, Nat.add_eq_left, reduceCtorEq, subc_0, subc_1, subc_2, subc_3, subc_4, subc_5, subc_6, subc_7, subc_8, subc_9, subc_10, subc_11, subc_12, sube_2, sube_3, sube_5, sube_8, sube_9, sube_10, rets_ok, sI_aload_n, sI_getfield, sI_goto, sI_iand, sI_iconst, sI_ifCond, sI_iload_n, sI_invokevirtual, sI_ireturn, sI_ishl, ix_29_0, ix_29_1, ix_29_4, ix_29_7, ix_29_8, ix_29_11, ix_29_12, ix_29_13, ix_29_16, ix_29_19, ix_29_20, ix_29_21, ix_29_22, ix_29_23, ix_29_26, ix_29_27, ix_29_30, ix_29_31, mC_29, mS_29, mH_29, vok_z1 (Or.inr rfl), vok_z1 (Or.inl rfl)]
    rw [z_31, z_shl1 (by omega), z_and]
    have hmb : z ((bn &&& 2 ^ t : Nat) : Int) = z 0 ↔ bn.testBit t = false := by
      rw [← mask_bit, z_lit0, ← nI_z, ← nI_z]
      have hle : bn &&& 2 ^ t ≤ 2 ^ t := Nat.and_le_right
      have h28 : 2 ^ t ≤ 2 ^ 28 := Nat.pow_le_pow_right (by decide) (by omega)
      exact nI_eq (by omega) (by decide)
    rw [hmb]
    refine ⟨fun q2 => ?_, fun q2 => ?_⟩
    · rw [if_neg (fun q3 => q3.elim (fun q4 => by omega) (fun q4 => by rw [q2] at q4; cases q4))]
    · rw [if_pos (Or.inr (by simpa using q2))]
set_option maxRecDepth 16384 in
theorem sp_30 {n m b1 b2 : Nat} {w v1 v2 : Int} (hG : isG h g hs G) (hH : isH h hs W) (hn : G 7 1 = n) (hn2 : n ≤ 28) (hv1 : G 2 0 = v1) (hv2 : G 2 n = v2) (hr1 : 0 ≤ v1 ∧ v1 ≤ 6) (hr2 : 0 ≤ v2 ∧ v2 ≤ 6) (hb1 : W 2 v1.toNat = b1) (hb2 : W 2 v2.toNat = b2) (hw : G 7 2 = w) (hw2 : 0 ≤ w ∧ w < 4) (hm : G 1 w.toNat = m) (hm2 : m < 2 ^ 28) : Sp E (d + 3) 30 [.ref g] h sz (rets (some (.int (z (if n = 0 ∨ m &&& (b1 ||| b2) ≠ 0 then 1 else 0)))) h sz) := by
  have hG' := hG
  have hH' := hH
  obtain ⟨h0, h1, h2, h3, h4⟩ := hG
  obtain ⟨w0, w1, w2, w3⟩ := hH
  have s27 := sp_27 (E := E) (d := d) (sz := sz) hG' (l := (n : Int)) hn (by omega) (Or.inr rfl)
  rw [if_neg (by decide), hv1] at s27
  have t27 := sp_27 (E := E) (d := d) (sz := sz) hG' (l := (n : Int)) hn (by omega) (Or.inl rfl)
  rw [if_pos rfl, Int.toNat_natCast, hv2] at t27
  have s50 := sp_50 (E := E) (d := d + 1) (sz := sz) hH' (k := v1) hr1.1 hr1.2
  rw [hb1] at s50
  have t50 := sp_50 (E := E) (d := d + 1) (sz := sz) hH' (k := v2) hr2.1 hr2.2
  rw [hb2] at t50
  have s25 := sp_25 (E := E) (d := d + 1) (sz := sz) (k := w) hG' (by omega)
  rw [if_pos hw2, hm] at s25
  refine ⟨mi_30, mt_30, Nat.le_of_ble_eq_true rfl, ?_⟩
  change Rr _ _ _ _ mi_30 _ 0 [some (.ref g), none] [] _ _ 0 0
  refine R_run 60 ?_
  simp only [run_s, run_0, isc, Bool.or_false, Bool.false_or, Bool.or_true, Bool.true_or, Bool.or_self, cond_false, cond_true, gl, sl, stl, stl2, c2, isw, nf, pf, lnb, tk, true_and, and_true, nsg0, nsg1, Int.cast_ofNat_Int, Int.natCast_zero, Int.natCast_one, zero_z, z_add, z_sub, z_mul, z_neg, cnd_eq, cnd_ne, cnd_lt, cnd_ge, cnd_gt, cnd_le, vok_0, vok_3r, vok_3n, vok_4, Nat.add_zero, Nat.zero_add, Nat.reduceAdd, Nat.reduceSub, Nat.reduceMod, Nat.reduceDiv, Nat.reduceEqDiff, Nat.reduceLeDiff, Nat.reduceMul, Int.reduceNeg, if_true, if_false, ite_true, ite_false, reduceIte, hup_app, Nat.add_left_cancel_iff, Nat.left_eq_add, Nat.add_eq_left, reduceCtorEq, subc_0, subc_1, subc_2, subc_3, subc_4, subc_5, subc_6, subc_7, subc_8, subc_9, subc_10, subc_11, subc_12, sube_2, sube_3, sube_5, sube_8, sube_9, sube_10, rets_ok, sI_aload_n, sI_getfield, sI_goto, sI_iand, sI_iconst, sI_ifCond, sI_iload_n, sI_invokevirtual, sI_ior, sI_ireturn, sI_istore_n, ix_30_0, ix_30_1, ix_30_4, ix_30_5, ix_30_6, ix_30_9, ix_30_12, ix_30_13, ix_30_16, ix_30_17, ix_30_18, ix_30_21, ix_30_24, ix_30_25, ix_30_26, ix_30_27, ix_30_30, ix_30_33, ix_30_34, ix_30_35, ix_30_38, ix_30_41, ix_30_42, ix_30_43, ix_30_46, ix_30_47, ix_30_50, ix_30_51, mC_30, mS_30, mH_30, h0, GB, hn]
  refine R_cV ix_30_6 (by decide) (by decide) rfl h0 rfl (s27) (Nat.le_of_ble_eq_true rfl) (by rw [mcs_27, mC_30]; omega) (by rw [mcs_27, mS_30]; omega) ?_
  simp only [mcs_27, vpu, Nat.add_zero, Nat.zero_add, Nat.reduceAdd]
  refine R_run 60 ?_
  simp only [run_s, run_0, isc, Bool.or_false, Bool.false_or, Bool.or_true, Bool.true_or, Bool.or_self, cond_false, cond_true, gl, sl, stl, stl2, c2, isw, nf, pf, lnb, tk, true_and, and_true, nsg0, nsg1, Int.cast_ofNat_Int, Int.natCast_zero, Int.natCast_one, zero_z, z_add, z_sub, z_mul, z_neg, cnd_eq, cnd_ne, cnd_lt, cnd_ge, cnd_gt, cnd_le, vok_0, vok_3r, vok_3n, vok_4, Nat.add_zero, Nat.zero_add, Nat.reduceAdd, Nat.reduceSub, Nat.reduceMod, Nat.reduceDiv, Nat.reduceEqDiff, Nat.reduceLeDiff, Nat.reduceMul, Int.reduceNeg, if_true, if_false, ite_true, ite_false, reduceIte, hup_app, Nat.add_left_cancel_iff, Nat.left_eq_add, Nat.add_eq_left, reduceCtorEq, subc_0, subc_1, subc_2, subc_3, subc_4, subc_5, subc_6, subc_7, subc_8, subc_9, subc_10, subc_11, subc_12, sube_2, sube_3, sube_5, sube_8, sube_9, sube_10, rets_ok, sI_aload_n, sI_getfield, sI_goto, sI_iand, sI_iconst, sI_ifCond, sI_iload_n, sI_invokevirtual, sI_ior, sI_ireturn, sI_istore_n, ix_30_0, ix_30_1, ix_30_4, ix_30_5, ix_30_6, ix_30_9, ix_30_12, ix_30_13, ix_30_16, ix_30_17, ix_30_18, ix_30_21, ix_30_24, ix_30_25, ix_30_26, ix_30_27, ix_30_30, ix_30_33, ix_30_34, ix_30_35, ix_30_38, ix_30_41, ix_30_42, ix_30_43, ix_30_46, ix_30_47, ix_30_50, ix_30_51, mC_30, mS_30, mH_30]
  refine R_cV ix_30_9 (by decide) (by decide) rfl w0 rfl (s50) (Nat.le_of_ble_eq_true rfl) (by rw [mcs_50, mC_30]; omega) (by rw [mcs_50, mS_30]; omega) ?_
  simp only [mcs_50, vpu, Nat.add_zero, Nat.zero_add, Nat.reduceAdd]
  refine R_run 60 ?_
  simp only [run_s, run_0, isc, Bool.or_false, Bool.false_or, Bool.or_true, Bool.true_or, Bool.or_self, cond_false, cond_true, gl, sl, stl, stl2, c2, isw, nf, pf, lnb, tk, true_and, and_true, nsg0, nsg1, Int.cast_ofNat_Int, Int.natCast_zero, Int.natCast_one, zero_z, z_add, z_sub, z_mul, z_neg, cnd_eq, cnd_ne, cnd_lt, cnd_ge, cnd_gt, cnd_le, vok_0, vok_3r, vok_3n, vok_4, Nat.add_zero, Nat.zero_add, Nat.reduceAdd, Nat.reduceSub, Nat.reduceMod, Nat.reduceDiv, Nat.reduceEqDiff, Nat.reduceLeDiff, Nat.reduceMul, Int.reduceNeg, if_true, if_false, ite_true, ite_false, reduceIte, hup_app, Nat.add_left_cancel_iff, Nat.left_eq_add, Nat.add_eq_left, reduceCtorEq, subc_0, subc_1, subc_2, subc_3, subc_4, subc_5, subc_6, subc_7, subc_8, subc_9, subc_10, subc_11, subc_12, sube_2, sube_3, sube_5, sube_8, sube_9, sube_10, rets_ok, sI_aload_n, sI_getfield, sI_goto, sI_iand, sI_iconst, sI_ifCond, sI_iload_n, sI_invokevirtual, sI_ior, sI_ireturn, sI_istore_n, ix_30_0, ix_30_1, ix_30_4, ix_30_5, ix_30_6, ix_30_9, ix_30_12, ix_30_13, ix_30_16, ix_30_17, ix_30_18, ix_30_21, ix_30_24, ix_30_25, ix_30_26, ix_30_27, ix_30_30, ix_30_33, ix_30_34, ix_30_35, ix_30_38, ix_30_41, ix_30_42, ix_30_43, ix_30_46, ix_30_47, ix_30_50, ix_30_51, mC_30, mS_30, mH_30, h0, GB, hn]
  refine R_cV ix_30_18 (by decide) (by decide) rfl h0 rfl (t27) (Nat.le_of_ble_eq_true rfl) (by rw [mcs_27, mC_30]; omega) (by rw [mcs_27, mS_30]; omega) ?_
  simp only [mcs_27, vpu, Nat.add_zero, Nat.zero_add, Nat.reduceAdd]
  refine R_run 60 ?_
  simp only [run_s, run_0, isc, Bool.or_false, Bool.false_or, Bool.or_true, Bool.true_or, Bool.or_self, cond_false, cond_true, gl, sl, stl, stl2, c2, isw, nf, pf, lnb, tk, true_and, and_true, nsg0, nsg1, Int.cast_ofNat_Int, Int.natCast_zero, Int.natCast_one, zero_z, z_add, z_sub, z_mul, z_neg, cnd_eq, cnd_ne, cnd_lt, cnd_ge, cnd_gt, cnd_le, vok_0, vok_3r, vok_3n, vok_4, Nat.add_zero, Nat.zero_add, Nat.reduceAdd, Nat.reduceSub, Nat.reduceMod, Nat.reduceDiv, Nat.reduceEqDiff, Nat.reduceLeDiff, Nat.reduceMul, Int.reduceNeg, if_true, if_false, ite_true, ite_false, reduceIte, hup_app, Nat.add_left_cancel_iff, Nat.left_eq_add, Nat.add_eq_left, reduceCtorEq, subc_0, subc_1, subc_2, subc_3, subc_4, subc_5, subc_6, subc_7, subc_8, subc_9, subc_10, subc_11, subc_12, sube_2, sube_3, sube_5, sube_8, sube_9, sube_10, rets_ok, sI_aload_n, sI_getfield, sI_goto, sI_iand, sI_iconst, sI_ifCond, sI_iload_n, sI_invokevirtual, sI_ior, sI_ireturn, sI_istore_n, ix_30_0, ix_30_1, ix_30_4, ix_30_5, ix_30_6, ix_30_9, ix_30_12, ix_30_13, ix_30_16, ix_30_17, ix_30_18, ix_30_21, ix_30_24, ix_30_25, ix_30_26, ix_30_27, ix_30_30, ix_30_33, ix_30_34, ix_30_35, ix_30_38, ix_30_41, ix_30_42, ix_30_43, ix_30_46, ix_30_47, ix_30_50, ix_30_51, mC_30, mS_30, mH_30]
  refine R_cV ix_30_21 (by decide) (by decide) rfl w0 rfl (t50) (Nat.le_of_ble_eq_true rfl) (by rw [mcs_50, mC_30]; omega) (by rw [mcs_50, mS_30]; omega) ?_
  simp only [mcs_50, vpu, Nat.add_zero, Nat.zero_add, Nat.reduceAdd]
  refine R_run 60 ?_
  simp only [run_s, run_0, isc, Bool.or_false, Bool.false_or, Bool.or_true, Bool.true_or, Bool.or_self, cond_false, cond_true, gl, sl, stl, stl2, c2, isw, nf, pf, lnb, tk, true_and, and_true, nsg0, nsg1, Int.cast_ofNat_Int, Int.natCast_zero, Int.natCast_one, zero_z, z_add, z_sub, z_mul, z_neg, cnd_eq, cnd_ne, cnd_lt, cnd_ge, cnd_gt, cnd_le, vok_0, vok_3r, vok_3n, vok_4, Nat.add_zero, Nat.zero_add, Nat.reduceAdd, Nat.reduceSub, Nat.reduceMod, Nat.reduceDiv, Nat.reduceEqDiff, Nat.reduceLeDiff, Nat.reduceMul, Int.reduceNeg, if_true, if_false, ite_true, ite_false, reduceIte, hup_app, Nat.add_left_cancel_iff, Nat.left_eq_add, Nat.add_eq_left, reduceCtorEq, subc_0, subc_1, subc_2, subc_3, subc_4, subc_5, subc_6, subc_7, subc_8, subc_9, subc_10, subc_11, subc_12, sube_2, sube_3, sube_5, sube_8, sube_9, sube_10, rets_ok, sI_aload_n, sI_getfield, sI_goto, sI_iand, sI_iconst, sI_ifCond, sI_iload_n, sI_invokevirtual, sI_ior, sI_ireturn, sI_istore_n, ix_30_0, ix_30_1, ix_30_4, ix_30_5, ix_30_6, ix_30_9, ix_30_12, ix_30_13, ix_30_16, ix_30_17, ix_30_18, ix_30_21, ix_30_24, ix_30_25, ix_30_26, ix_30_27, ix_30_30, ix_30_33, ix_30_34, ix_30_35, ix_30_38, ix_30_41, ix_30_42, ix_30_43, ix_30_46, ix_30_47, ix_30_50, ix_30_51, mC_30, mS_30, mH_30, h0, GB, hn, hw, vok_z1 (Or.inr rfl), vok_z1 (Or.inl rfl)]
  rw [z_or]
  simp (disch := omega) only [z_lt, z_le, z_eq, z_in, z_nat, Int.toNat_natCast, upd_z, z_l, zl_0, zl_add, zl_sub, zl_mul, zl_i, zl_eq, zl_div, Int.reduceLT, Int.reduceLE, Int.reduceToNat, Nat.reduceAdd, Nat.reduceLeDiff, not_false_eq_true, true_and, and_true]
  refine ⟨fun q => ?_, fun q => ?_⟩
  · rw [if_pos (Or.inl (by omega))]
  · refine R_cV ix_30_38 (by decide) (by decide) rfl h0 rfl (s25) (Nat.le_of_ble_eq_true rfl) (by rw [mcs_25, mC_30]; omega) (by rw [mcs_25, mS_30]; omega) ?_
    simp only [mcs_25, vpu, Nat.add_zero, Nat.zero_add, Nat.reduceAdd]
    refine R_run 60 ?_
    simp only [run_s, run_0, isc, Bool.or_false, Bool.false_or, Bool.or_true, Bool.true_or, Bool.or_self, cond_false, cond_true, gl, sl, stl, stl2, c2, isw, nf, pf, lnb, tk, true_and, and_true, nsg0, nsg1, Int.cast_ofNat_Int, Int.natCast_zero, Int.natCast_one, zero_z, z_add, z_sub, z_mul, z_neg, cnd_eq, cnd_ne, cnd_lt, cnd_ge, cnd_gt, cnd_le, vok_0, vok_3r, vok_3n, vok_4, Nat.add_zero, Nat.zero_add, Nat.reduceAdd, Nat.reduceSub, Nat.reduceMod, Nat.reduceDiv, Nat.reduceEqDiff, Nat.reduceLeDiff, Nat.reduceMul, Int.reduceNeg, if_true, if_false, ite_true, ite_false, reduceIte, hup_app, Nat.add_left_cancel_iff, Nat.left_eq_add, Nat.add_eq_left, reduceCtorEq, subc_0, subc_1, subc_2, subc_3, subc_4, subc_5, subc_6, subc_7, subc_8, subc_9, subc_10, subc_11, subc_12, sube_2, sube_3, sube_5, sube_8, sube_9, sube_10, rets_ok, sI_aload_n, sI_getfield, sI_goto, sI_iand, sI_iconst, sI_ifCond, sI_iload_n, sI_invokevirtual, sI_ior, sI_ireturn, sI_istore_n, ix_30_0, ix_30_1, ix_30_4, ix_30_5, ix_30_6, ix_30_9, ix_30_12, ix_30_13, ix_30_16, ix_30_17, ix_30_18, ix_30_21, ix_30_24, ix_30_25, ix_30_26, ix_30_27, ix_30_30, ix_30_33, ix_30_34, ix_30_35, ix_30_38, ix_30_41, ix_30_42, ix_30_43, ix_30_46, ix_30_47, ix_30_50, ix_30_51, mC_30, mS_30, mH_30, vok_z1 (Or.inr rfl), vok_z1 (Or.inl rfl)]
    rw [z_and]
    have hmb : z ((m &&& (b1 ||| b2) : Nat) : Int) = z 0 ↔ m &&& (b1 ||| b2) = 0 := by
      rw [z_lit0, ← nI_z, ← nI_z]
      have hle : m &&& (b1 ||| b2) ≤ m := Nat.and_le_left
      exact nI_eq (by omega) (by decide)
    rw [hmb]
    refine ⟨fun q2 => ?_, fun q2 => ?_⟩
    · rw [if_neg (fun q3 => q3.elim (fun q4 => by omega) (fun q4 => q4 q2))]
    · rw [if_pos (Or.inr q2)]
/- who wins a game that is blocked: the fewest pips, with nobody if two have as few -/
def rw1 (W G : GS) (n : Nat) : Nat → Int × Int
  | 0 => (0, pipN W (G 1 0).toNat n)
  | k + 1 => let x := pipN W (G 1 (k + 1)).toNat n
    if x < (rw1 W G n k).2 then (((k + 1 : Nat) : Int), x) else if x = (rw1 W G n k).2 then (-1, (rw1 W G n k).2) else rw1 W G n k
def ruleW (W G : GS) (n np : Nat) : Int := if G 7 7 = 115 then G 7 3 else if G 7 7 = 110 then -1 else (rw1 W G n (np - 1)).1
theorem rw1_2 {W G : GS} {n np : Nat} (hm : ∀ k, k < np → 0 ≤ G 1 k ∧ 0 ≤ pipN W (G 1 k).toNat n ∧ pipN W (G 1 k).toNat n ≤ 100000) : ∀ k, k < np → 0 ≤ (rw1 W G n k).2 ∧ (rw1 W G n k).2 ≤ 100000 := by
  intro k
  induction k with
  | zero => intro h; exact (hm 0 h).2
  | succ k ih =>
    intro h
    have h1 := ih (by omega)
    have h2 := (hm (k + 1) h).2
    unfold rw1
    dsimp only
    split
    · exact h2
    · split
      · exact h1
      · exact h1
theorem rw1_s (W G : GS) (n k : Nat) : rw1 W G n (k + 1) = if pipN W (G 1 (k + 1)).toNat n < (rw1 W G n k).2 then (((k + 1 : Nat) : Int), pipN W (G 1 (k + 1)).toNat n) else if pipN W (G 1 (k + 1)).toNat n = (rw1 W G n k).2 then (-1, (rw1 W G n k).2) else rw1 W G n k := rfl
set_option maxRecDepth 16384 in
theorem sp_41 {n np : Nat} (hG : isG h g hs G) (hH : isH h hs W) (hn : W 3 5 = n) (hn2 : n ≤ 28) (hp : W 3 1 = np) (hp2 : 1 ≤ np ∧ np ≤ 4) (hr : 0 ≤ G 7 7 ∧ G 7 7 ≤ 65535) (hm : ∀ k, k < np → 0 ≤ G 1 k ∧ 0 ≤ pipN W (G 1 k).toNat n ∧ pipN W (G 1 k).toNat n ≤ 100000) : Sp E (d + 2) 41 [.ref g] h sz (rets (some (.int (z (ruleW W G n np)))) h sz) := by
  have hG' := hG
  have hH' := hH
  obtain ⟨h0, h1, h2, h3, h4⟩ := hG
  obtain ⟨w0, w1, w2, w3⟩ := hH
  have key : ∀ k : Nat, k < np → ∀ dd, Sp E (dd + 1) 51 [.ref hs, .int (z (G 1 k))] h sz (rets (some (.int (z (pipN W (G 1 k).toNat n)))) h sz) := by
    intro k hk dd
    have s51 := sp_51 (E := E) (d := dd) (sz := sz) (m := (G 1 k).toNat) hH' hn hn2
    rw [Int.toNat_of_nonneg (hm k hk).1] at s51
    exact s51
  refine ⟨mi_41, mt_41, Nat.le_of_ble_eq_true rfl, ?_⟩
  change Rr _ _ _ _ mi_41 _ 0 [some (.ref g), none, none, none, none] [] _ _ 0 0
  refine R_run 60 ?_
  simp only [run_s, run_0, isc, Bool.or_false, Bool.false_or, Bool.or_true, Bool.true_or, Bool.or_self, cond_false, cond_true, gl, sl, stl, stl2, c2, isw, nf, pf, lnb, tk, true_and, and_true, nsg0, nsg1, Int.cast_ofNat_Int, Int.natCast_zero, Int.natCast_one, zero_z, z_add, z_sub, z_mul, z_neg, cnd_eq, cnd_ne, cnd_lt, cnd_ge, cnd_gt, cnd_le, vok_0, vok_3r, vok_3n, vok_4, Nat.add_zero, Nat.zero_add, Nat.reduceAdd, Nat.reduceSub, Nat.reduceMod, Nat.reduceDiv, Nat.reduceEqDiff, Nat.reduceLeDiff, Nat.reduceMul, Int.reduceNeg, if_true, if_false, ite_true, ite_false, reduceIte, hup_app, Nat.add_left_cancel_iff, Nat.left_eq_add, Nat.add_eq_left, reduceCtorEq, subc_0, subc_1, subc_2, subc_3, subc_4, subc_5, subc_6, subc_7, subc_8, subc_9, subc_10, subc_11, subc_12, sube_2, sube_3, sube_5, sube_8, sube_9, sube_10, rets_ok, sI_aload_n, sI_bipush, sI_getfield, sI_goto, sI_iaload, sI_iconst, sI_if_icmp, sI_iinc, sI_iload, sI_iload_n, sI_invokevirtual, sI_ireturn, sI_istore, sI_istore_n, ix_41_0, ix_41_1, ix_41_4, ix_41_6, ix_41_9, ix_41_10, ix_41_13, ix_41_14, ix_41_15, ix_41_18, ix_41_20, ix_41_23, ix_41_24, ix_41_25, ix_41_26, ix_41_27, ix_41_28, ix_41_31, ix_41_32, ix_41_35, ix_41_36, ix_41_37, ix_41_40, ix_41_41, ix_41_42, ix_41_43, ix_41_44, ix_41_45, ix_41_48, ix_41_51, ix_41_54, ix_41_55, ix_41_56, ix_41_59, ix_41_60, ix_41_63, ix_41_64, ix_41_67, ix_41_68, ix_41_69, ix_41_72, ix_41_74, ix_41_76, ix_41_77, ix_41_80, ix_41_81, ix_41_82, ix_41_84, ix_41_85, ix_41_88, ix_41_90, ix_41_91, ix_41_94, ix_41_95, ix_41_96, ix_41_99, ix_41_102, ix_41_103, mC_41, mS_41, mH_41, h0, h2, GB]
  simp (disch := omega) only [z_lt, z_le, z_eq, z_in, z_nat, Int.toNat_natCast, upd_z, z_l, zl_0, zl_add, zl_sub, zl_mul, zl_i, zl_eq, zl_div, Int.reduceLT, Int.reduceLE, Int.reduceToNat, Nat.reduceAdd, Nat.reduceLeDiff, not_false_eq_true, true_and, and_true]
  unfold ruleW
  refine ⟨fun q => ⟨fun q2 => ?_, fun q2 => ?_⟩, fun q => ?_⟩
  · rw [if_neg q, if_neg q2]
    refine ⟨by omega, ?_⟩
    refine R_cV ix_41_37 (by decide) (by decide) rfl w0 rfl (key 0 (by omega) d) (Nat.le_of_ble_eq_true rfl) (by rw [mcs_51, mC_41]; omega) (by rw [mcs_51, mS_41]; omega) ?_
    simp only [mcs_51, vpu, Nat.add_zero, Nat.zero_add, Nat.reduceAdd]
    refine R_run 60 ?_
    simp only [run_s, run_0, isc, Bool.or_false, Bool.false_or, Bool.or_true, Bool.true_or, Bool.or_self, cond_false, cond_true, gl, sl, stl, stl2, c2, isw, nf, pf, lnb, tk, true_and, and_true, nsg0, nsg1, Int.cast_ofNat_Int, Int.natCast_zero, Int.natCast_one, zero_z, z_add, z_sub, z_mul, z_neg, cnd_eq, cnd_ne, cnd_lt, cnd_ge, cnd_gt, cnd_le, vok_0, vok_3r, vok_3n, vok_4, Nat.add_zero, Nat.zero_add, Nat.reduceAdd, Nat.reduceSub, Nat.reduceMod, Nat.reduceDiv, Nat.reduceEqDiff, Nat.reduceLeDiff, Nat.reduceMul, Int.reduceNeg, if_true, if_false, ite_true, ite_false, reduceIte, hup_app, Nat.add_left_cancel_iff, Nat.left_eq_add, Nat.add_eq_left, reduceCtorEq, subc_0, subc_1, subc_2, subc_3, subc_4, subc_5, subc_6, subc_7, subc_8, subc_9, subc_10, subc_11, subc_12, sube_2, sube_3, sube_5, sube_8, sube_9, sube_10, rets_ok, sI_aload_n, sI_bipush, sI_getfield, sI_goto, sI_iaload, sI_iconst, sI_if_icmp, sI_iinc, sI_iload, sI_iload_n, sI_invokevirtual, sI_ireturn, sI_istore, sI_istore_n, ix_41_0, ix_41_1, ix_41_4, ix_41_6, ix_41_9, ix_41_10, ix_41_13, ix_41_14, ix_41_15, ix_41_18, ix_41_20, ix_41_23, ix_41_24, ix_41_25, ix_41_26, ix_41_27, ix_41_28, ix_41_31, ix_41_32, ix_41_35, ix_41_36, ix_41_37, ix_41_40, ix_41_41, ix_41_42, ix_41_43, ix_41_44, ix_41_45, ix_41_48, ix_41_51, ix_41_54, ix_41_55, ix_41_56, ix_41_59, ix_41_60, ix_41_63, ix_41_64, ix_41_67, ix_41_68, ix_41_69, ix_41_72, ix_41_74, ix_41_76, ix_41_77, ix_41_80, ix_41_81, ix_41_82, ix_41_84, ix_41_85, ix_41_88, ix_41_90, ix_41_91, ix_41_94, ix_41_95, ix_41_96, ix_41_99, ix_41_102, ix_41_103, mC_41, mS_41, mH_41]
    refine loop_up (P := fun k => Rr _ _ _ _ mi_41 _ 43 [some (.ref g), some (.int (z (rw1 W G n k).1)), some (.int (z (rw1 W G n k).2)), some (.int (z ((k : Int) + 1))), none] [] h sz 0 0) (n := np - 1) ?_ (fun k hk ih => ?_) 0 (Nat.zero_le _)
    · refine R_hd ix_41_43 60 ?_
      simp only [run_s, run_0, isc, Bool.or_false, Bool.false_or, Bool.or_true, Bool.true_or, Bool.or_self, cond_false, cond_true, gl, sl, stl, stl2, c2, isw, nf, pf, lnb, tk, true_and, and_true, nsg0, nsg1, Int.cast_ofNat_Int, Int.natCast_zero, Int.natCast_one, zero_z, z_add, z_sub, z_mul, z_neg, cnd_eq, cnd_ne, cnd_lt, cnd_ge, cnd_gt, cnd_le, vok_0, vok_3r, vok_3n, vok_4, Nat.add_zero, Nat.zero_add, Nat.reduceAdd, Nat.reduceSub, Nat.reduceMod, Nat.reduceDiv, Nat.reduceEqDiff, Nat.reduceLeDiff, Nat.reduceMul, Int.reduceNeg, if_true, if_false, ite_true, ite_false, reduceIte, hup_app, Nat.add_left_cancel_iff, Nat.left_eq_add, Nat.add_eq_left, reduceCtorEq, subc_0, subc_1, subc_2, subc_3, subc_4, subc_5, subc_6, subc_7, subc_8, subc_9, subc_10, subc_11, subc_12, sube_2, sube_3, sube_5, sube_8, sube_9, sube_10, rets_ok, sI_aload_n, sI_bipush, sI_getfield, sI_goto, sI_iaload, sI_iconst, sI_if_icmp, sI_iinc, sI_iload, sI_iload_n, sI_invokevirtual, sI_ireturn, sI_istore, sI_istore_n, ix_41_0, ix_41_1, ix_41_4, ix_41_6, ix_41_9, ix_41_10, ix_41_13, ix_41_14, ix_41_15, ix_41_18, ix_41_20, ix_41_23, ix_41_24, ix_41_25, ix_41_26, ix_41_27, ix_41_28, ix_41_31, ix_41_32, ix_41_35, ix_41_36, ix_41_37, ix_41_40, ix_41_41, ix_41_42, ix_41_43, ix_41_44, ix_41_45, ix_41_48, ix_41_51, ix_41_54, ix_41_55, ix_41_56, ix_41_59, ix_41_60, ix_41_63, ix_41_64, ix_41_67, ix_41_68, ix_41_69, ix_41_72, ix_41_74, ix_41_76, ix_41_77, ix_41_80, ix_41_81, ix_41_82, ix_41_84, ix_41_85, ix_41_88, ix_41_90, ix_41_91, ix_41_94, ix_41_95, ix_41_96, ix_41_99, ix_41_102, ix_41_103, mC_41, mS_41, mH_41, h0, w0, GB, HB, hp]
      simp (disch := omega) only [z_lt, z_le, z_eq, z_in, z_nat, Int.toNat_natCast, upd_z, z_l, zl_0, zl_add, zl_sub, zl_mul, zl_i, zl_eq, zl_div, Int.reduceLT, Int.reduceLE, Int.reduceToNat, Nat.reduceAdd, Nat.reduceLeDiff, not_false_eq_true, true_and, and_true]
      exact ⟨fun _ => trivial, fun q => absurd q (by omega)⟩
    · have b1 := rw1_2 hm k (by omega)
      have b2 := (hm (k + 1) (by omega)).2
      rw [rw1_s] at ih
      refine R_hd ix_41_43 60 ?_
      simp only [run_s, run_0, isc, Bool.or_false, Bool.false_or, Bool.or_true, Bool.true_or, Bool.or_self, cond_false, cond_true, gl, sl, stl, stl2, c2, isw, nf, pf, lnb, tk, true_and, and_true, nsg0, nsg1, Int.cast_ofNat_Int, Int.natCast_zero, Int.natCast_one, zero_z, z_add, z_sub, z_mul, z_neg, cnd_eq, cnd_ne, cnd_lt, cnd_ge, cnd_gt, cnd_le, vok_0, vok_3r, vok_3n, vok_4, Nat.add_zero, Nat.zero_add, Nat.reduceAdd, Nat.reduceSub, Nat.reduceMod, Nat.reduceDiv, Nat.reduceEqDiff, Nat.reduceLeDiff, Nat.reduceMul, Int.reduceNeg, if_true, if_false, ite_true, ite_false, reduceIte, hup_app, Nat.add_left_cancel_iff, Nat.left_eq_add, Nat.add_eq_left, reduceCtorEq, subc_0, subc_1, subc_2, subc_3, subc_4, subc_5, subc_6, subc_7, subc_8, subc_9, subc_10, subc_11, subc_12, sube_2, sube_3, sube_5, sube_8, sube_9, sube_10, rets_ok, sI_aload_n, sI_bipush, sI_getfield, sI_goto, sI_iaload, sI_iconst, sI_if_icmp, sI_iinc, sI_iload, sI_iload_n, sI_invokevirtual, sI_ireturn, sI_istore, sI_istore_n, ix_41_0, ix_41_1, ix_41_4, ix_41_6, ix_41_9, ix_41_10, ix_41_13, ix_41_14, ix_41_15, ix_41_18, ix_41_20, ix_41_23, ix_41_24, ix_41_25, ix_41_26, ix_41_27, ix_41_28, ix_41_31, ix_41_32, ix_41_35, ix_41_36, ix_41_37, ix_41_40, ix_41_41, ix_41_42, ix_41_43, ix_41_44, ix_41_45, ix_41_48, ix_41_51, ix_41_54, ix_41_55, ix_41_56, ix_41_59, ix_41_60, ix_41_63, ix_41_64, ix_41_67, ix_41_68, ix_41_69, ix_41_72, ix_41_74, ix_41_76, ix_41_77, ix_41_80, ix_41_81, ix_41_82, ix_41_84, ix_41_85, ix_41_88, ix_41_90, ix_41_91, ix_41_94, ix_41_95, ix_41_96, ix_41_99, ix_41_102, ix_41_103, mC_41, mS_41, mH_41, h0, w0, h2, GB, HB, hp]
      have e1 : ((k : Int) + 1).toNat = k + 1 := by omega
      simp (disch := omega) only [z_lt, z_le, z_eq, z_in, z_nat, Int.toNat_natCast, upd_z, z_l, zl_0, zl_add, zl_sub, zl_mul, zl_i, zl_eq, zl_div, Int.reduceLT, Int.reduceLE, Int.reduceToNat, Nat.reduceAdd, Nat.reduceLeDiff, not_false_eq_true, true_and, and_true, e1]
      refine ⟨fun q => absurd q (by omega), fun _ => ⟨fun q => absurd q (by omega), fun _ => ⟨by omega, ?_⟩⟩⟩
      refine R_cV ix_41_69 (by decide) (by decide) rfl w0 rfl (key (k + 1) (by omega) d) (Nat.le_of_ble_eq_true rfl) (by rw [mcs_51, mC_41]; omega) (by rw [mcs_51, mS_41]; omega) ?_
      simp only [mcs_51, vpu, Nat.add_zero, Nat.zero_add, Nat.reduceAdd]
      refine R_run 60 ?_
      simp only [run_s, run_0, isc, Bool.or_false, Bool.false_or, Bool.or_true, Bool.true_or, Bool.or_self, cond_false, cond_true, gl, sl, stl, stl2, c2, isw, nf, pf, lnb, tk, true_and, and_true, nsg0, nsg1, Int.cast_ofNat_Int, Int.natCast_zero, Int.natCast_one, zero_z, z_add, z_sub, z_mul, z_neg, cnd_eq, cnd_ne, cnd_lt, cnd_ge, cnd_gt, cnd_le, vok_0, vok_3r, vok_3n, vok_4, Nat.add_zero, Nat.zero_add, Nat.reduceAdd, Nat.reduceSub, Nat.reduceMod, Nat.reduceDiv, Nat.reduceEqDiff, Nat.reduceLeDiff, Nat.reduceMul, Int.reduceNeg, if_true, if_false, ite_true, ite_false, reduceIte, hup_app, Nat.add_left_cancel_iff, Nat.left_eq_add, Nat.add_eq_left, reduceCtorEq, subc_0, subc_1, subc_2, subc_3, subc_4, subc_5, subc_6, subc_7, subc_8, subc_9, subc_10, subc_11, subc_12, sube_2, sube_3, sube_5, sube_8, sube_9, sube_10, rets_ok, sI_aload_n, sI_bipush, sI_getfield, sI_goto, sI_iaload, sI_iconst, sI_if_icmp, sI_iinc, sI_iload, sI_iload_n, sI_invokevirtual, sI_ireturn, sI_istore, sI_istore_n, ix_41_0, ix_41_1, ix_41_4, ix_41_6, ix_41_9, ix_41_10, ix_41_13, ix_41_14, ix_41_15, ix_41_18, ix_41_20, ix_41_23, ix_41_24, ix_41_25, ix_41_26, ix_41_27, ix_41_28, ix_41_31, ix_41_32, ix_41_35, ix_41_36, ix_41_37, ix_41_40, ix_41_41, ix_41_42, ix_41_43, ix_41_44, ix_41_45, ix_41_48, ix_41_51, ix_41_54, ix_41_55, ix_41_56, ix_41_59, ix_41_60, ix_41_63, ix_41_64, ix_41_67, ix_41_68, ix_41_69, ix_41_72, ix_41_74, ix_41_76, ix_41_77, ix_41_80, ix_41_81, ix_41_82, ix_41_84, ix_41_85, ix_41_88, ix_41_90, ix_41_91, ix_41_94, ix_41_95, ix_41_96, ix_41_99, ix_41_102, ix_41_103, mC_41, mS_41, mH_41]
      simp (disch := omega) only [z_lt, z_le, z_eq, z_in, z_nat, Int.toNat_natCast, upd_z, z_l, zl_0, zl_add, zl_sub, zl_mul, zl_i, zl_eq, zl_div, Int.reduceLT, Int.reduceLE, Int.reduceToNat, Nat.reduceAdd, Nat.reduceLeDiff, not_false_eq_true, true_and, and_true]
      refine ⟨fun q3 => ⟨fun q4 => ?_, fun q4 => ?_⟩, fun q3 => ?_⟩
      · rw [if_neg (by omega), if_neg q4] at ih
        refine R_forget ?_ ih
        repeat first | exact wkl_nil | apply wkl_c | apply wkl_n
      · rw [if_neg (by omega), if_pos (by omega)] at ih
        refine R_forget ?_ ih
        repeat first | exact wkl_nil | apply wkl_c | apply wkl_n
      · rw [if_pos (by omega)] at ih
        refine R_forget ?_ ih
        repeat first | exact wkl_nil | apply wkl_c | apply wkl_n
  · rw [if_neg q, if_pos (Classical.not_not.mp q2)]
  · rw [if_pos (Classical.not_not.mp q)]
/- the game goes on to the next player, or from the last to the first -/
def g_move (G : GS) (np : Int) : GS := sr G 7 (st1 (G 7) 2 (if G 7 2 + 1 < np then G 7 2 + 1 else 0))
theorem isH_out {h : AH} {a n hs : Nat} {F : Nat → va_E} {W : GS} (k : isH h hs W) (hd : hs + 4 ≤ a ∨ a + n ≤ hs) : isH (blk h a n F) hs W := by
  obtain ⟨w0, w1, w2, w3⟩ := k
  exact ⟨by rw [blk_out (by omega)]; exact w0, by rw [blk_out (by omega)]; exact w1, by rw [blk_out (by omega)]; exact w2, by rw [blk_out (by omega)]; exact w3⟩
theorem sp_39m {w np : Int} (hG : isG h g hs G) (hH : isH h hs W) (hw : G 7 2 = w) (hn : W 3 1 = np) (hw2 : 0 ≤ w ∧ w ≤ 4) (hn2 : 0 ≤ np ∧ np ≤ 4) : Sp E (d + 1) 39 [.ref g] h sz (rets none (blk h g 9 (GB g hs (g_move G np))) sz) := by
  have s := sp_39 (E := E) (d := d) (sz := sz) hG hH hw hn hw2 hn2
  subst hw
  exact s
/- a pass -/
def g_p1 (G : GS) : GS := sr G 7 (st1 (G 7) 4 (G 7 4 + 1))
def g_p2 (G : GS) : GS := sr G 7 (st1 (st1 (G 7) 4 (G 7 4 + 1)) 5 1)
def g_win (G : GS) (v : Int) : GS := sr G 7 (st1 (G 7) 6 v)
def g_skip (W G : GS) (n np : Nat) : GS := if (np : Int) ≤ G 7 4 + 1 then g_move (g_win (g_p2 G) (ruleW W (g_p2 G) n np)) np else g_move (g_p1 G) np
set_option maxRecDepth 16384 in
theorem sp_38 {n np : Nat} {w : Int} (hG : isG h g hs G) (hH : isH h hs W) (hdj : hs + 4 ≤ g ∨ g + 9 ≤ hs) (hn : W 3 5 = n) (hn2 : n ≤ 28) (hp : W 3 1 = np) (hp2 : 1 ≤ np ∧ np ≤ 4) (hr : 0 ≤ G 7 7 ∧ G 7 7 ≤ 65535) (hm : ∀ k, k < np → 0 ≤ G 1 k ∧ 0 ≤ pipN W (G 1 k).toNat n ∧ pipN W (G 1 k).toNat n ≤ 100000) (hw : G 7 2 = w) (hw2 : 0 ≤ w ∧ w ≤ 4) (hps : 0 ≤ G 7 4 ∧ G 7 4 ≤ 1000) : Sp E (d + 3) 38 [.ref g] h sz (rets none (blk h g 9 (GB g hs (g_skip W G n np))) sz) := by
  obtain ⟨h0, h1, h2, h3, h4, h5, h6, h7, h8⟩ := isG_f hG
  have hH' := hH
  obtain ⟨w0, w1, w2, w3⟩ := hH
  have n_0_0 : (hs = g) = False := eq_false (by omega)
  refine ⟨mi_38, mt_38, Nat.le_of_ble_eq_true rfl, ?_⟩
  change Rr _ _ _ _ mi_38 _ 0 [some (.ref g)] [] _ _ 0 0
  refine R_run 60 ?_
  simp only [run_s, run_0, isc, Bool.or_false, Bool.false_or, Bool.or_true, Bool.true_or, Bool.or_self, cond_false, cond_true, gl, sl, stl, stl2, c2, isw, nf, pf, lnb, tk, true_and, and_true, nsg0, nsg1, Int.cast_ofNat_Int, Int.natCast_zero, Int.natCast_one, zero_z, z_add, z_sub, z_mul, z_neg, cnd_eq, cnd_ne, cnd_lt, cnd_ge, cnd_gt, cnd_le, vok_0, vok_3r, vok_3n, vok_4, Nat.add_zero, Nat.zero_add, Nat.reduceAdd, Nat.reduceSub, Nat.reduceMod, Nat.reduceDiv, Nat.reduceEqDiff, Nat.reduceLeDiff, Nat.reduceMul, Int.reduceNeg, if_true, if_false, ite_true, ite_false, reduceIte, hup_app, Nat.add_left_cancel_iff, Nat.left_eq_add, Nat.add_eq_left, reduceCtorEq, subc_0, subc_1, subc_2, subc_3, subc_4, subc_5, subc_6, subc_7, subc_8, subc_9, subc_10, subc_11, subc_12, sube_2, sube_3, sube_5, sube_8, sube_9, sube_10, rets_ok, sI_aload_n, sI_dup, sI_getfield, sI_iadd, sI_iconst, sI_if_icmp, sI_invokevirtual, sI_putfield, sI_return_, ix_38_0, ix_38_1, ix_38_2, ix_38_5, ix_38_6, ix_38_7, ix_38_10, ix_38_11, ix_38_14, ix_38_15, ix_38_18, ix_38_21, ix_38_24, ix_38_25, ix_38_26, ix_38_29, ix_38_30, ix_38_31, ix_38_34, ix_38_37, ix_38_38, ix_38_41, mC_38, mS_38, mH_38, h0, w0, GB, HB, hp, n_0_0, vok_z1 (Or.inr rfl)]
  simp (disch := omega) only [z_lt, z_le, z_eq, z_in, z_nat, Int.toNat_natCast, upd_z, z_l, zl_0, zl_add, zl_sub, zl_mul, zl_i, zl_eq, zl_div, Int.reduceLT, Int.reduceLE, Int.reduceToNat, Nat.reduceAdd, Nat.reduceLeDiff, not_false_eq_true, true_and, and_true]
  unfold g_skip
  refine ⟨fun q => ?_, fun q => ?_⟩
  · rw [if_neg (by omega)]
    refine R_heap (h := blk h g 9 (GB g hs (g_p1 G))) ?_ ?_
    · refine fG_eq ⟨?_, ?_, ?_, ?_, ?_, ?_, ?_, ?_, ?_⟩ (fun q hq => ?_)
      all_goals first | (simp only [hup_app, Nat.add_left_cancel_iff, Nat.left_eq_add, Nat.add_eq_left, Nat.reduceEqDiff, reduceCtorEq, if_true, if_false, ite_true, ite_false, reduceIte, upd_z, h1, h2, h3, h4, h5, h6, h7, h8, GB, BB, sr, st1, g_p1]; done) | (simp only [hup_app, Nat.add_left_cancel_iff, Nat.left_eq_add, Nat.add_eq_left, Nat.reduceEqDiff, reduceCtorEq, if_true, if_false, ite_true, ite_false, reduceIte, upd_z, h1, h2, h3, h4, h5, h6, h7, h8, GB, BB, sr, st1, g_p1]; rfl) | ((repeat rw [hup_ne _ _ (by omega)]); done) | (rw [hup_ne _ _ (by omega)]; (repeat rw [hup_ne _ _ (by omega)]))
    · refine R_cV ix_38_38 (by decide) (by decide) rfl isG_blk.1 rfl (sp_39m (d := d + 1) isG_blk (isH_out hH' hdj) (show g_p1 G 7 2 = w from hw) hp hw2 (by omega)) (Nat.le_of_ble_eq_true rfl) (by rw [mcs_39, mC_38]; omega) (by rw [mcs_39, mS_38]; omega) ?_
      simp only [mcs_39, vpu, Nat.add_zero, Nat.zero_add, Nat.reduceAdd]
      rw [blk_blk]
      refine R_run 60 ?_
      simp only [run_s, run_0, isc, Bool.or_false, Bool.false_or, Bool.or_true, Bool.true_or, Bool.or_self, cond_false, cond_true, gl, sl, stl, stl2, c2, isw, nf, pf, lnb, tk, true_and, and_true, nsg0, nsg1, Int.cast_ofNat_Int, Int.natCast_zero, Int.natCast_one, zero_z, z_add, z_sub, z_mul, z_neg, cnd_eq, cnd_ne, cnd_lt, cnd_ge, cnd_gt, cnd_le, vok_0, vok_3r, vok_3n, vok_4, Nat.add_zero, Nat.zero_add, Nat.reduceAdd, Nat.reduceSub, Nat.reduceMod, Nat.reduceDiv, Nat.reduceEqDiff, Nat.reduceLeDiff, Nat.reduceMul, Int.reduceNeg, if_true, if_false, ite_true, ite_false, reduceIte, hup_app, Nat.add_left_cancel_iff, Nat.left_eq_add, Nat.add_eq_left, reduceCtorEq, subc_0, subc_1, subc_2, subc_3, subc_4, subc_5, subc_6, subc_7, subc_8, subc_9, subc_10, subc_11, subc_12, sube_2, sube_3, sube_5, sube_8, sube_9, sube_10, rets_ok, sI_aload_n, sI_dup, sI_getfield, sI_iadd, sI_iconst, sI_if_icmp, sI_invokevirtual, sI_putfield, sI_return_, ix_38_0, ix_38_1, ix_38_2, ix_38_5, ix_38_6, ix_38_7, ix_38_10, ix_38_11, ix_38_14, ix_38_15, ix_38_18, ix_38_21, ix_38_24, ix_38_25, ix_38_26, ix_38_29, ix_38_30, ix_38_31, ix_38_34, ix_38_37, ix_38_38, ix_38_41, mC_38, mS_38, mH_38]
  · rw [if_pos (by omega)]
    refine R_heap (h := blk h g 9 (GB g hs (g_p2 G))) ?_ ?_
    · refine fG_eq ⟨?_, ?_, ?_, ?_, ?_, ?_, ?_, ?_, ?_⟩ (fun q hq => ?_)
      all_goals first | (simp only [hup_app, Nat.add_left_cancel_iff, Nat.left_eq_add, Nat.add_eq_left, Nat.reduceEqDiff, reduceCtorEq, if_true, if_false, ite_true, ite_false, reduceIte, upd_z, h1, h2, h3, h4, h5, h6, h7, h8, GB, BB, sr, st1, g_p2]; done) | (simp only [hup_app, Nat.add_left_cancel_iff, Nat.left_eq_add, Nat.add_eq_left, Nat.reduceEqDiff, reduceCtorEq, if_true, if_false, ite_true, ite_false, reduceIte, upd_z, h1, h2, h3, h4, h5, h6, h7, h8, GB, BB, sr, st1, g_p2]; rfl) | ((repeat rw [hup_ne _ _ (by omega)]); done) | (rw [hup_ne _ _ (by omega)]; (repeat rw [hup_ne _ _ (by omega)]))
    · refine R_cV ix_38_31 (by decide) (by decide) rfl isG_blk.1 rfl (sp_41 (d := d) isG_blk (isH_out hH' hdj) hn hn2 hp hp2 (show 0 ≤ g_p2 G 7 7 ∧ g_p2 G 7 7 ≤ 65535 from hr) hm) (Nat.le_of_ble_eq_true rfl) (by rw [mcs_41, mC_38]; omega) (by rw [mcs_41, mS_38]; omega) ?_
      simp only [mcs_41, vpu, Nat.add_zero, Nat.zero_add, Nat.reduceAdd]
      have gb := isG_f (isG_blk (h := h) (g := g) (hs := hs) (G := g_p2 G))
      generalize hB : blk h g 9 (GB g hs (g_p2 G)) = H at gb ⊢
      obtain ⟨g0, g1, g2, g3, g4, g5, g6, g7, g8⟩ := gb
      refine R_run 60 ?_
      simp only [run_s, run_0, isc, Bool.or_false, Bool.false_or, Bool.or_true, Bool.true_or, Bool.or_self, cond_false, cond_true, gl, sl, stl, stl2, c2, isw, nf, pf, lnb, tk, true_and, and_true, nsg0, nsg1, Int.cast_ofNat_Int, Int.natCast_zero, Int.natCast_one, zero_z, z_add, z_sub, z_mul, z_neg, cnd_eq, cnd_ne, cnd_lt, cnd_ge, cnd_gt, cnd_le, vok_0, vok_3r, vok_3n, vok_4, Nat.add_zero, Nat.zero_add, Nat.reduceAdd, Nat.reduceSub, Nat.reduceMod, Nat.reduceDiv, Nat.reduceEqDiff, Nat.reduceLeDiff, Nat.reduceMul, Int.reduceNeg, if_true, if_false, ite_true, ite_false, reduceIte, hup_app, Nat.add_left_cancel_iff, Nat.left_eq_add, Nat.add_eq_left, reduceCtorEq, subc_0, subc_1, subc_2, subc_3, subc_4, subc_5, subc_6, subc_7, subc_8, subc_9, subc_10, subc_11, subc_12, sube_2, sube_3, sube_5, sube_8, sube_9, sube_10, rets_ok, sI_aload_n, sI_dup, sI_getfield, sI_iadd, sI_iconst, sI_if_icmp, sI_invokevirtual, sI_putfield, sI_return_, ix_38_0, ix_38_1, ix_38_2, ix_38_5, ix_38_6, ix_38_7, ix_38_10, ix_38_11, ix_38_14, ix_38_15, ix_38_18, ix_38_21, ix_38_24, ix_38_25, ix_38_26, ix_38_29, ix_38_30, ix_38_31, ix_38_34, ix_38_37, ix_38_38, ix_38_41, mC_38, mS_38, mH_38, g0, GB]
      refine R_heap (h := blk h g 9 (GB g hs (g_win (g_p2 G) (ruleW W (g_p2 G) n np)))) ?_ ?_
      · refine fG_eq ⟨?_, ?_, ?_, ?_, ?_, ?_, ?_, ?_, ?_⟩ (fun q hq => ?_)
        all_goals first | (simp only [hup_app, Nat.add_left_cancel_iff, Nat.left_eq_add, Nat.add_eq_left, Nat.reduceEqDiff, reduceCtorEq, if_true, if_false, ite_true, ite_false, reduceIte, upd_z, g1, g2, g3, g4, g5, g6, g7, g8, GB, BB, sr, st1, g_win]; done) | (simp only [hup_app, Nat.add_left_cancel_iff, Nat.left_eq_add, Nat.add_eq_left, Nat.reduceEqDiff, reduceCtorEq, if_true, if_false, ite_true, ite_false, reduceIte, upd_z, g1, g2, g3, g4, g5, g6, g7, g8, GB, BB, sr, st1, g_win]; rfl) | ((repeat rw [hup_ne _ _ (by omega)]); done) | (rw [hup_ne _ _ (by omega)]; (repeat rw [hup_ne _ _ (by omega)]))
        rw [← hB, blk_out hq]
      · refine R_cV ix_38_38 (by decide) (by decide) rfl isG_blk.1 rfl (sp_39m (d := d + 1) isG_blk (isH_out hH' hdj) (show g_win (g_p2 G) (ruleW W (g_p2 G) n np) 7 2 = w from hw) hp hw2 (by omega)) (Nat.le_of_ble_eq_true rfl) (by rw [mcs_39, mC_38]; omega) (by rw [mcs_39, mS_38]; omega) ?_
        simp only [mcs_39, vpu, Nat.add_zero, Nat.zero_add, Nat.reduceAdd]
        rw [blk_blk]
        refine R_run 60 ?_
        simp only [run_s, run_0, isc, Bool.or_false, Bool.false_or, Bool.or_true, Bool.true_or, Bool.or_self, cond_false, cond_true, gl, sl, stl, stl2, c2, isw, nf, pf, lnb, tk, true_and, and_true, nsg0, nsg1, Int.cast_ofNat_Int, Int.natCast_zero, Int.natCast_one, zero_z, z_add, z_sub, z_mul, z_neg, cnd_eq, cnd_ne, cnd_lt, cnd_ge, cnd_gt, cnd_le, vok_0, vok_3r, vok_3n, vok_4, Nat.add_zero, Nat.zero_add, Nat.reduceAdd, Nat.reduceSub, Nat.reduceMod, Nat.reduceDiv, Nat.reduceEqDiff, Nat.reduceLeDiff, Nat.reduceMul, Int.reduceNeg, if_true, if_false, ite_true, ite_false, reduceIte, hup_app, Nat.add_left_cancel_iff, Nat.left_eq_add, Nat.add_eq_left, reduceCtorEq, subc_0, subc_1, subc_2, subc_3, subc_4, subc_5, subc_6, subc_7, subc_8, subc_9, subc_10, subc_11, subc_12, sube_2, sube_3, sube_5, sube_8, sube_9, sube_10, rets_ok, sI_aload_n, sI_dup, sI_getfield, sI_iadd, sI_iconst, sI_if_icmp, sI_invokevirtual, sI_putfield, sI_return_, ix_38_0, ix_38_1, ix_38_2, ix_38_5, ix_38_6, ix_38_7, ix_38_10, ix_38_11, ix_38_14, ix_38_15, ix_38_18, ix_38_21, ix_38_24, ix_38_25, ix_38_26, ix_38_29, ix_38_30, ix_38_31, ix_38_34, ix_38_37, ix_38_38, ix_38_41, mC_38, mS_38, mH_38]
/- another ruling -/
def g_j1 (G : GS) (c : Int) : GS := sr G 7 (st1 (st1 (G 7) 7 c) 8 (G 7 8 + 1))
def g_judge (W G : GS) (c : Int) (n np : Nat) : GS := g_win (g_j1 G c) (ruleW W (g_j1 G c) n np)
set_option maxRecDepth 16384 in
theorem sp_40 {n np : Nat} {c : Int} (hG : isG h g hs G) (hH : isH h hs W) (hdj : hs + 4 ≤ g ∨ g + 9 ≤ hs) (hn : W 3 5 = n) (hn2 : n ≤ 28) (hp : W 3 1 = np) (hp2 : 1 ≤ np ∧ np ≤ 4) (hc : 0 ≤ c ∧ c ≤ 65535) (hm : ∀ k, k < np → 0 ≤ G 1 k ∧ 0 ≤ pipN W (G 1 k).toNat n ∧ pipN W (G 1 k).toNat n ≤ 100000) : Sp E (d + 3) 40 [.ref g, .int (z c)] h sz (rets none (blk h g 9 (GB g hs (g_judge W G c n np))) sz) := by
  obtain ⟨h0, h1, h2, h3, h4, h5, h6, h7, h8⟩ := isG_f hG
  have hH' := hH
  refine ⟨mi_40, mt_40, Nat.le_of_ble_eq_true rfl, ?_⟩
  change Rr _ _ _ _ mi_40 _ 0 [some (.ref g), some (.int (z c))] [] _ _ 0 0
  refine R_run 60 ?_
  simp only [run_s, run_0, isc, Bool.or_false, Bool.false_or, Bool.or_true, Bool.true_or, Bool.or_self, cond_false, cond_true, gl, sl, stl, stl2, c2, isw, nf, pf, lnb, tk, true_and, and_true, nsg0, nsg1, Int.cast_ofNat_Int, Int.natCast_zero, Int.natCast_one, zero_z, z_add, z_sub, z_mul, z_neg, cnd_eq, cnd_ne, cnd_lt, cnd_ge, cnd_gt, cnd_le, vok_0, vok_3r, vok_3n, vok_4, Nat.add_zero, Nat.zero_add, Nat.reduceAdd, Nat.reduceSub, Nat.reduceMod, Nat.reduceDiv, Nat.reduceEqDiff, Nat.reduceLeDiff, Nat.reduceMul, Int.reduceNeg, if_true, if_false, ite_true, ite_false, reduceIte, hup_app, Nat.add_left_cancel_iff, Nat.left_eq_add, Nat.add_eq_left, reduceCtorEq, subc_0, subc_1, subc_2, subc_3, subc_4, subc_5, subc_6, subc_7, subc_8, subc_9, subc_10, subc_11, subc_12, sube_2, sube_3, sube_5, sube_8, sube_9, sube_10, rets_ok, sI_aload_n, sI_dup, sI_getfield, sI_iadd, sI_iconst, sI_iload_n, sI_invokevirtual, sI_putfield, sI_return_, ix_40_0, ix_40_1, ix_40_2, ix_40_5, ix_40_6, ix_40_7, ix_40_10, ix_40_11, ix_40_12, ix_40_15, ix_40_16, ix_40_17, ix_40_20, ix_40_23, mC_40, mS_40, mH_40, h0, GB, vok_z2 hc.1 hc.2]
  refine R_heap (h := blk h g 9 (GB g hs (g_j1 G c))) ?_ ?_
  · refine fG_eq ⟨?_, ?_, ?_, ?_, ?_, ?_, ?_, ?_, ?_⟩ (fun q hq => ?_)
    all_goals first | (simp only [hup_app, Nat.add_left_cancel_iff, Nat.left_eq_add, Nat.add_eq_left, Nat.reduceEqDiff, reduceCtorEq, if_true, if_false, ite_true, ite_false, reduceIte, upd_z, h1, h2, h3, h4, h5, h6, h7, h8, GB, BB, sr, st1, g_j1]; done) | (simp only [hup_app, Nat.add_left_cancel_iff, Nat.left_eq_add, Nat.add_eq_left, Nat.reduceEqDiff, reduceCtorEq, if_true, if_false, ite_true, ite_false, reduceIte, upd_z, h1, h2, h3, h4, h5, h6, h7, h8, GB, BB, sr, st1, g_j1]; rfl) | ((repeat rw [hup_ne _ _ (by omega)]); done) | (rw [hup_ne _ _ (by omega)]; (repeat rw [hup_ne _ _ (by omega)]))
  · refine R_cV ix_40_17 (by decide) (by decide) rfl isG_blk.1 rfl (sp_41 (d := d) isG_blk (isH_out hH' hdj) hn hn2 hp hp2 (show 0 ≤ g_j1 G c 7 7 ∧ g_j1 G c 7 7 ≤ 65535 from hc) hm) (Nat.le_of_ble_eq_true rfl) (by rw [mcs_41, mC_40]; omega) (by rw [mcs_41, mS_40]; omega) ?_
    simp only [mcs_41, vpu, Nat.add_zero, Nat.zero_add, Nat.reduceAdd]
    have gb := isG_f (isG_blk (h := h) (g := g) (hs := hs) (G := g_j1 G c))
    generalize hB : blk h g 9 (GB g hs (g_j1 G c)) = H at gb ⊢
    obtain ⟨g0, g1, g2, g3, g4, g5, g6, g7, g8⟩ := gb
    refine R_run 60 ?_
    simp only [run_s, run_0, isc, Bool.or_false, Bool.false_or, Bool.or_true, Bool.true_or, Bool.or_self, cond_false, cond_true, gl, sl, stl, stl2, c2, isw, nf, pf, lnb, tk, true_and, and_true, nsg0, nsg1, Int.cast_ofNat_Int, Int.natCast_zero, Int.natCast_one, zero_z, z_add, z_sub, z_mul, z_neg, cnd_eq, cnd_ne, cnd_lt, cnd_ge, cnd_gt, cnd_le, vok_0, vok_3r, vok_3n, vok_4, Nat.add_zero, Nat.zero_add, Nat.reduceAdd, Nat.reduceSub, Nat.reduceMod, Nat.reduceDiv, Nat.reduceEqDiff, Nat.reduceLeDiff, Nat.reduceMul, Int.reduceNeg, if_true, if_false, ite_true, ite_false, reduceIte, hup_app, Nat.add_left_cancel_iff, Nat.left_eq_add, Nat.add_eq_left, reduceCtorEq, subc_0, subc_1, subc_2, subc_3, subc_4, subc_5, subc_6, subc_7, subc_8, subc_9, subc_10, subc_11, subc_12, sube_2, sube_3, sube_5, sube_8, sube_9, sube_10, rets_ok, sI_aload_n, sI_dup, sI_getfield, sI_iadd, sI_iconst, sI_iload_n, sI_invokevirtual, sI_putfield, sI_return_, ix_40_0, ix_40_1, ix_40_2, ix_40_5, ix_40_6, ix_40_7, ix_40_10, ix_40_11, ix_40_12, ix_40_15, ix_40_16, ix_40_17, ix_40_20, ix_40_23, mC_40, mS_40, mH_40, g0, GB]
    refine fG_eq ⟨?_, ?_, ?_, ?_, ?_, ?_, ?_, ?_, ?_⟩ (fun q hq => ?_)
    all_goals first | (simp only [hup_app, Nat.add_left_cancel_iff, Nat.left_eq_add, Nat.add_eq_left, Nat.reduceEqDiff, reduceCtorEq, if_true, if_false, ite_true, ite_false, reduceIte, upd_z, g1, g2, g3, g4, g5, g6, g7, g8, GB, BB, sr, st1, g_win, g_judge]; done) | (simp only [hup_app, Nat.add_left_cancel_iff, Nat.left_eq_add, Nat.add_eq_left, Nat.reduceEqDiff, reduceCtorEq, if_true, if_false, ite_true, ite_false, reduceIte, upd_z, g1, g2, g3, g4, g5, g6, g7, g8, GB, BB, sr, st1, g_win, g_judge]; rfl) | ((repeat rw [hup_ne _ _ (by omega)]); done) | (rw [hup_ne _ _ (by omega)]; (repeat rw [hup_ne _ _ (by omega)]))
    rw [← hB, blk_out hq]
/- a tile is laid: the line, the hand, the winner, the next -/
def g_lay (W G : GS) (t n w m : Nat) (lf : Bool) : GS :=
  sr (sr (g_add G n (W 0 t) (W 1 t) lf) 1 (st1 (G 1) w ((m &&& (2 ^ t ^^^ 4294967295) : Nat) : Int))) 7 (st1 (st1 (st1 (g_add G n (W 0 t) (W 1 t) lf 7) 4 0) 3 w) 6 (if m &&& (2 ^ t ^^^ 4294967295) = 0 then (w : Int) else G 7 6))
theorem z_m1 : z (-1) = z ((4294967295 : Nat) : Int) := by decide
set_option maxRecDepth 16384 in
theorem sp_35 {t n w m np : Nat} {lf : Bool} (hG : isG h g hs G) (hH : isH h hs W) (hdj : hs + 4 ≤ g ∨ g + 9 ≤ hs) (hn : G 7 1 = n) (hn2 : n < 28) (ht : t < 28) (hw : G 7 2 = w) (hw2 : w < 4) (hm : G 1 w = m) (hm2 : m < 2 ^ 28) (hp : W 3 1 = np) (hp2 : np ≤ 4) : Sp E (d + 3) 35 [.ref g, .int (z (t : Int)), .int (z (if lf = true then 1 else 0))] h sz (rets none (blk h g 9 (GB g hs (g_move (g_lay W G t n w m lf) np))) sz) := by
  have hG' := hG
  obtain ⟨h0, h1, h2, h3, h4, h5, h6, h7, h8⟩ := isG_f hG
  have hH' := hH
  obtain ⟨w0, w1, w2, w3⟩ := hH
  have s48 := sp_48 (E := E) (d := d + 1) (sz := sz) hH' (k := (t : Int)) (by omega) (by omega)
  have s49 := sp_49 (E := E) (d := d + 1) (sz := sz) hH' (k := (t : Int)) (by omega) (by omega)
  rw [Int.toNat_natCast] at s48 s49
  refine ⟨mi_35, mt_35, Nat.le_of_ble_eq_true rfl, ?_⟩
  change Rr _ _ _ _ mi_35 _ 0 [some (.ref g), some (.int (z (t : Int))), some (.int (z (if lf = true then 1 else 0)))] [] _ _ 0 0
  refine R_run 60 ?_
  simp only [run_s, run_0, isc, Bool.or_false, Bool.false_or, Bool.or_true, Bool.true_or, Bool.or_self, cond_false, cond_true, gl, sl, stl, stl2, c2, isw, nf, pf, lnb, tk, true_and, and_true, nsg0, nsg1, Int.cast_ofNat_Int, Int.natCast_zero, Int.natCast_one, zero_z, z_add, z_sub, z_mul, z_neg, cnd_eq, cnd_ne, cnd_lt, cnd_ge, cnd_gt, cnd_le, vok_0, vok_3r, vok_3n, vok_4, Nat.add_zero, Nat.zero_add, Nat.reduceAdd, Nat.reduceSub, Nat.reduceMod, Nat.reduceDiv, Nat.reduceEqDiff, Nat.reduceLeDiff, Nat.reduceMul, Int.reduceNeg, if_true, if_false, ite_true, ite_false, reduceIte, hup_app, Nat.add_left_cancel_iff, Nat.left_eq_add, Nat.add_eq_left, reduceCtorEq, subc_0, subc_1, subc_2, subc_3, subc_4, subc_5, subc_6, subc_7, subc_8, subc_9, subc_10, subc_11, subc_12, sube_2, sube_3, sube_5, sube_8, sube_9, sube_10, rets_ok, sI_aload_n, sI_dup2, sI_getfield, sI_iaload, sI_iand, sI_iastore, sI_iconst, sI_ifCond, sI_if_icmp, sI_iload_n, sI_invokevirtual, sI_ishl, sI_ixor, sI_putfield, sI_return_, ix_35_0, ix_35_1, ix_35_2, ix_35_5, ix_35_6, ix_35_9, ix_35_10, ix_35_13, ix_35_14, ix_35_17, ix_35_18, ix_35_21, ix_35_22, ix_35_23, ix_35_26, ix_35_27, ix_35_30, ix_35_33, ix_35_34, ix_35_37, ix_35_38, ix_35_41, ix_35_42, ix_35_43, ix_35_46, ix_35_49, ix_35_50, ix_35_53, ix_35_54, ix_35_57, ix_35_58, ix_35_59, ix_35_60, ix_35_61, ix_35_62, ix_35_63, ix_35_64, ix_35_65, ix_35_66, ix_35_67, ix_35_70, ix_35_71, ix_35_74, ix_35_75, ix_35_78, ix_35_79, ix_35_80, ix_35_83, ix_35_86, ix_35_87, ix_35_90, mC_35, mS_35, mH_35, h0, GB]
  refine R_cV ix_35_6 (by decide) (by decide) rfl w0 rfl (s48) (Nat.le_of_ble_eq_true rfl) (by rw [mcs_48, mC_35]; omega) (by rw [mcs_48, mS_35]; omega) ?_
  simp only [mcs_48, vpu, Nat.add_zero, Nat.zero_add, Nat.reduceAdd]
  refine R_run 60 ?_
  simp only [run_s, run_0, isc, Bool.or_false, Bool.false_or, Bool.or_true, Bool.true_or, Bool.or_self, cond_false, cond_true, gl, sl, stl, stl2, c2, isw, nf, pf, lnb, tk, true_and, and_true, nsg0, nsg1, Int.cast_ofNat_Int, Int.natCast_zero, Int.natCast_one, zero_z, z_add, z_sub, z_mul, z_neg, cnd_eq, cnd_ne, cnd_lt, cnd_ge, cnd_gt, cnd_le, vok_0, vok_3r, vok_3n, vok_4, Nat.add_zero, Nat.zero_add, Nat.reduceAdd, Nat.reduceSub, Nat.reduceMod, Nat.reduceDiv, Nat.reduceEqDiff, Nat.reduceLeDiff, Nat.reduceMul, Int.reduceNeg, if_true, if_false, ite_true, ite_false, reduceIte, hup_app, Nat.add_left_cancel_iff, Nat.left_eq_add, Nat.add_eq_left, reduceCtorEq, subc_0, subc_1, subc_2, subc_3, subc_4, subc_5, subc_6, subc_7, subc_8, subc_9, subc_10, subc_11, subc_12, sube_2, sube_3, sube_5, sube_8, sube_9, sube_10, rets_ok, sI_aload_n, sI_dup2, sI_getfield, sI_iaload, sI_iand, sI_iastore, sI_iconst, sI_ifCond, sI_if_icmp, sI_iload_n, sI_invokevirtual, sI_ishl, sI_ixor, sI_putfield, sI_return_, ix_35_0, ix_35_1, ix_35_2, ix_35_5, ix_35_6, ix_35_9, ix_35_10, ix_35_13, ix_35_14, ix_35_17, ix_35_18, ix_35_21, ix_35_22, ix_35_23, ix_35_26, ix_35_27, ix_35_30, ix_35_33, ix_35_34, ix_35_37, ix_35_38, ix_35_41, ix_35_42, ix_35_43, ix_35_46, ix_35_49, ix_35_50, ix_35_53, ix_35_54, ix_35_57, ix_35_58, ix_35_59, ix_35_60, ix_35_61, ix_35_62, ix_35_63, ix_35_64, ix_35_65, ix_35_66, ix_35_67, ix_35_70, ix_35_71, ix_35_74, ix_35_75, ix_35_78, ix_35_79, ix_35_80, ix_35_83, ix_35_86, ix_35_87, ix_35_90, mC_35, mS_35, mH_35, h0, GB]
  refine R_cV ix_35_14 (by decide) (by decide) rfl w0 rfl (s49) (Nat.le_of_ble_eq_true rfl) (by rw [mcs_49, mC_35]; omega) (by rw [mcs_49, mS_35]; omega) ?_
  simp only [mcs_49, vpu, Nat.add_zero, Nat.zero_add, Nat.reduceAdd]
  refine R_run 60 ?_
  simp only [run_s, run_0, isc, Bool.or_false, Bool.false_or, Bool.or_true, Bool.true_or, Bool.or_self, cond_false, cond_true, gl, sl, stl, stl2, c2, isw, nf, pf, lnb, tk, true_and, and_true, nsg0, nsg1, Int.cast_ofNat_Int, Int.natCast_zero, Int.natCast_one, zero_z, z_add, z_sub, z_mul, z_neg, cnd_eq, cnd_ne, cnd_lt, cnd_ge, cnd_gt, cnd_le, vok_0, vok_3r, vok_3n, vok_4, Nat.add_zero, Nat.zero_add, Nat.reduceAdd, Nat.reduceSub, Nat.reduceMod, Nat.reduceDiv, Nat.reduceEqDiff, Nat.reduceLeDiff, Nat.reduceMul, Int.reduceNeg, if_true, if_false, ite_true, ite_false, reduceIte, hup_app, Nat.add_left_cancel_iff, Nat.left_eq_add, Nat.add_eq_left, reduceCtorEq, subc_0, subc_1, subc_2, subc_3, subc_4, subc_5, subc_6, subc_7, subc_8, subc_9, subc_10, subc_11, subc_12, sube_2, sube_3, sube_5, sube_8, sube_9, sube_10, rets_ok, sI_aload_n, sI_dup2, sI_getfield, sI_iaload, sI_iand, sI_iastore, sI_iconst, sI_ifCond, sI_if_icmp, sI_iload_n, sI_invokevirtual, sI_ishl, sI_ixor, sI_putfield, sI_return_, ix_35_0, ix_35_1, ix_35_2, ix_35_5, ix_35_6, ix_35_9, ix_35_10, ix_35_13, ix_35_14, ix_35_17, ix_35_18, ix_35_21, ix_35_22, ix_35_23, ix_35_26, ix_35_27, ix_35_30, ix_35_33, ix_35_34, ix_35_37, ix_35_38, ix_35_41, ix_35_42, ix_35_43, ix_35_46, ix_35_49, ix_35_50, ix_35_53, ix_35_54, ix_35_57, ix_35_58, ix_35_59, ix_35_60, ix_35_61, ix_35_62, ix_35_63, ix_35_64, ix_35_65, ix_35_66, ix_35_67, ix_35_70, ix_35_71, ix_35_74, ix_35_75, ix_35_78, ix_35_79, ix_35_80, ix_35_83, ix_35_86, ix_35_87, ix_35_90, mC_35, mS_35, mH_35]
  refine R_cV ix_35_18 (by decide) (by decide) rfl h0 rfl (sp_36 (d := d) (lf := lf) hG' hn hn2) (Nat.le_of_ble_eq_true rfl) (by rw [mcs_36, mC_35]; omega) (by rw [mcs_36, mS_35]; omega) ?_
  simp only [mcs_36, vpu, Nat.add_zero, Nat.zero_add, Nat.reduceAdd]
  have gb := isG_f (isG_blk (h := h) (g := g) (hs := hs) (G := g_add G n (W 0 t) (W 1 t) lf))
  generalize hB : blk h g 9 (GB g hs (g_add G n (W 0 t) (W 1 t) lf)) = H at gb ⊢
  obtain ⟨g0, g1, g2, g3, g4, g5, g6, g7, g8⟩ := gb
  have a1 : g_add G n (W 0 t) (W 1 t) lf 7 2 = w := hw
  have a2 : ∀ k, g_add G n (W 0 t) (W 1 t) lf 1 k = G 1 k := fun _ => rfl
  refine R_run 60 ?_
  simp only [run_s, run_0, isc, Bool.or_false, Bool.false_or, Bool.or_true, Bool.true_or, Bool.or_self, cond_false, cond_true, gl, sl, stl, stl2, c2, isw, nf, pf, lnb, tk, true_and, and_true, nsg0, nsg1, Int.cast_ofNat_Int, Int.natCast_zero, Int.natCast_one, zero_z, z_add, z_sub, z_mul, z_neg, cnd_eq, cnd_ne, cnd_lt, cnd_ge, cnd_gt, cnd_le, vok_0, vok_3r, vok_3n, vok_4, Nat.add_zero, Nat.zero_add, Nat.reduceAdd, Nat.reduceSub, Nat.reduceMod, Nat.reduceDiv, Nat.reduceEqDiff, Nat.reduceLeDiff, Nat.reduceMul, Int.reduceNeg, if_true, if_false, ite_true, ite_false, reduceIte, hup_app, Nat.add_left_cancel_iff, Nat.left_eq_add, Nat.add_eq_left, reduceCtorEq, subc_0, subc_1, subc_2, subc_3, subc_4, subc_5, subc_6, subc_7, subc_8, subc_9, subc_10, subc_11, subc_12, sube_2, sube_3, sube_5, sube_8, sube_9, sube_10, rets_ok, sI_aload_n, sI_dup2, sI_getfield, sI_iaload, sI_iand, sI_iastore, sI_iconst, sI_ifCond, sI_if_icmp, sI_iload_n, sI_invokevirtual, sI_ishl, sI_ixor, sI_putfield, sI_return_, ix_35_0, ix_35_1, ix_35_2, ix_35_5, ix_35_6, ix_35_9, ix_35_10, ix_35_13, ix_35_14, ix_35_17, ix_35_18, ix_35_21, ix_35_22, ix_35_23, ix_35_26, ix_35_27, ix_35_30, ix_35_33, ix_35_34, ix_35_37, ix_35_38, ix_35_41, ix_35_42, ix_35_43, ix_35_46, ix_35_49, ix_35_50, ix_35_53, ix_35_54, ix_35_57, ix_35_58, ix_35_59, ix_35_60, ix_35_61, ix_35_62, ix_35_63, ix_35_64, ix_35_65, ix_35_66, ix_35_67, ix_35_70, ix_35_71, ix_35_74, ix_35_75, ix_35_78, ix_35_79, ix_35_80, ix_35_83, ix_35_86, ix_35_87, ix_35_90, mC_35, mS_35, mH_35, g0, g2, GB, a1]
  rw [z_31, z_shl1 (by omega), z_m1, z_xor]
  simp (disch := omega) only [z_lt, z_le, z_eq, z_in, z_nat, Int.toNat_natCast, upd_z, z_l, zl_0, zl_add, zl_sub, zl_mul, zl_i, zl_eq, zl_div, Int.reduceLT, Int.reduceLE, Int.reduceToNat, Nat.reduceAdd, Nat.reduceLeDiff, not_false_eq_true, true_and, and_true, a2, hm]
  rw [z_and]
  have hle : m &&& (2 ^ t ^^^ 4294967295) ≤ m := Nat.and_le_left
  have hz : z ((m &&& (2 ^ t ^^^ 4294967295) : Nat) : Int) = z 0 ↔ m &&& (2 ^ t ^^^ 4294967295) = 0 := by
    rw [z_lit0, ← nI_z, ← nI_z]
    exact nI_eq (by omega) (by decide)
  simp only [upd_z, st1_eq, hz]
  have fin2 : ∀ (H' : AH), H' = blk h g 9 (GB g hs (g_lay W G t n w m lf)) → Rr E (mcsT mtab) (SpT mtab E (d + 2)) (d + 2) mi_35 (rets none (blk h g 9 (GB g hs (g_move (g_lay W G t n w m lf) np))) sz) 87 [some (.ref g), some (.int (z (t : Int))), some (.int (z (if lf = true then 1 else 0)))] [.ref g] H' sz 0 0 := by
    intro H' e
    refine R_heap e ?_
    refine R_cV ix_35_87 (by decide) (by decide) rfl isG_blk.1 rfl (sp_39m (d := d + 1) isG_blk (isH_out hH' hdj) (show g_lay W G t n w m lf 7 2 = w from hw) hp (by omega) (by omega)) (Nat.le_of_ble_eq_true rfl) (by rw [mcs_39, mC_35]; omega) (by rw [mcs_39, mS_35]; omega) ?_
    simp only [mcs_39, vpu, Nat.add_zero, Nat.zero_add, Nat.reduceAdd]
    rw [blk_blk]
    refine R_run 60 ?_
    simp only [run_s, run_0, isc, Bool.or_false, Bool.false_or, Bool.or_true, Bool.true_or, Bool.or_self, cond_false, cond_true, gl, sl, stl, stl2, c2, isw, nf, pf, lnb, tk, true_and, and_true, nsg0, nsg1, Int.cast_ofNat_Int, Int.natCast_zero, Int.natCast_one, zero_z, z_add, z_sub, z_mul, z_neg, cnd_eq, cnd_ne, cnd_lt, cnd_ge, cnd_gt, cnd_le, vok_0, vok_3r, vok_3n, vok_4, Nat.add_zero, Nat.zero_add, Nat.reduceAdd, Nat.reduceSub, Nat.reduceMod, Nat.reduceDiv, Nat.reduceEqDiff, Nat.reduceLeDiff, Nat.reduceMul, Int.reduceNeg, if_true, if_false, ite_true, ite_false, reduceIte, hup_app, Nat.add_left_cancel_iff, Nat.left_eq_add, Nat.add_eq_left, reduceCtorEq, subc_0, subc_1, subc_2, subc_3, subc_4, subc_5, subc_6, subc_7, subc_8, subc_9, subc_10, subc_11, subc_12, sube_2, sube_3, sube_5, sube_8, sube_9, sube_10, rets_ok, sI_aload_n, sI_dup2, sI_getfield, sI_iaload, sI_iand, sI_iastore, sI_iconst, sI_ifCond, sI_if_icmp, sI_iload_n, sI_invokevirtual, sI_ishl, sI_ixor, sI_putfield, sI_return_, ix_35_0, ix_35_1, ix_35_2, ix_35_5, ix_35_6, ix_35_9, ix_35_10, ix_35_13, ix_35_14, ix_35_17, ix_35_18, ix_35_21, ix_35_22, ix_35_23, ix_35_26, ix_35_27, ix_35_30, ix_35_33, ix_35_34, ix_35_37, ix_35_38, ix_35_41, ix_35_42, ix_35_43, ix_35_46, ix_35_49, ix_35_50, ix_35_53, ix_35_54, ix_35_57, ix_35_58, ix_35_59, ix_35_60, ix_35_61, ix_35_62, ix_35_63, ix_35_64, ix_35_65, ix_35_66, ix_35_67, ix_35_70, ix_35_71, ix_35_74, ix_35_75, ix_35_78, ix_35_79, ix_35_80, ix_35_83, ix_35_86, ix_35_87, ix_35_90, mC_35, mS_35, mH_35]
  refine ⟨fun q => absurd q (by omega), fun _ => ⟨fun q => absurd q (by omega), fun _ => ⟨by omega, by omega, by omega, fun q => ?_, fun q => ?_⟩⟩⟩
  · refine fin2 _ (fG_eq ⟨?_, ?_, ?_, ?_, ?_, ?_, ?_, ?_, ?_⟩ (fun q hq => ?_))
    all_goals first | (simp only [hup_app, Nat.add_left_cancel_iff, Nat.left_eq_add, Nat.add_eq_left, Nat.reduceEqDiff, reduceCtorEq, if_true, if_false, ite_true, ite_false, reduceIte, upd_z, g1, g2, g3, g4, g5, g6, g7, g8, GB, BB, sr, st1, g_lay, a1, a2, q]; done) | (simp only [hup_app, Nat.add_left_cancel_iff, Nat.left_eq_add, Nat.add_eq_left, Nat.reduceEqDiff, reduceCtorEq, if_true, if_false, ite_true, ite_false, reduceIte, upd_z, g1, g2, g3, g4, g5, g6, g7, g8, GB, BB, sr, st1, g_lay, a1, a2, q]; rfl) | ((repeat rw [hup_ne _ _ (by omega)]); done) | (rw [hup_ne _ _ (by omega)]; (repeat rw [hup_ne _ _ (by omega)]))
    rw [← hB, blk_out hq]
  · have q' := Classical.not_not.mp q
    refine fin2 _ (fG_eq ⟨?_, ?_, ?_, ?_, ?_, ?_, ?_, ?_, ?_⟩ (fun q hq => ?_))
    all_goals first | (simp only [hup_app, Nat.add_left_cancel_iff, Nat.left_eq_add, Nat.add_eq_left, Nat.reduceEqDiff, reduceCtorEq, if_true, if_false, ite_true, ite_false, reduceIte, upd_z, g1, g2, g3, g4, g5, g6, g7, g8, GB, BB, sr, st1, g_lay, a1, a2, q']; done) | (simp only [hup_app, Nat.add_left_cancel_iff, Nat.left_eq_add, Nat.add_eq_left, Nat.reduceEqDiff, reduceCtorEq, if_true, if_false, ite_true, ite_false, reduceIte, upd_z, g1, g2, g3, g4, g5, g6, g7, g8, GB, BB, sr, st1, g_lay, a1, a2, q']; rfl) | ((repeat rw [hup_ne _ _ (by omega)]); done) | (rw [hup_ne _ _ (by omega)]; (repeat rw [hup_ne _ _ (by omega)]))
    rw [← hB, blk_out hq]
end GAME3
