section RDD
variable {E : EX} {d : Nat} {h : AH} {sz x nh g : Nat} {ha : Nat → Nat} {N : TT} {H : HT} {fl rf uf ue : Int}
set_option maxRecDepth 16384 in
theorem sp_85y (hX : h x = some (.inr (11, XF x fl rf uf ue))) (hT : isT h (x + 8) ha N) (hV : TV H nh N) (hg : (g : Int) < N 6 1 1) (hw : N g 7 6 = -2) : Sp E (d + 20) 85 [.ref x, .int (z (g : Int))] h sz (rets (some (.int (z (N g 7 2)))) h sz) := by
  have hg6 := hV.1
  have gv := (hV.2 g hg).2.1.1
  have hG := isT_g hT (i := g) (by omega)
  have s24 := sp_24 (E := E) (d := d + 18) (sz := sz) hG (by omega)
  rw [if_pos hw] at s24
  refine ⟨mi_85, mt_85, Nat.le_of_ble_eq_true rfl, ?_⟩
  change Rr _ _ _ _ mi_85 _ 0 [some (.ref x), some (.int (z (g : Int))), none] [] _ _ 0 0
  refine R_run 60 ?_
  simp only [run_s, run_0, isc, Bool.or_false, Bool.false_or, Bool.or_true, Bool.true_or, Bool.or_self, cond_false, cond_true, gl, sl, stl, stl2, c2, isw, nf, pf, lnb, tk, true_and, and_true, nsg0, nsg1, Int.cast_ofNat_Int, Int.natCast_zero, Int.natCast_one, zero_z, z_add, z_sub, z_mul, z_neg, cnd_eq, cnd_ne, cnd_lt, cnd_ge, cnd_gt, cnd_le, vok_0, vok_3r, vok_3n, vok_4, Nat.add_zero, Nat.zero_add, Nat.reduceAdd, Nat.reduceSub, Nat.reduceMod, Nat.reduceDiv, Nat.reduceEqDiff, Nat.reduceLeDiff, Nat.reduceMul, Int.reduceNeg, if_true, if_false, ite_true, ite_false, reduceIte, hup_app, Nat.add_left_cancel_iff, Nat.left_eq_add, Nat.add_eq_left, reduceCtorEq, subc_0, subc_1, subc_2, subc_3, subc_4, subc_5, subc_6, subc_7, subc_8, subc_9, subc_10, subc_11, subc_12, sube_2, sube_3, sube_5, sube_8, sube_9, sube_10, rets_ok, va_rfs, true_or, or_true, or_false, false_or, sI_aload_n, sI_astore_n, sI_getfield, sI_ifCond, sI_iload_n, sI_invokevirtual, sI_ireturn, sI_new, ix_85_0, ix_85_1, ix_85_2, ix_85_5, ix_85_6, ix_85_7, ix_85_10, ix_85_13, ix_85_23, ix_85_24, ix_85_27, mC_85, mS_85, mH_85]
  refine R_cV ix_85_2 (by decide) (by decide) rfl (hX) rfl (sp_116y (d := d + 10) hX hT hV hg) (Nat.le_of_ble_eq_true rfl) (by rw [mcs_116, mC_85]; omega) (by rw [mcs_116, mS_85]; omega) ?_
  simp only [mcs_116, vpu, Nat.add_zero, Nat.zero_add, Nat.reduceAdd]
  refine R_run 60 ?_
  simp only [run_s, run_0, isc, Bool.or_false, Bool.false_or, Bool.or_true, Bool.true_or, Bool.or_self, cond_false, cond_true, gl, sl, stl, stl2, c2, isw, nf, pf, lnb, tk, true_and, and_true, nsg0, nsg1, Int.cast_ofNat_Int, Int.natCast_zero, Int.natCast_one, zero_z, z_add, z_sub, z_mul, z_neg, cnd_eq, cnd_ne, cnd_lt, cnd_ge, cnd_gt, cnd_le, vok_0, vok_3r, vok_3n, vok_4, Nat.add_zero, Nat.zero_add, Nat.reduceAdd, Nat.reduceSub, Nat.reduceMod, Nat.reduceDiv, Nat.reduceEqDiff, Nat.reduceLeDiff, Nat.reduceMul, Int.reduceNeg, if_true, if_false, ite_true, ite_false, reduceIte, hup_app, Nat.add_left_cancel_iff, Nat.left_eq_add, Nat.add_eq_left, reduceCtorEq, subc_0, subc_1, subc_2, subc_3, subc_4, subc_5, subc_6, subc_7, subc_8, subc_9, subc_10, subc_11, subc_12, sube_2, sube_3, sube_5, sube_8, sube_9, sube_10, rets_ok, va_rfs, true_or, or_true, or_false, false_or, sI_aload_n, sI_astore_n, sI_getfield, sI_ifCond, sI_iload_n, sI_invokevirtual, sI_ireturn, sI_new, ix_85_0, ix_85_1, ix_85_2, ix_85_5, ix_85_6, ix_85_7, ix_85_10, ix_85_13, ix_85_23, ix_85_24, ix_85_27, mC_85, mS_85, mH_85]
  refine R_cV ix_85_7 (by decide) (by decide) rfl (hG.1) rfl (s24) (Nat.le_of_ble_eq_true rfl) (by rw [mcs_24, mC_85]; omega) (by rw [mcs_24, mS_85]; omega) ?_
  simp only [mcs_24, vpu, Nat.add_zero, Nat.zero_add, Nat.reduceAdd]
  refine R_run 60 ?_
  simp only [run_s, run_0, isc, Bool.or_false, Bool.false_or, Bool.or_true, Bool.true_or, Bool.or_self, cond_false, cond_true, gl, sl, stl, stl2, c2, isw, nf, pf, lnb, tk, true_and, and_true, nsg0, nsg1, Int.cast_ofNat_Int, Int.natCast_zero, Int.natCast_one, zero_z, z_add, z_sub, z_mul, z_neg, cnd_eq, cnd_ne, cnd_lt, cnd_ge, cnd_gt, cnd_le, vok_0, vok_3r, vok_3n, vok_4, Nat.add_zero, Nat.zero_add, Nat.reduceAdd, Nat.reduceSub, Nat.reduceMod, Nat.reduceDiv, Nat.reduceEqDiff, Nat.reduceLeDiff, Nat.reduceMul, Int.reduceNeg, if_true, if_false, ite_true, ite_false, reduceIte, hup_app, Nat.add_left_cancel_iff, Nat.left_eq_add, Nat.add_eq_left, reduceCtorEq, subc_0, subc_1, subc_2, subc_3, subc_4, subc_5, subc_6, subc_7, subc_8, subc_9, subc_10, subc_11, subc_12, sube_2, sube_3, sube_5, sube_8, sube_9, sube_10, rets_ok, va_rfs, true_or, or_true, or_false, false_or, sI_aload_n, sI_astore_n, sI_getfield, sI_ifCond, sI_iload_n, sI_invokevirtual, sI_ireturn, sI_new, ix_85_0, ix_85_1, ix_85_2, ix_85_5, ix_85_6, ix_85_7, ix_85_10, ix_85_13, ix_85_23, ix_85_24, ix_85_27, mC_85, mS_85, mH_85, hG.1, GB]
  try simp (disch := omega) only [z_lt, z_le, z_eq, z_in, z_nat, Int.toNat_natCast, upd_z, z_l, zl_0, zl_add, zl_sub, zl_mul, zl_i, zl_eq, zl_div, Int.reduceLT, Int.reduceLE, Int.reduceToNat, Nat.reduceAdd, Nat.reduceLeDiff, not_false_eq_true, true_and, and_true]
  repeat' (first | (with_reducible refine ⟨?_, ?_⟩) | (with_reducible intro _))
  all_goals try (first | exact True.intro | with_reducible rfl | exact absurd True.intro (by assumption) | omega | (exfalso; omega) | (rw [if_pos (by omega)]; done) | (rw [if_neg (by omega)]; done))
set_option maxRecDepth 16384 in
theorem sp_85o (hX : h x = some (.inr (11, XF x fl rf uf ue))) (hT : isT h (x + 8) ha N) (hV : TV H nh N) (hH : hsOK H nh) (hg : (g : Int) < N 6 1 1) (hw : N g 7 6 ≠ -2) : Sp E (d + 20) 85 [.ref x, .int (z (g : Int))] h sz (thrs eISE h sz) := by
  have hg6 := hV.1
  obtain ⟨a1, a2, a3⟩ := hV.2 g hg
  have gv := a2.1.2.2.2.2.2.2.2.1
  have hp1 := (hH.2 (hxi N g) (by unfold hxi; omega)).2.1
  have hG := isT_g hT (i := g) (by omega)
  have s24 := sp_24 (E := E) (d := d + 18) (sz := sz) hG (by omega)
  rw [if_neg hw] at s24
  refine ⟨mi_85, mt_85, Nat.le_of_ble_eq_true rfl, ?_⟩
  change Rr _ _ _ _ mi_85 _ 0 [some (.ref x), some (.int (z (g : Int))), none] [] _ _ 0 0
  refine R_run 60 ?_
  simp only [run_s, run_0, isc, Bool.or_false, Bool.false_or, Bool.or_true, Bool.true_or, Bool.or_self, cond_false, cond_true, gl, sl, stl, stl2, c2, isw, nf, pf, lnb, tk, true_and, and_true, nsg0, nsg1, Int.cast_ofNat_Int, Int.natCast_zero, Int.natCast_one, zero_z, z_add, z_sub, z_mul, z_neg, cnd_eq, cnd_ne, cnd_lt, cnd_ge, cnd_gt, cnd_le, vok_0, vok_3r, vok_3n, vok_4, Nat.add_zero, Nat.zero_add, Nat.reduceAdd, Nat.reduceSub, Nat.reduceMod, Nat.reduceDiv, Nat.reduceEqDiff, Nat.reduceLeDiff, Nat.reduceMul, Int.reduceNeg, if_true, if_false, ite_true, ite_false, reduceIte, hup_app, Nat.add_left_cancel_iff, Nat.left_eq_add, Nat.add_eq_left, reduceCtorEq, subc_0, subc_1, subc_2, subc_3, subc_4, subc_5, subc_6, subc_7, subc_8, subc_9, subc_10, subc_11, subc_12, sube_2, sube_3, sube_5, sube_8, sube_9, sube_10, rets_ok, va_rfs, true_or, or_true, or_false, false_or, sI_aload_n, sI_astore_n, sI_getfield, sI_ifCond, sI_iload_n, sI_invokevirtual, sI_ireturn, sI_new, ix_85_0, ix_85_1, ix_85_2, ix_85_5, ix_85_6, ix_85_7, ix_85_10, ix_85_13, ix_85_23, ix_85_24, ix_85_27, mC_85, mS_85, mH_85]
  refine R_cV ix_85_2 (by decide) (by decide) rfl (hX) rfl (sp_116y (d := d + 10) hX hT hV hg) (Nat.le_of_ble_eq_true rfl) (by rw [mcs_116, mC_85]; omega) (by rw [mcs_116, mS_85]; omega) ?_
  simp only [mcs_116, vpu, Nat.add_zero, Nat.zero_add, Nat.reduceAdd]
  refine R_run 60 ?_
  simp only [run_s, run_0, isc, Bool.or_false, Bool.false_or, Bool.or_true, Bool.true_or, Bool.or_self, cond_false, cond_true, gl, sl, stl, stl2, c2, isw, nf, pf, lnb, tk, true_and, and_true, nsg0, nsg1, Int.cast_ofNat_Int, Int.natCast_zero, Int.natCast_one, zero_z, z_add, z_sub, z_mul, z_neg, cnd_eq, cnd_ne, cnd_lt, cnd_ge, cnd_gt, cnd_le, vok_0, vok_3r, vok_3n, vok_4, Nat.add_zero, Nat.zero_add, Nat.reduceAdd, Nat.reduceSub, Nat.reduceMod, Nat.reduceDiv, Nat.reduceEqDiff, Nat.reduceLeDiff, Nat.reduceMul, Int.reduceNeg, if_true, if_false, ite_true, ite_false, reduceIte, hup_app, Nat.add_left_cancel_iff, Nat.left_eq_add, Nat.add_eq_left, reduceCtorEq, subc_0, subc_1, subc_2, subc_3, subc_4, subc_5, subc_6, subc_7, subc_8, subc_9, subc_10, subc_11, subc_12, sube_2, sube_3, sube_5, sube_8, sube_9, sube_10, rets_ok, va_rfs, true_or, or_true, or_false, false_or, sI_aload_n, sI_astore_n, sI_getfield, sI_ifCond, sI_iload_n, sI_invokevirtual, sI_ireturn, sI_new, ix_85_0, ix_85_1, ix_85_2, ix_85_5, ix_85_6, ix_85_7, ix_85_10, ix_85_13, ix_85_23, ix_85_24, ix_85_27, mC_85, mS_85, mH_85]
  refine R_cV ix_85_7 (by decide) (by decide) rfl (hG.1) rfl (s24) (Nat.le_of_ble_eq_true rfl) (by rw [mcs_24, mC_85]; omega) (by rw [mcs_24, mS_85]; omega) ?_
  simp only [mcs_24, vpu, Nat.add_zero, Nat.zero_add, Nat.reduceAdd]
  refine R_run 60 ?_
  simp only [run_s, run_0, isc, Bool.or_false, Bool.false_or, Bool.or_true, Bool.true_or, Bool.or_self, cond_false, cond_true, gl, sl, stl, stl2, c2, isw, nf, pf, lnb, tk, true_and, and_true, nsg0, nsg1, Int.cast_ofNat_Int, Int.natCast_zero, Int.natCast_one, zero_z, z_add, z_sub, z_mul, z_neg, cnd_eq, cnd_ne, cnd_lt, cnd_ge, cnd_gt, cnd_le, vok_0, vok_3r, vok_3n, vok_4, Nat.add_zero, Nat.zero_add, Nat.reduceAdd, Nat.reduceSub, Nat.reduceMod, Nat.reduceDiv, Nat.reduceEqDiff, Nat.reduceLeDiff, Nat.reduceMul, Int.reduceNeg, if_true, if_false, ite_true, ite_false, reduceIte, hup_app, Nat.add_left_cancel_iff, Nat.left_eq_add, Nat.add_eq_left, reduceCtorEq, subc_0, subc_1, subc_2, subc_3, subc_4, subc_5, subc_6, subc_7, subc_8, subc_9, subc_10, subc_11, subc_12, sube_2, sube_3, sube_5, sube_8, sube_9, sube_10, rets_ok, va_rfs, true_or, or_true, or_false, false_or, sI_aload_n, sI_astore_n, sI_getfield, sI_ifCond, sI_iload_n, sI_invokevirtual, sI_ireturn, sI_new, ix_85_0, ix_85_1, ix_85_2, ix_85_5, ix_85_6, ix_85_7, ix_85_10, ix_85_13, ix_85_23, ix_85_24, ix_85_27, mC_85, mS_85, mH_85]
  try simp (disch := omega) only [z_lt, z_le, z_eq, z_in, z_nat, Int.toNat_natCast, upd_z, z_l, zl_0, zl_add, zl_sub, zl_mul, zl_i, zl_eq, zl_div, Int.reduceLT, Int.reduceLE, Int.reduceToNat, Nat.reduceAdd, Nat.reduceLeDiff, not_false_eq_true, true_and, and_true]
  refine ⟨fun q => absurd q (by decide), fun _ => ?_⟩
  repeat' (first | (with_reducible refine ⟨?_, ?_⟩) | fail)
  all_goals first | exact fun sz2 hs2 => ⟨rfl, rfl, by omega⟩ | exact Nat.le_of_ble_eq_true rfl | omega
set_option maxRecDepth 16384 in
theorem sp_86y {p : Nat} (hX : h x = some (.inr (11, XF x fl rf uf ue))) (hT : isT h (x + 8) ha N) (hV : TV H nh N) (hH : hsOK H nh) (hkk : ∀ i, i < nh → isH h (ha i) (WH (H i))) (hg : (g : Int) < N 6 1 1) (hp : p < H (hxi N g) 1) : Sp E (d + 20) 86 [.ref x, .int (z (g : Int)), .int (z (p : Int))] h sz (rets (some (.long (zl (N g 1 p)))) h sz) := by
  have hg6 := hV.1
  obtain ⟨a1, a2, a3⟩ := hV.2 g hg
  have hP := hH.2 (hxi N g) (by unfold hxi; omega)
  have hsz := szP_b hP
  have hp1 := hP.2.1
  have s1 := a2.1
  obtain ⟨v0, v1, v2, v3, v4, v5, v6, v7, v8, v9, v10⟩ := id s1
  have hG := isT_g hT (i := g) (by omega)
  have hW : isH h (ha (N g 7 11).toNat) (WH (H (hxi N g))) := hkk (hxi N g) (by unfold hxi; omega)
  have hh := hand_28 hP a2 hp
  have hh0 := (a2.2.2.1 p hp).1
  have s23 := sp_23 (E := E) (d := d + 18) (sz := sz) (k := (p : Int)) hG hW (by omega) (by rw [WH_1]; omega)
  rw [WH_1, if_pos (by omega)] at s23
  have s25 := sp_25 (E := E) (d := d + 18) (sz := sz) (k := (p : Int)) hG (by omega)
  rw [if_pos (by omega), Int.toNat_natCast] at s25
  refine ⟨mi_86, mt_86, Nat.le_of_ble_eq_true rfl, ?_⟩
  change Rr _ _ _ _ mi_86 _ 0 [some (.ref x), some (.int (z (g : Int))), some (.int (z (p : Int))), none] [] _ _ 0 0
  refine R_run 60 ?_
  simp only [run_s, run_0, isc, Bool.or_false, Bool.false_or, Bool.or_true, Bool.true_or, Bool.or_self, cond_false, cond_true, gl, sl, stl, stl2, c2, isw, nf, pf, lnb, tk, true_and, and_true, nsg0, nsg1, Int.cast_ofNat_Int, Int.natCast_zero, Int.natCast_one, zero_z, z_add, z_sub, z_mul, z_neg, cnd_eq, cnd_ne, cnd_lt, cnd_ge, cnd_gt, cnd_le, vok_0, vok_3r, vok_3n, vok_4, Nat.add_zero, Nat.zero_add, Nat.reduceAdd, Nat.reduceSub, Nat.reduceMod, Nat.reduceDiv, Nat.reduceEqDiff, Nat.reduceLeDiff, Nat.reduceMul, Int.reduceNeg, if_true, if_false, ite_true, ite_false, reduceIte, hup_app, Nat.add_left_cancel_iff, Nat.left_eq_add, Nat.add_eq_left, reduceCtorEq, subc_0, subc_1, subc_2, subc_3, subc_4, subc_5, subc_6, subc_7, subc_8, subc_9, subc_10, subc_11, subc_12, sube_2, sube_3, sube_5, sube_8, sube_9, sube_10, rets_ok, va_rfs, true_or, or_true, or_false, false_or, sI_aload_n, sI_astore_n, sI_i2l, sI_ifCond, sI_iload_n, sI_invokevirtual, sI_lreturn, sI_new, ix_86_0, ix_86_1, ix_86_2, ix_86_5, ix_86_6, ix_86_7, ix_86_8, ix_86_11, ix_86_14, ix_86_24, ix_86_25, ix_86_26, ix_86_29, ix_86_30, mC_86, mS_86, mH_86]
  refine R_cV ix_86_2 (by decide) (by decide) rfl (hX) rfl (sp_116y (d := d + 10) hX hT hV hg) (Nat.le_of_ble_eq_true rfl) (by rw [mcs_116, mC_86]; omega) (by rw [mcs_116, mS_86]; omega) ?_
  simp only [mcs_116, vpu, Nat.add_zero, Nat.zero_add, Nat.reduceAdd]
  refine R_run 60 ?_
  simp only [run_s, run_0, isc, Bool.or_false, Bool.false_or, Bool.or_true, Bool.true_or, Bool.or_self, cond_false, cond_true, gl, sl, stl, stl2, c2, isw, nf, pf, lnb, tk, true_and, and_true, nsg0, nsg1, Int.cast_ofNat_Int, Int.natCast_zero, Int.natCast_one, zero_z, z_add, z_sub, z_mul, z_neg, cnd_eq, cnd_ne, cnd_lt, cnd_ge, cnd_gt, cnd_le, vok_0, vok_3r, vok_3n, vok_4, Nat.add_zero, Nat.zero_add, Nat.reduceAdd, Nat.reduceSub, Nat.reduceMod, Nat.reduceDiv, Nat.reduceEqDiff, Nat.reduceLeDiff, Nat.reduceMul, Int.reduceNeg, if_true, if_false, ite_true, ite_false, reduceIte, hup_app, Nat.add_left_cancel_iff, Nat.left_eq_add, Nat.add_eq_left, reduceCtorEq, subc_0, subc_1, subc_2, subc_3, subc_4, subc_5, subc_6, subc_7, subc_8, subc_9, subc_10, subc_11, subc_12, sube_2, sube_3, sube_5, sube_8, sube_9, sube_10, rets_ok, va_rfs, true_or, or_true, or_false, false_or, sI_aload_n, sI_astore_n, sI_i2l, sI_ifCond, sI_iload_n, sI_invokevirtual, sI_lreturn, sI_new, ix_86_0, ix_86_1, ix_86_2, ix_86_5, ix_86_6, ix_86_7, ix_86_8, ix_86_11, ix_86_14, ix_86_24, ix_86_25, ix_86_26, ix_86_29, ix_86_30, mC_86, mS_86, mH_86]
  refine R_cV ix_86_8 (by decide) (by decide) rfl (hG.1) rfl (s23) (Nat.le_of_ble_eq_true rfl) (by rw [mcs_23, mC_86]; omega) (by rw [mcs_23, mS_86]; omega) ?_
  simp only [mcs_23, vpu, Nat.add_zero, Nat.zero_add, Nat.reduceAdd]
  refine R_run 60 ?_
  simp only [run_s, run_0, isc, Bool.or_false, Bool.false_or, Bool.or_true, Bool.true_or, Bool.or_self, cond_false, cond_true, gl, sl, stl, stl2, c2, isw, nf, pf, lnb, tk, true_and, and_true, nsg0, nsg1, Int.cast_ofNat_Int, Int.natCast_zero, Int.natCast_one, zero_z, z_add, z_sub, z_mul, z_neg, cnd_eq, cnd_ne, cnd_lt, cnd_ge, cnd_gt, cnd_le, vok_0, vok_3r, vok_3n, vok_4, Nat.add_zero, Nat.zero_add, Nat.reduceAdd, Nat.reduceSub, Nat.reduceMod, Nat.reduceDiv, Nat.reduceEqDiff, Nat.reduceLeDiff, Nat.reduceMul, Int.reduceNeg, if_true, if_false, ite_true, ite_false, reduceIte, hup_app, Nat.add_left_cancel_iff, Nat.left_eq_add, Nat.add_eq_left, reduceCtorEq, subc_0, subc_1, subc_2, subc_3, subc_4, subc_5, subc_6, subc_7, subc_8, subc_9, subc_10, subc_11, subc_12, sube_2, sube_3, sube_5, sube_8, sube_9, sube_10, rets_ok, va_rfs, true_or, or_true, or_false, false_or, sI_aload_n, sI_astore_n, sI_i2l, sI_ifCond, sI_iload_n, sI_invokevirtual, sI_lreturn, sI_new, ix_86_0, ix_86_1, ix_86_2, ix_86_5, ix_86_6, ix_86_7, ix_86_8, ix_86_11, ix_86_14, ix_86_24, ix_86_25, ix_86_26, ix_86_29, ix_86_30, mC_86, mS_86, mH_86]
  try simp (disch := omega) only [z_lt, z_le, z_eq, z_in, z_nat, Int.toNat_natCast, upd_z, z_l, zl_0, zl_add, zl_sub, zl_mul, zl_i, zl_eq, zl_div, Int.reduceLT, Int.reduceLE, Int.reduceToNat, Nat.reduceAdd, Nat.reduceLeDiff, not_false_eq_true, true_and, and_true]
  repeat' (first | (with_reducible refine ⟨?_, ?_⟩) | (with_reducible intro _))
  all_goals try (first | exact True.intro | with_reducible rfl | exact absurd True.intro (by assumption) | omega | (exfalso; omega) | (rw [if_pos (by omega)]; done) | (rw [if_neg (by omega)]; done))
  refine R_cV ix_86_26 (by decide) (by decide) rfl (hG.1) rfl (s25) (Nat.le_of_ble_eq_true rfl) (by rw [mcs_25, mC_86]; omega) (by rw [mcs_25, mS_86]; omega) ?_
  simp only [mcs_25, vpu, Nat.add_zero, Nat.zero_add, Nat.reduceAdd]
  refine R_run 60 ?_
  simp only [run_s, run_0, isc, Bool.or_false, Bool.false_or, Bool.or_true, Bool.true_or, Bool.or_self, cond_false, cond_true, gl, sl, stl, stl2, c2, isw, nf, pf, lnb, tk, true_and, and_true, nsg0, nsg1, Int.cast_ofNat_Int, Int.natCast_zero, Int.natCast_one, zero_z, z_add, z_sub, z_mul, z_neg, cnd_eq, cnd_ne, cnd_lt, cnd_ge, cnd_gt, cnd_le, vok_0, vok_3r, vok_3n, vok_4, Nat.add_zero, Nat.zero_add, Nat.reduceAdd, Nat.reduceSub, Nat.reduceMod, Nat.reduceDiv, Nat.reduceEqDiff, Nat.reduceLeDiff, Nat.reduceMul, Int.reduceNeg, if_true, if_false, ite_true, ite_false, reduceIte, hup_app, Nat.add_left_cancel_iff, Nat.left_eq_add, Nat.add_eq_left, reduceCtorEq, subc_0, subc_1, subc_2, subc_3, subc_4, subc_5, subc_6, subc_7, subc_8, subc_9, subc_10, subc_11, subc_12, sube_2, sube_3, sube_5, sube_8, sube_9, sube_10, rets_ok, va_rfs, true_or, or_true, or_false, false_or, sI_aload_n, sI_astore_n, sI_i2l, sI_ifCond, sI_iload_n, sI_invokevirtual, sI_lreturn, sI_new, ix_86_0, ix_86_1, ix_86_2, ix_86_5, ix_86_6, ix_86_7, ix_86_8, ix_86_11, ix_86_14, ix_86_24, ix_86_25, ix_86_26, ix_86_29, ix_86_30, mC_86, mS_86, mH_86]
  try simp (disch := omega) only [z_lt, z_le, z_eq, z_in, z_nat, Int.toNat_natCast, upd_z, z_l, zl_0, zl_add, zl_sub, zl_mul, zl_i, zl_eq, zl_div, Int.reduceLT, Int.reduceLE, Int.reduceToNat, Nat.reduceAdd, Nat.reduceLeDiff, not_false_eq_true, true_and, and_true]
set_option maxRecDepth 16384 in
theorem sp_86p {p : Int} (hX : h x = some (.inr (11, XF x fl rf uf ue))) (hT : isT h (x + 8) ha N) (hV : TV H nh N) (hH : hsOK H nh) (hkk : ∀ i, i < nh → isH h (ha i) (WH (H i))) (hg : (g : Int) < N 6 1 1) (hr : -2147483648 ≤ p ∧ p ≤ 2147483647) (hp : p < 0 ∨ (H (hxi N g) 1 : Int) ≤ p) : Sp E (d + 20) 86 [.ref x, .int (z (g : Int)), .int (z p)] h sz (thrs eIOB h sz) := by
  have hg6 := hV.1
  obtain ⟨a1, a2, a3⟩ := hV.2 g hg
  have hP := hH.2 (hxi N g) (by unfold hxi; omega)
  have hsz := szP_b hP
  have hp1 := hP.2.1
  have s1 := a2.1
  obtain ⟨v0, v1, v2, v3, v4, v5, v6, v7, v8, v9, v10⟩ := id s1
  have hG := isT_g hT (i := g) (by omega)
  have hW : isH h (ha (N g 7 11).toNat) (WH (H (hxi N g))) := hkk (hxi N g) (by unfold hxi; omega)
  have s23 := sp_23 (E := E) (d := d + 18) (sz := sz) (k := p) hG hW hr (by rw [WH_1]; omega)
  rw [WH_1, if_neg (by omega)] at s23
  refine ⟨mi_86, mt_86, Nat.le_of_ble_eq_true rfl, ?_⟩
  change Rr _ _ _ _ mi_86 _ 0 [some (.ref x), some (.int (z (g : Int))), some (.int (z p)), none] [] _ _ 0 0
  refine R_run 60 ?_
  simp only [run_s, run_0, isc, Bool.or_false, Bool.false_or, Bool.or_true, Bool.true_or, Bool.or_self, cond_false, cond_true, gl, sl, stl, stl2, c2, isw, nf, pf, lnb, tk, true_and, and_true, nsg0, nsg1, Int.cast_ofNat_Int, Int.natCast_zero, Int.natCast_one, zero_z, z_add, z_sub, z_mul, z_neg, cnd_eq, cnd_ne, cnd_lt, cnd_ge, cnd_gt, cnd_le, vok_0, vok_3r, vok_3n, vok_4, Nat.add_zero, Nat.zero_add, Nat.reduceAdd, Nat.reduceSub, Nat.reduceMod, Nat.reduceDiv, Nat.reduceEqDiff, Nat.reduceLeDiff, Nat.reduceMul, Int.reduceNeg, if_true, if_false, ite_true, ite_false, reduceIte, hup_app, Nat.add_left_cancel_iff, Nat.left_eq_add, Nat.add_eq_left, reduceCtorEq, subc_0, subc_1, subc_2, subc_3, subc_4, subc_5, subc_6, subc_7, subc_8, subc_9, subc_10, subc_11, subc_12, sube_2, sube_3, sube_5, sube_8, sube_9, sube_10, rets_ok, va_rfs, true_or, or_true, or_false, false_or, sI_aload_n, sI_astore_n, sI_i2l, sI_ifCond, sI_iload_n, sI_invokevirtual, sI_lreturn, sI_new, ix_86_0, ix_86_1, ix_86_2, ix_86_5, ix_86_6, ix_86_7, ix_86_8, ix_86_11, ix_86_14, ix_86_24, ix_86_25, ix_86_26, ix_86_29, ix_86_30, mC_86, mS_86, mH_86]
  refine R_cV ix_86_2 (by decide) (by decide) rfl (hX) rfl (sp_116y (d := d + 10) hX hT hV hg) (Nat.le_of_ble_eq_true rfl) (by rw [mcs_116, mC_86]; omega) (by rw [mcs_116, mS_86]; omega) ?_
  simp only [mcs_116, vpu, Nat.add_zero, Nat.zero_add, Nat.reduceAdd]
  refine R_run 60 ?_
  simp only [run_s, run_0, isc, Bool.or_false, Bool.false_or, Bool.or_true, Bool.true_or, Bool.or_self, cond_false, cond_true, gl, sl, stl, stl2, c2, isw, nf, pf, lnb, tk, true_and, and_true, nsg0, nsg1, Int.cast_ofNat_Int, Int.natCast_zero, Int.natCast_one, zero_z, z_add, z_sub, z_mul, z_neg, cnd_eq, cnd_ne, cnd_lt, cnd_ge, cnd_gt, cnd_le, vok_0, vok_3r, vok_3n, vok_4, Nat.add_zero, Nat.zero_add, Nat.reduceAdd, Nat.reduceSub, Nat.reduceMod, Nat.reduceDiv, Nat.reduceEqDiff, Nat.reduceLeDiff, Nat.reduceMul, Int.reduceNeg, if_true, if_false, ite_true, ite_false, reduceIte, hup_app, Nat.add_left_cancel_iff, Nat.left_eq_add, Nat.add_eq_left, reduceCtorEq, subc_0, subc_1, subc_2, subc_3, subc_4, subc_5, subc_6, subc_7, subc_8, subc_9, subc_10, subc_11, subc_12, sube_2, sube_3, sube_5, sube_8, sube_9, sube_10, rets_ok, va_rfs, true_or, or_true, or_false, false_or, sI_aload_n, sI_astore_n, sI_i2l, sI_ifCond, sI_iload_n, sI_invokevirtual, sI_lreturn, sI_new, ix_86_0, ix_86_1, ix_86_2, ix_86_5, ix_86_6, ix_86_7, ix_86_8, ix_86_11, ix_86_14, ix_86_24, ix_86_25, ix_86_26, ix_86_29, ix_86_30, mC_86, mS_86, mH_86]
  refine R_cV ix_86_8 (by decide) (by decide) rfl (hG.1) rfl (s23) (Nat.le_of_ble_eq_true rfl) (by rw [mcs_23, mC_86]; omega) (by rw [mcs_23, mS_86]; omega) ?_
  simp only [mcs_23, vpu, Nat.add_zero, Nat.zero_add, Nat.reduceAdd]
  refine R_run 60 ?_
  simp only [run_s, run_0, isc, Bool.or_false, Bool.false_or, Bool.or_true, Bool.true_or, Bool.or_self, cond_false, cond_true, gl, sl, stl, stl2, c2, isw, nf, pf, lnb, tk, true_and, and_true, nsg0, nsg1, Int.cast_ofNat_Int, Int.natCast_zero, Int.natCast_one, zero_z, z_add, z_sub, z_mul, z_neg, cnd_eq, cnd_ne, cnd_lt, cnd_ge, cnd_gt, cnd_le, vok_0, vok_3r, vok_3n, vok_4, Nat.add_zero, Nat.zero_add, Nat.reduceAdd, Nat.reduceSub, Nat.reduceMod, Nat.reduceDiv, Nat.reduceEqDiff, Nat.reduceLeDiff, Nat.reduceMul, Int.reduceNeg, if_true, if_false, ite_true, ite_false, reduceIte, hup_app, Nat.add_left_cancel_iff, Nat.left_eq_add, Nat.add_eq_left, reduceCtorEq, subc_0, subc_1, subc_2, subc_3, subc_4, subc_5, subc_6, subc_7, subc_8, subc_9, subc_10, subc_11, subc_12, sube_2, sube_3, sube_5, sube_8, sube_9, sube_10, rets_ok, va_rfs, true_or, or_true, or_false, false_or, sI_aload_n, sI_astore_n, sI_i2l, sI_ifCond, sI_iload_n, sI_invokevirtual, sI_lreturn, sI_new, ix_86_0, ix_86_1, ix_86_2, ix_86_5, ix_86_6, ix_86_7, ix_86_8, ix_86_11, ix_86_14, ix_86_24, ix_86_25, ix_86_26, ix_86_29, ix_86_30, mC_86, mS_86, mH_86]
  try simp (disch := omega) only [z_lt, z_le, z_eq, z_in, z_nat, Int.toNat_natCast, upd_z, z_l, zl_0, zl_add, zl_sub, zl_mul, zl_i, zl_eq, zl_div, Int.reduceLT, Int.reduceLE, Int.reduceToNat, Nat.reduceAdd, Nat.reduceLeDiff, not_false_eq_true, true_and, and_true]
  repeat' (first | (with_reducible refine ⟨?_, ?_⟩) | (with_reducible intro _))
  all_goals try (first | exact True.intro | with_reducible rfl | exact absurd True.intro (by assumption) | omega | (exfalso; omega) | (rw [if_pos (by omega)]; done) | (rw [if_neg (by omega)]; done) | exact ⟨rfl, rfl, by omega⟩ | exact Nat.le_of_ble_eq_true rfl)
set_option maxRecDepth 16384 in
theorem sp_87y (hX : h x = some (.inr (11, XF x fl rf uf ue))) (hT : isT h (x + 8) ha N) (hV : TV H nh N) (hH : hsOK H nh) (hkk : ∀ i, i < nh → isH h (ha i) (WH (H i))) (hg : (g : Int) < N 6 1 1) : Sp E (d + 20) 87 [.ref x, .int (z (g : Int))] h sz (rets (some (.int (z ((szN (H (hxi N g) 0) : Int) - N g 7 0)))) h sz) := by
  have hg6 := hV.1
  obtain ⟨a1, a2, a3⟩ := hV.2 g hg
  have hP := hH.2 (hxi N g) (by unfold hxi; omega)
  have hsz := szP_b hP
  have hp1 := hP.2.1
  have s1 := a2.1
  obtain ⟨v0, v1, v2, v3, v4, v5, v6, v7, v8, v9, v10⟩ := id s1
  have hG := isT_g hT (i := g) (by omega)
  have hW : isH h (ha (N g 7 11).toNat) (WH (H (hxi N g))) := hkk (hxi N g) (by unfold hxi; omega)
  refine ⟨mi_87, mt_87, Nat.le_of_ble_eq_true rfl, ?_⟩
  change Rr _ _ _ _ mi_87 _ 0 [some (.ref x), some (.int (z (g : Int))), none] [] _ _ 0 0
  refine R_run 60 ?_
  simp only [run_s, run_0, isc, Bool.or_false, Bool.false_or, Bool.or_true, Bool.true_or, Bool.or_self, cond_false, cond_true, gl, sl, stl, stl2, c2, isw, nf, pf, lnb, tk, true_and, and_true, nsg0, nsg1, Int.cast_ofNat_Int, Int.natCast_zero, Int.natCast_one, zero_z, z_add, z_sub, z_mul, z_neg, cnd_eq, cnd_ne, cnd_lt, cnd_ge, cnd_gt, cnd_le, vok_0, vok_3r, vok_3n, vok_4, Nat.add_zero, Nat.zero_add, Nat.reduceAdd, Nat.reduceSub, Nat.reduceMod, Nat.reduceDiv, Nat.reduceEqDiff, Nat.reduceLeDiff, Nat.reduceMul, Int.reduceNeg, if_true, if_false, ite_true, ite_false, reduceIte, hup_app, Nat.add_left_cancel_iff, Nat.left_eq_add, Nat.add_eq_left, reduceCtorEq, subc_0, subc_1, subc_2, subc_3, subc_4, subc_5, subc_6, subc_7, subc_8, subc_9, subc_10, subc_11, subc_12, sube_2, sube_3, sube_5, sube_8, sube_9, sube_10, rets_ok, va_rfs, true_or, or_true, or_false, false_or, sI_aload_n, sI_astore_n, sI_getfield, sI_iload_n, sI_invokevirtual, sI_ireturn, sI_isub, ix_87_0, ix_87_1, ix_87_2, ix_87_5, ix_87_6, ix_87_7, ix_87_10, ix_87_13, ix_87_14, ix_87_17, ix_87_18, mC_87, mS_87, mH_87]
  refine R_cV ix_87_2 (by decide) (by decide) rfl (hX) rfl (sp_116y (d := d + 10) hX hT hV hg) (Nat.le_of_ble_eq_true rfl) (by rw [mcs_116, mC_87]; omega) (by rw [mcs_116, mS_87]; omega) ?_
  simp only [mcs_116, vpu, Nat.add_zero, Nat.zero_add, Nat.reduceAdd]
  refine R_run 60 ?_
  simp only [run_s, run_0, isc, Bool.or_false, Bool.false_or, Bool.or_true, Bool.true_or, Bool.or_self, cond_false, cond_true, gl, sl, stl, stl2, c2, isw, nf, pf, lnb, tk, true_and, and_true, nsg0, nsg1, Int.cast_ofNat_Int, Int.natCast_zero, Int.natCast_one, zero_z, z_add, z_sub, z_mul, z_neg, cnd_eq, cnd_ne, cnd_lt, cnd_ge, cnd_gt, cnd_le, vok_0, vok_3r, vok_3n, vok_4, Nat.add_zero, Nat.zero_add, Nat.reduceAdd, Nat.reduceSub, Nat.reduceMod, Nat.reduceDiv, Nat.reduceEqDiff, Nat.reduceLeDiff, Nat.reduceMul, Int.reduceNeg, if_true, if_false, ite_true, ite_false, reduceIte, hup_app, Nat.add_left_cancel_iff, Nat.left_eq_add, Nat.add_eq_left, reduceCtorEq, subc_0, subc_1, subc_2, subc_3, subc_4, subc_5, subc_6, subc_7, subc_8, subc_9, subc_10, subc_11, subc_12, sube_2, sube_3, sube_5, sube_8, sube_9, sube_10, rets_ok, va_rfs, true_or, or_true, or_false, false_or, sI_aload_n, sI_astore_n, sI_getfield, sI_iload_n, sI_invokevirtual, sI_ireturn, sI_isub, ix_87_0, ix_87_1, ix_87_2, ix_87_5, ix_87_6, ix_87_7, ix_87_10, ix_87_13, ix_87_14, ix_87_17, ix_87_18, mC_87, mS_87, mH_87, hG.1, hW.1, GB, HB, WH_5]
set_option maxRecDepth 16384 in
theorem sp_88y {b1 : Int} (hX : h x = some (.inr (11, XF x fl rf uf ue))) (hT : isT h (x + 8) ha N) (hV : TV H nh N) (hH : hsOK H nh) (hkk : ∀ i, i < nh → isH h (ha i) (WH (H i))) (hg : (g : Int) < N 6 1 1) (hb : b1 = 0 ∨ b1 = 1) (hl : N g 7 1 ≠ 0) : Sp E (d + 20) 88 [.ref x, .int (z (g : Int)), .int (z b1)] h sz (rets (some (.int (z (endV (N g) (decide (b1 = 1)))))) h sz) := by
  have hg6 := hV.1
  obtain ⟨a1, a2, a3⟩ := hV.2 g hg
  have hP := hH.2 (hxi N g) (by unfold hxi; omega)
  have hsz := szP_b hP
  have hp1 := hP.2.1
  have s1 := a2.1
  obtain ⟨v0, v1, v2, v3, v4, v5, v6, v7, v8, v9, v10⟩ := id s1
  have hG := isT_g hT (i := g) (by omega)
  have hW : isH h (ha (N g 7 11).toNat) (WH (H (hxi N g))) := hkk (hxi N g) (by unfold hxi; omega)
  have s27 := sp_27 (E := E) (d := d + 17) (sz := sz) hG rfl (by omega) hb
  have ev : N g 2 (if b1 = 0 then (N g 7 1).toNat else 0) = endV (N g) (decide (b1 = 1)) := by
    unfold endV
    rcases hb with q | q
    · rw [q]; rfl
    · rw [q]; rfl
  rw [ev] at s27
  refine ⟨mi_88, mt_88, Nat.le_of_ble_eq_true rfl, ?_⟩
  change Rr _ _ _ _ mi_88 _ 0 [some (.ref x), some (.int (z (g : Int))), some (.int (z b1)), none] [] _ _ 0 0
  refine R_run 60 ?_
  simp only [run_s, run_0, isc, Bool.or_false, Bool.false_or, Bool.or_true, Bool.true_or, Bool.or_self, cond_false, cond_true, gl, sl, stl, stl2, c2, isw, nf, pf, lnb, tk, true_and, and_true, nsg0, nsg1, Int.cast_ofNat_Int, Int.natCast_zero, Int.natCast_one, zero_z, z_add, z_sub, z_mul, z_neg, cnd_eq, cnd_ne, cnd_lt, cnd_ge, cnd_gt, cnd_le, vok_0, vok_3r, vok_3n, vok_4, Nat.add_zero, Nat.zero_add, Nat.reduceAdd, Nat.reduceSub, Nat.reduceMod, Nat.reduceDiv, Nat.reduceEqDiff, Nat.reduceLeDiff, Nat.reduceMul, Int.reduceNeg, if_true, if_false, ite_true, ite_false, reduceIte, hup_app, Nat.add_left_cancel_iff, Nat.left_eq_add, Nat.add_eq_left, reduceCtorEq, subc_0, subc_1, subc_2, subc_3, subc_4, subc_5, subc_6, subc_7, subc_8, subc_9, subc_10, subc_11, subc_12, sube_2, sube_3, sube_5, sube_8, sube_9, sube_10, rets_ok, va_rfs, true_or, or_true, or_false, false_or, sI_aload_n, sI_astore_n, sI_getfield, sI_ifCond, sI_iload_n, sI_invokevirtual, sI_ireturn, sI_new, ix_88_0, ix_88_1, ix_88_2, ix_88_5, ix_88_6, ix_88_7, ix_88_10, ix_88_13, ix_88_23, ix_88_24, ix_88_25, ix_88_28, mC_88, mS_88, mH_88]
  refine R_cV ix_88_2 (by decide) (by decide) rfl (hX) rfl (sp_116y (d := d + 10) hX hT hV hg) (Nat.le_of_ble_eq_true rfl) (by rw [mcs_116, mC_88]; omega) (by rw [mcs_116, mS_88]; omega) ?_
  simp only [mcs_116, vpu, Nat.add_zero, Nat.zero_add, Nat.reduceAdd]
  refine R_run 60 ?_
  simp only [run_s, run_0, isc, Bool.or_false, Bool.false_or, Bool.or_true, Bool.true_or, Bool.or_self, cond_false, cond_true, gl, sl, stl, stl2, c2, isw, nf, pf, lnb, tk, true_and, and_true, nsg0, nsg1, Int.cast_ofNat_Int, Int.natCast_zero, Int.natCast_one, zero_z, z_add, z_sub, z_mul, z_neg, cnd_eq, cnd_ne, cnd_lt, cnd_ge, cnd_gt, cnd_le, vok_0, vok_3r, vok_3n, vok_4, Nat.add_zero, Nat.zero_add, Nat.reduceAdd, Nat.reduceSub, Nat.reduceMod, Nat.reduceDiv, Nat.reduceEqDiff, Nat.reduceLeDiff, Nat.reduceMul, Int.reduceNeg, if_true, if_false, ite_true, ite_false, reduceIte, hup_app, Nat.add_left_cancel_iff, Nat.left_eq_add, Nat.add_eq_left, reduceCtorEq, subc_0, subc_1, subc_2, subc_3, subc_4, subc_5, subc_6, subc_7, subc_8, subc_9, subc_10, subc_11, subc_12, sube_2, sube_3, sube_5, sube_8, sube_9, sube_10, rets_ok, va_rfs, true_or, or_true, or_false, false_or, sI_aload_n, sI_astore_n, sI_getfield, sI_ifCond, sI_iload_n, sI_invokevirtual, sI_ireturn, sI_new, ix_88_0, ix_88_1, ix_88_2, ix_88_5, ix_88_6, ix_88_7, ix_88_10, ix_88_13, ix_88_23, ix_88_24, ix_88_25, ix_88_28, mC_88, mS_88, mH_88, hG.1, GB]
  try simp (disch := omega) only [z_lt, z_le, z_eq, z_in, z_nat, Int.toNat_natCast, upd_z, z_l, zl_0, zl_add, zl_sub, zl_mul, zl_i, zl_eq, zl_div, Int.reduceLT, Int.reduceLE, Int.reduceToNat, Nat.reduceAdd, Nat.reduceLeDiff, not_false_eq_true, true_and, and_true]
  repeat' (first | (with_reducible refine ⟨?_, ?_⟩) | (with_reducible intro _))
  all_goals try (first | exact True.intro | with_reducible rfl | exact absurd True.intro (by assumption) | omega | (exfalso; omega) | (rw [if_pos (by omega)]; done) | (rw [if_neg (by omega)]; done))
  refine R_cV ix_88_25 (by decide) (by decide) rfl (hG.1) rfl (s27) (Nat.le_of_ble_eq_true rfl) (by rw [mcs_27, mC_88]; omega) (by rw [mcs_27, mS_88]; omega) ?_
  simp only [mcs_27, vpu, Nat.add_zero, Nat.zero_add, Nat.reduceAdd]
  refine R_run 60 ?_
  simp only [run_s, run_0, isc, Bool.or_false, Bool.false_or, Bool.or_true, Bool.true_or, Bool.or_self, cond_false, cond_true, gl, sl, stl, stl2, c2, isw, nf, pf, lnb, tk, true_and, and_true, nsg0, nsg1, Int.cast_ofNat_Int, Int.natCast_zero, Int.natCast_one, zero_z, z_add, z_sub, z_mul, z_neg, cnd_eq, cnd_ne, cnd_lt, cnd_ge, cnd_gt, cnd_le, vok_0, vok_3r, vok_3n, vok_4, Nat.add_zero, Nat.zero_add, Nat.reduceAdd, Nat.reduceSub, Nat.reduceMod, Nat.reduceDiv, Nat.reduceEqDiff, Nat.reduceLeDiff, Nat.reduceMul, Int.reduceNeg, if_true, if_false, ite_true, ite_false, reduceIte, hup_app, Nat.add_left_cancel_iff, Nat.left_eq_add, Nat.add_eq_left, reduceCtorEq, subc_0, subc_1, subc_2, subc_3, subc_4, subc_5, subc_6, subc_7, subc_8, subc_9, subc_10, subc_11, subc_12, sube_2, sube_3, sube_5, sube_8, sube_9, sube_10, rets_ok, va_rfs, true_or, or_true, or_false, false_or, sI_aload_n, sI_astore_n, sI_getfield, sI_ifCond, sI_iload_n, sI_invokevirtual, sI_ireturn, sI_new, ix_88_0, ix_88_1, ix_88_2, ix_88_5, ix_88_6, ix_88_7, ix_88_10, ix_88_13, ix_88_23, ix_88_24, ix_88_25, ix_88_28, mC_88, mS_88, mH_88]
set_option maxRecDepth 16384 in
theorem sp_88e {b1 : Int} (hX : h x = some (.inr (11, XF x fl rf uf ue))) (hT : isT h (x + 8) ha N) (hV : TV H nh N) (hH : hsOK H nh) (hkk : ∀ i, i < nh → isH h (ha i) (WH (H i))) (hg : (g : Int) < N 6 1 1) (hl : N g 7 1 = 0) : Sp E (d + 20) 88 [.ref x, .int (z (g : Int)), .int (z b1)] h sz (thrs eNSE h sz) := by
  have hg6 := hV.1
  obtain ⟨a1, a2, a3⟩ := hV.2 g hg
  have hP := hH.2 (hxi N g) (by unfold hxi; omega)
  have hsz := szP_b hP
  have hp1 := hP.2.1
  have s1 := a2.1
  obtain ⟨v0, v1, v2, v3, v4, v5, v6, v7, v8, v9, v10⟩ := id s1
  have hG := isT_g hT (i := g) (by omega)
  have hW : isH h (ha (N g 7 11).toNat) (WH (H (hxi N g))) := hkk (hxi N g) (by unfold hxi; omega)
  refine ⟨mi_88, mt_88, Nat.le_of_ble_eq_true rfl, ?_⟩
  change Rr _ _ _ _ mi_88 _ 0 [some (.ref x), some (.int (z (g : Int))), some (.int (z b1)), none] [] _ _ 0 0
  refine R_run 60 ?_
  simp only [run_s, run_0, isc, Bool.or_false, Bool.false_or, Bool.or_true, Bool.true_or, Bool.or_self, cond_false, cond_true, gl, sl, stl, stl2, c2, isw, nf, pf, lnb, tk, true_and, and_true, nsg0, nsg1, Int.cast_ofNat_Int, Int.natCast_zero, Int.natCast_one, zero_z, z_add, z_sub, z_mul, z_neg, cnd_eq, cnd_ne, cnd_lt, cnd_ge, cnd_gt, cnd_le, vok_0, vok_3r, vok_3n, vok_4, Nat.add_zero, Nat.zero_add, Nat.reduceAdd, Nat.reduceSub, Nat.reduceMod, Nat.reduceDiv, Nat.reduceEqDiff, Nat.reduceLeDiff, Nat.reduceMul, Int.reduceNeg, if_true, if_false, ite_true, ite_false, reduceIte, hup_app, Nat.add_left_cancel_iff, Nat.left_eq_add, Nat.add_eq_left, reduceCtorEq, subc_0, subc_1, subc_2, subc_3, subc_4, subc_5, subc_6, subc_7, subc_8, subc_9, subc_10, subc_11, subc_12, sube_2, sube_3, sube_5, sube_8, sube_9, sube_10, rets_ok, va_rfs, true_or, or_true, or_false, false_or, sI_aload_n, sI_astore_n, sI_getfield, sI_ifCond, sI_iload_n, sI_invokevirtual, sI_ireturn, sI_new, ix_88_0, ix_88_1, ix_88_2, ix_88_5, ix_88_6, ix_88_7, ix_88_10, ix_88_13, ix_88_23, ix_88_24, ix_88_25, ix_88_28, mC_88, mS_88, mH_88]
  refine R_cV ix_88_2 (by decide) (by decide) rfl (hX) rfl (sp_116y (d := d + 10) hX hT hV hg) (Nat.le_of_ble_eq_true rfl) (by rw [mcs_116, mC_88]; omega) (by rw [mcs_116, mS_88]; omega) ?_
  simp only [mcs_116, vpu, Nat.add_zero, Nat.zero_add, Nat.reduceAdd]
  refine R_run 60 ?_
  simp only [run_s, run_0, isc, Bool.or_false, Bool.false_or, Bool.or_true, Bool.true_or, Bool.or_self, cond_false, cond_true, gl, sl, stl, stl2, c2, isw, nf, pf, lnb, tk, true_and, and_true, nsg0, nsg1, Int.cast_ofNat_Int, Int.natCast_zero, Int.natCast_one, zero_z, z_add, z_sub, z_mul, z_neg, cnd_eq, cnd_ne, cnd_lt, cnd_ge, cnd_gt, cnd_le, vok_0, vok_3r, vok_3n, vok_4, Nat.add_zero, Nat.zero_add, Nat.reduceAdd, Nat.reduceSub, Nat.reduceMod, Nat.reduceDiv, Nat.reduceEqDiff, Nat.reduceLeDiff, Nat.reduceMul, Int.reduceNeg, if_true, if_false, ite_true, ite_false, reduceIte, hup_app, Nat.add_left_cancel_iff, Nat.left_eq_add, Nat.add_eq_left, reduceCtorEq, subc_0, subc_1, subc_2, subc_3, subc_4, subc_5, subc_6, subc_7, subc_8, subc_9, subc_10, subc_11, subc_12, sube_2, sube_3, sube_5, sube_8, sube_9, sube_10, rets_ok, va_rfs, true_or, or_true, or_false, false_or, sI_aload_n, sI_astore_n, sI_getfield, sI_ifCond, sI_iload_n, sI_invokevirtual, sI_ireturn, sI_new, ix_88_0, ix_88_1, ix_88_2, ix_88_5, ix_88_6, ix_88_7, ix_88_10, ix_88_13, ix_88_23, ix_88_24, ix_88_25, ix_88_28, mC_88, mS_88, mH_88, hG.1, GB]
  try simp (disch := omega) only [z_lt, z_le, z_eq, z_in, z_nat, Int.toNat_natCast, upd_z, z_l, zl_0, zl_add, zl_sub, zl_mul, zl_i, zl_eq, zl_div, Int.reduceLT, Int.reduceLE, Int.reduceToNat, Nat.reduceAdd, Nat.reduceLeDiff, not_false_eq_true, true_and, and_true]
  repeat' (first | (with_reducible refine ⟨?_, ?_⟩) | (with_reducible intro _))
  all_goals try (first | exact True.intro | with_reducible rfl | exact absurd True.intro (by assumption) | omega | (exfalso; omega) | (rw [if_pos (by omega)]; done) | (rw [if_neg (by omega)]; done) | exact ⟨rfl, rfl, by omega⟩ | exact Nat.le_of_ble_eq_true rfl)
set_option maxRecDepth 16384 in
theorem sp_89y (hX : h x = some (.inr (11, XF x fl rf uf ue))) (hT : isT h (x + 8) ha N) (hV : TV H nh N) (hH : hsOK H nh) (hkk : ∀ i, i < nh → isH h (ha i) (WH (H i))) (hg : (g : Int) < N 6 1 1) : Sp E (d + 20) 89 [.ref x, .int (z (g : Int))] h sz (rets (some (.int (z (N g 7 1 * 5)))) h sz) := by
  have hg6 := hV.1
  obtain ⟨a1, a2, a3⟩ := hV.2 g hg
  have hP := hH.2 (hxi N g) (by unfold hxi; omega)
  have hsz := szP_b hP
  have hp1 := hP.2.1
  have s1 := a2.1
  obtain ⟨v0, v1, v2, v3, v4, v5, v6, v7, v8, v9, v10⟩ := id s1
  have hG := isT_g hT (i := g) (by omega)
  have hW : isH h (ha (N g 7 11).toNat) (WH (H (hxi N g))) := hkk (hxi N g) (by unfold hxi; omega)
  refine ⟨mi_89, mt_89, Nat.le_of_ble_eq_true rfl, ?_⟩
  change Rr _ _ _ _ mi_89 _ 0 [some (.ref x), some (.int (z (g : Int)))] [] _ _ 0 0
  refine R_run 60 ?_
  simp only [run_s, run_0, isc, Bool.or_false, Bool.false_or, Bool.or_true, Bool.true_or, Bool.or_self, cond_false, cond_true, gl, sl, stl, stl2, c2, isw, nf, pf, lnb, tk, true_and, and_true, nsg0, nsg1, Int.cast_ofNat_Int, Int.natCast_zero, Int.natCast_one, zero_z, z_add, z_sub, z_mul, z_neg, cnd_eq, cnd_ne, cnd_lt, cnd_ge, cnd_gt, cnd_le, vok_0, vok_3r, vok_3n, vok_4, Nat.add_zero, Nat.zero_add, Nat.reduceAdd, Nat.reduceSub, Nat.reduceMod, Nat.reduceDiv, Nat.reduceEqDiff, Nat.reduceLeDiff, Nat.reduceMul, Int.reduceNeg, if_true, if_false, ite_true, ite_false, reduceIte, hup_app, Nat.add_left_cancel_iff, Nat.left_eq_add, Nat.add_eq_left, reduceCtorEq, subc_0, subc_1, subc_2, subc_3, subc_4, subc_5, subc_6, subc_7, subc_8, subc_9, subc_10, subc_11, subc_12, sube_2, sube_3, sube_5, sube_8, sube_9, sube_10, rets_ok, va_rfs, true_or, or_true, or_false, false_or, sI_aload_n, sI_getfield, sI_iconst, sI_iload_n, sI_imul, sI_invokevirtual, sI_ireturn, ix_89_0, ix_89_1, ix_89_2, ix_89_5, ix_89_8, ix_89_9, ix_89_10, mC_89, mS_89, mH_89]
  refine R_cV ix_89_2 (by decide) (by decide) rfl (hX) rfl (sp_116y (d := d + 10) hX hT hV hg) (Nat.le_of_ble_eq_true rfl) (by rw [mcs_116, mC_89]; omega) (by rw [mcs_116, mS_89]; omega) ?_
  simp only [mcs_116, vpu, Nat.add_zero, Nat.zero_add, Nat.reduceAdd]
  refine R_run 60 ?_
  simp only [run_s, run_0, isc, Bool.or_false, Bool.false_or, Bool.or_true, Bool.true_or, Bool.or_self, cond_false, cond_true, gl, sl, stl, stl2, c2, isw, nf, pf, lnb, tk, true_and, and_true, nsg0, nsg1, Int.cast_ofNat_Int, Int.natCast_zero, Int.natCast_one, zero_z, z_add, z_sub, z_mul, z_neg, cnd_eq, cnd_ne, cnd_lt, cnd_ge, cnd_gt, cnd_le, vok_0, vok_3r, vok_3n, vok_4, Nat.add_zero, Nat.zero_add, Nat.reduceAdd, Nat.reduceSub, Nat.reduceMod, Nat.reduceDiv, Nat.reduceEqDiff, Nat.reduceLeDiff, Nat.reduceMul, Int.reduceNeg, if_true, if_false, ite_true, ite_false, reduceIte, hup_app, Nat.add_left_cancel_iff, Nat.left_eq_add, Nat.add_eq_left, reduceCtorEq, subc_0, subc_1, subc_2, subc_3, subc_4, subc_5, subc_6, subc_7, subc_8, subc_9, subc_10, subc_11, subc_12, sube_2, sube_3, sube_5, sube_8, sube_9, sube_10, rets_ok, va_rfs, true_or, or_true, or_false, false_or, sI_aload_n, sI_getfield, sI_iconst, sI_iload_n, sI_imul, sI_invokevirtual, sI_ireturn, ix_89_0, ix_89_1, ix_89_2, ix_89_5, ix_89_8, ix_89_9, ix_89_10, mC_89, mS_89, mH_89, hG.1, GB]
set_option maxRecDepth 16384 in
theorem sp_90y {p b1 : Int} (hX : h x = some (.inr (11, XF x fl rf uf ue))) (hT : isT h (x + 8) ha N) (hV : TV H nh N) (hH : hsOK H nh) (hkk : ∀ i, i < nh → isH h (ha i) (WH (H i))) (hg : (g : Int) < N 6 1 1) (hb : b1 = 0 ∨ b1 = 1) (hp : 0 ≤ p ∧ p < 5 * N g 7 1) : Sp E (d + 20) 90 [.ref x, .int (z (g : Int)), .int (z p), .int (z b1)] h sz (rets (some (.int (z (signF (N g) (N g 7 1) p b1)))) h sz) := by
  have hg6 := hV.1
  obtain ⟨a1, a2, a3⟩ := hV.2 g hg
  have hP := hH.2 (hxi N g) (by unfold hxi; omega)
  have hsz := szP_b hP
  have hp1 := hP.2.1
  have s1 := a2.1
  obtain ⟨v0, v1, v2, v3, v4, v5, v6, v7, v8, v9, v10⟩ := id s1
  have hG := isT_g hT (i := g) (by omega)
  have hW : isH h (ha (N g 7 11).toNat) (WH (H (hxi N g))) := hkk (hxi N g) (by unfold hxi; omega)
  have h7 := hP.1
  have t5 := a2.2.2.2.2.2.2.1
  have hv : ∀ j : Nat, (j : Int) ≤ N g 7 1 → 0 ≤ N g 2 j ∧ N g 2 j ≤ 6 := fun j hj => by have := t5 (by omega) j hj; omega
  have s33 := sp_33 (E := E) (d := d + 16) (sz := sz) (p := p) hG rfl hb (by omega) hv
  have hsg : 0 ≤ signF (N g) (N g 7 1) p b1 ∧ signF (N g) (N g 7 1) p b1 ≤ 65535 := by
    unfold signF
    have h1 := hv (if b1 = 0 then (p / 5).toNat else (N g 7 1 - p / 5).toNat) (by split <;> omega)
    have h2 := hv (if b1 = 0 then (p / 5 + 1).toNat else (N g 7 1 - (p / 5 + 1)).toNat) (by split <;> omega)
    generalize N g 2 (if b1 = 0 then (p / 5).toNat else (N g 7 1 - p / 5).toNat) = u at *
    generalize N g 2 (if b1 = 0 then (p / 5 + 1).toNat else (N g 7 1 - (p / 5 + 1)).toNat) = v at *
    repeat' split
    all_goals omega
  generalize signF (N g) (N g 7 1) p b1 = sg at *
  refine ⟨mi_90, mt_90, Nat.le_of_ble_eq_true rfl, ?_⟩
  change Rr _ _ _ _ mi_90 _ 0 [some (.ref x), some (.int (z (g : Int))), some (.int (z p)), some (.int (z b1)), none] [] _ _ 0 0
  refine R_run 60 ?_
  simp only [run_s, run_0, isc, Bool.or_false, Bool.false_or, Bool.or_true, Bool.true_or, Bool.or_self, cond_false, cond_true, gl, sl, stl, stl2, c2, isw, nf, pf, lnb, tk, true_and, and_true, nsg0, nsg1, Int.cast_ofNat_Int, Int.natCast_zero, Int.natCast_one, zero_z, z_add, z_sub, z_mul, z_neg, cnd_eq, cnd_ne, cnd_lt, cnd_ge, cnd_gt, cnd_le, vok_0, vok_3r, vok_3n, vok_4, Nat.add_zero, Nat.zero_add, Nat.reduceAdd, Nat.reduceSub, Nat.reduceMod, Nat.reduceDiv, Nat.reduceEqDiff, Nat.reduceLeDiff, Nat.reduceMul, Int.reduceNeg, if_true, if_false, ite_true, ite_false, reduceIte, hup_app, Nat.add_left_cancel_iff, Nat.left_eq_add, Nat.add_eq_left, reduceCtorEq, subc_0, subc_1, subc_2, subc_3, subc_4, subc_5, subc_6, subc_7, subc_8, subc_9, subc_10, subc_11, subc_12, sube_2, sube_3, sube_5, sube_8, sube_9, sube_10, rets_ok, va_rfs, true_or, or_true, or_false, false_or, sI_aload, sI_aload_n, sI_astore, sI_getfield, sI_iconst, sI_ifCond, sI_if_icmp, sI_iload_n, sI_imul, sI_invokevirtual, sI_ireturn, sI_new, ix_90_0, ix_90_1, ix_90_2, ix_90_5, ix_90_7, ix_90_8, ix_90_11, ix_90_12, ix_90_14, ix_90_17, ix_90_18, ix_90_19, ix_90_22, ix_90_32, ix_90_34, ix_90_35, ix_90_36, ix_90_39, mC_90, mS_90, mH_90]
  refine R_cV ix_90_2 (by decide) (by decide) rfl (hX) rfl (sp_116y (d := d + 10) hX hT hV hg) (Nat.le_of_ble_eq_true rfl) (by rw [mcs_116, mC_90]; omega) (by rw [mcs_116, mS_90]; omega) ?_
  simp only [mcs_116, vpu, Nat.add_zero, Nat.zero_add, Nat.reduceAdd]
  refine R_run 60 ?_
  simp only [run_s, run_0, isc, Bool.or_false, Bool.false_or, Bool.or_true, Bool.true_or, Bool.or_self, cond_false, cond_true, gl, sl, stl, stl2, c2, isw, nf, pf, lnb, tk, true_and, and_true, nsg0, nsg1, Int.cast_ofNat_Int, Int.natCast_zero, Int.natCast_one, zero_z, z_add, z_sub, z_mul, z_neg, cnd_eq, cnd_ne, cnd_lt, cnd_ge, cnd_gt, cnd_le, vok_0, vok_3r, vok_3n, vok_4, Nat.add_zero, Nat.zero_add, Nat.reduceAdd, Nat.reduceSub, Nat.reduceMod, Nat.reduceDiv, Nat.reduceEqDiff, Nat.reduceLeDiff, Nat.reduceMul, Int.reduceNeg, if_true, if_false, ite_true, ite_false, reduceIte, hup_app, Nat.add_left_cancel_iff, Nat.left_eq_add, Nat.add_eq_left, reduceCtorEq, subc_0, subc_1, subc_2, subc_3, subc_4, subc_5, subc_6, subc_7, subc_8, subc_9, subc_10, subc_11, subc_12, sube_2, sube_3, sube_5, sube_8, sube_9, sube_10, rets_ok, va_rfs, true_or, or_true, or_false, false_or, sI_aload, sI_aload_n, sI_astore, sI_getfield, sI_iconst, sI_ifCond, sI_if_icmp, sI_iload_n, sI_imul, sI_invokevirtual, sI_ireturn, sI_new, ix_90_0, ix_90_1, ix_90_2, ix_90_5, ix_90_7, ix_90_8, ix_90_11, ix_90_12, ix_90_14, ix_90_17, ix_90_18, ix_90_19, ix_90_22, ix_90_32, ix_90_34, ix_90_35, ix_90_36, ix_90_39, mC_90, mS_90, mH_90, hG.1, GB]
  try simp (disch := omega) only [z_lt, z_le, z_eq, z_in, z_nat, Int.toNat_natCast, upd_z, z_l, zl_0, zl_add, zl_sub, zl_mul, zl_i, zl_eq, zl_div, Int.reduceLT, Int.reduceLE, Int.reduceToNat, Nat.reduceAdd, Nat.reduceLeDiff, not_false_eq_true, true_and, and_true]
  repeat' (first | (with_reducible refine ⟨?_, ?_⟩) | (with_reducible intro _))
  all_goals try (first | exact True.intro | with_reducible rfl | exact absurd True.intro (by assumption) | omega | (exfalso; omega) | (rw [if_pos (by omega)]; done) | (rw [if_neg (by omega)]; done))
  refine R_cV ix_90_36 (by decide) (by decide) rfl (hG.1) rfl (s33) (Nat.le_of_ble_eq_true rfl) (by rw [mcs_33, mC_90]; omega) (by rw [mcs_33, mS_90]; omega) ?_
  simp only [mcs_33, vpu, Nat.add_zero, Nat.zero_add, Nat.reduceAdd]
  refine R_run 60 ?_
  simp only [run_s, run_0, isc, Bool.or_false, Bool.false_or, Bool.or_true, Bool.true_or, Bool.or_self, cond_false, cond_true, gl, sl, stl, stl2, c2, isw, nf, pf, lnb, tk, true_and, and_true, nsg0, nsg1, Int.cast_ofNat_Int, Int.natCast_zero, Int.natCast_one, zero_z, z_add, z_sub, z_mul, z_neg, cnd_eq, cnd_ne, cnd_lt, cnd_ge, cnd_gt, cnd_le, vok_0, vok_3r, vok_3n, vok_4, Nat.add_zero, Nat.zero_add, Nat.reduceAdd, Nat.reduceSub, Nat.reduceMod, Nat.reduceDiv, Nat.reduceEqDiff, Nat.reduceLeDiff, Nat.reduceMul, Int.reduceNeg, if_true, if_false, ite_true, ite_false, reduceIte, hup_app, Nat.add_left_cancel_iff, Nat.left_eq_add, Nat.add_eq_left, reduceCtorEq, subc_0, subc_1, subc_2, subc_3, subc_4, subc_5, subc_6, subc_7, subc_8, subc_9, subc_10, subc_11, subc_12, sube_2, sube_3, sube_5, sube_8, sube_9, sube_10, rets_ok, va_rfs, true_or, or_true, or_false, false_or, sI_aload, sI_aload_n, sI_astore, sI_getfield, sI_iconst, sI_ifCond, sI_if_icmp, sI_iload_n, sI_imul, sI_invokevirtual, sI_ireturn, sI_new, ix_90_0, ix_90_1, ix_90_2, ix_90_5, ix_90_7, ix_90_8, ix_90_11, ix_90_12, ix_90_14, ix_90_17, ix_90_18, ix_90_19, ix_90_22, ix_90_32, ix_90_34, ix_90_35, ix_90_36, ix_90_39, mC_90, mS_90, mH_90, vok_z2 hsg.1 hsg.2]
set_option maxRecDepth 16384 in
theorem sp_90e {p b1 : Int} (hX : h x = some (.inr (11, XF x fl rf uf ue))) (hT : isT h (x + 8) ha N) (hV : TV H nh N) (hH : hsOK H nh) (hkk : ∀ i, i < nh → isH h (ha i) (WH (H i))) (hg : (g : Int) < N 6 1 1) (hr : -2147483648 ≤ p ∧ p ≤ 2147483647) (hp : p < 0 ∨ 5 * N g 7 1 ≤ p) : Sp E (d + 20) 90 [.ref x, .int (z (g : Int)), .int (z p), .int (z b1)] h sz (thrs eNSE h sz) := by
  have hg6 := hV.1
  obtain ⟨a1, a2, a3⟩ := hV.2 g hg
  have hP := hH.2 (hxi N g) (by unfold hxi; omega)
  have hsz := szP_b hP
  have hp1 := hP.2.1
  have s1 := a2.1
  obtain ⟨v0, v1, v2, v3, v4, v5, v6, v7, v8, v9, v10⟩ := id s1
  have hG := isT_g hT (i := g) (by omega)
  have hW : isH h (ha (N g 7 11).toNat) (WH (H (hxi N g))) := hkk (hxi N g) (by unfold hxi; omega)
  refine ⟨mi_90, mt_90, Nat.le_of_ble_eq_true rfl, ?_⟩
  change Rr _ _ _ _ mi_90 _ 0 [some (.ref x), some (.int (z (g : Int))), some (.int (z p)), some (.int (z b1)), none] [] _ _ 0 0
  refine R_run 60 ?_
  simp only [run_s, run_0, isc, Bool.or_false, Bool.false_or, Bool.or_true, Bool.true_or, Bool.or_self, cond_false, cond_true, gl, sl, stl, stl2, c2, isw, nf, pf, lnb, tk, true_and, and_true, nsg0, nsg1, Int.cast_ofNat_Int, Int.natCast_zero, Int.natCast_one, zero_z, z_add, z_sub, z_mul, z_neg, cnd_eq, cnd_ne, cnd_lt, cnd_ge, cnd_gt, cnd_le, vok_0, vok_3r, vok_3n, vok_4, Nat.add_zero, Nat.zero_add, Nat.reduceAdd, Nat.reduceSub, Nat.reduceMod, Nat.reduceDiv, Nat.reduceEqDiff, Nat.reduceLeDiff, Nat.reduceMul, Int.reduceNeg, if_true, if_false, ite_true, ite_false, reduceIte, hup_app, Nat.add_left_cancel_iff, Nat.left_eq_add, Nat.add_eq_left, reduceCtorEq, subc_0, subc_1, subc_2, subc_3, subc_4, subc_5, subc_6, subc_7, subc_8, subc_9, subc_10, subc_11, subc_12, sube_2, sube_3, sube_5, sube_8, sube_9, sube_10, rets_ok, va_rfs, true_or, or_true, or_false, false_or, sI_aload, sI_aload_n, sI_astore, sI_getfield, sI_iconst, sI_ifCond, sI_if_icmp, sI_iload_n, sI_imul, sI_invokevirtual, sI_ireturn, sI_new, ix_90_0, ix_90_1, ix_90_2, ix_90_5, ix_90_7, ix_90_8, ix_90_11, ix_90_12, ix_90_14, ix_90_17, ix_90_18, ix_90_19, ix_90_22, ix_90_32, ix_90_34, ix_90_35, ix_90_36, ix_90_39, mC_90, mS_90, mH_90]
  refine R_cV ix_90_2 (by decide) (by decide) rfl (hX) rfl (sp_116y (d := d + 10) hX hT hV hg) (Nat.le_of_ble_eq_true rfl) (by rw [mcs_116, mC_90]; omega) (by rw [mcs_116, mS_90]; omega) ?_
  simp only [mcs_116, vpu, Nat.add_zero, Nat.zero_add, Nat.reduceAdd]
  refine R_run 60 ?_
  simp only [run_s, run_0, isc, Bool.or_false, Bool.false_or, Bool.or_true, Bool.true_or, Bool.or_self, cond_false, cond_true, gl, sl, stl, stl2, c2, isw, nf, pf, lnb, tk, true_and, and_true, nsg0, nsg1, Int.cast_ofNat_Int, Int.natCast_zero, Int.natCast_one, zero_z, z_add, z_sub, z_mul, z_neg, cnd_eq, cnd_ne, cnd_lt, cnd_ge, cnd_gt, cnd_le, vok_0, vok_3r, vok_3n, vok_4, Nat.add_zero, Nat.zero_add, Nat.reduceAdd, Nat.reduceSub, Nat.reduceMod, Nat.reduceDiv, Nat.reduceEqDiff, Nat.reduceLeDiff, Nat.reduceMul, Int.reduceNeg, if_true, if_false, ite_true, ite_false, reduceIte, hup_app, Nat.add_left_cancel_iff, Nat.left_eq_add, Nat.add_eq_left, reduceCtorEq, subc_0, subc_1, subc_2, subc_3, subc_4, subc_5, subc_6, subc_7, subc_8, subc_9, subc_10, subc_11, subc_12, sube_2, sube_3, sube_5, sube_8, sube_9, sube_10, rets_ok, va_rfs, true_or, or_true, or_false, false_or, sI_aload, sI_aload_n, sI_astore, sI_getfield, sI_iconst, sI_ifCond, sI_if_icmp, sI_iload_n, sI_imul, sI_invokevirtual, sI_ireturn, sI_new, ix_90_0, ix_90_1, ix_90_2, ix_90_5, ix_90_7, ix_90_8, ix_90_11, ix_90_12, ix_90_14, ix_90_17, ix_90_18, ix_90_19, ix_90_22, ix_90_32, ix_90_34, ix_90_35, ix_90_36, ix_90_39, mC_90, mS_90, mH_90, hG.1, GB]
  try simp (disch := omega) only [z_lt, z_le, z_eq, z_in, z_nat, Int.toNat_natCast, upd_z, z_l, zl_0, zl_add, zl_sub, zl_mul, zl_i, zl_eq, zl_div, Int.reduceLT, Int.reduceLE, Int.reduceToNat, Nat.reduceAdd, Nat.reduceLeDiff, not_false_eq_true, true_and, and_true]
  repeat' (first | (with_reducible refine ⟨?_, ?_⟩) | (with_reducible intro _))
  all_goals try (first | exact True.intro | with_reducible rfl | exact absurd True.intro (by assumption) | omega | (exfalso; omega) | (rw [if_pos (by omega)]; done) | (rw [if_neg (by omega)]; done) | exact ⟨rfl, rfl, by omega⟩ | exact Nat.le_of_ble_eq_true rfl)
set_option maxRecDepth 16384 in
theorem sp_91y (hX : h x = some (.inr (11, XF x fl rf uf ue))) (hT : isT h (x + 8) ha N) (hV : TV H nh N) (hH : hsOK H nh) (hkk : ∀ i, i < nh → isH h (ha i) (WH (H i))) (hg : (g : Int) < N 6 1 1) : Sp E (d + 20) 91 [.ref x, .int (z (g : Int))] h sz (rets (some (.int (z (if N g 7 6 = -2 then 0 else 1)))) h sz) := by
  have hg6 := hV.1
  obtain ⟨a1, a2, a3⟩ := hV.2 g hg
  have hP := hH.2 (hxi N g) (by unfold hxi; omega)
  have hsz := szP_b hP
  have hp1 := hP.2.1
  have s1 := a2.1
  obtain ⟨v0, v1, v2, v3, v4, v5, v6, v7, v8, v9, v10⟩ := id s1
  have hG := isT_g hT (i := g) (by omega)
  have hW : isH h (ha (N g 7 11).toNat) (WH (H (hxi N g))) := hkk (hxi N g) (by unfold hxi; omega)
  have s8 := s1.2.2.2.2.2.2.2.1
  have s24 := sp_24 (E := E) (d := d + 18) (sz := sz) hG (by omega)
  have hb : (if N g 7 6 = -2 then (0 : Int) else 1) = 0 ∨ (if N g 7 6 = -2 then (0 : Int) else 1) = 1 := by split <;> omega
  refine ⟨mi_91, mt_91, Nat.le_of_ble_eq_true rfl, ?_⟩
  change Rr _ _ _ _ mi_91 _ 0 [some (.ref x), some (.int (z (g : Int)))] [] _ _ 0 0
  refine R_run 60 ?_
  simp only [run_s, run_0, isc, Bool.or_false, Bool.false_or, Bool.or_true, Bool.true_or, Bool.or_self, cond_false, cond_true, gl, sl, stl, stl2, c2, isw, nf, pf, lnb, tk, true_and, and_true, nsg0, nsg1, Int.cast_ofNat_Int, Int.natCast_zero, Int.natCast_one, zero_z, z_add, z_sub, z_mul, z_neg, cnd_eq, cnd_ne, cnd_lt, cnd_ge, cnd_gt, cnd_le, vok_0, vok_3r, vok_3n, vok_4, Nat.add_zero, Nat.zero_add, Nat.reduceAdd, Nat.reduceSub, Nat.reduceMod, Nat.reduceDiv, Nat.reduceEqDiff, Nat.reduceLeDiff, Nat.reduceMul, Int.reduceNeg, if_true, if_false, ite_true, ite_false, reduceIte, hup_app, Nat.add_left_cancel_iff, Nat.left_eq_add, Nat.add_eq_left, reduceCtorEq, subc_0, subc_1, subc_2, subc_3, subc_4, subc_5, subc_6, subc_7, subc_8, subc_9, subc_10, subc_11, subc_12, sube_2, sube_3, sube_5, sube_8, sube_9, sube_10, rets_ok, va_rfs, true_or, or_true, or_false, false_or, sI_aload_n, sI_iload_n, sI_invokevirtual, sI_ireturn, ix_91_0, ix_91_1, ix_91_2, ix_91_5, ix_91_8, mC_91, mS_91, mH_91]
  refine R_cV ix_91_2 (by decide) (by decide) rfl (hX) rfl (sp_116y (d := d + 10) hX hT hV hg) (Nat.le_of_ble_eq_true rfl) (by rw [mcs_116, mC_91]; omega) (by rw [mcs_116, mS_91]; omega) ?_
  simp only [mcs_116, vpu, Nat.add_zero, Nat.zero_add, Nat.reduceAdd]
  refine R_run 60 ?_
  simp only [run_s, run_0, isc, Bool.or_false, Bool.false_or, Bool.or_true, Bool.true_or, Bool.or_self, cond_false, cond_true, gl, sl, stl, stl2, c2, isw, nf, pf, lnb, tk, true_and, and_true, nsg0, nsg1, Int.cast_ofNat_Int, Int.natCast_zero, Int.natCast_one, zero_z, z_add, z_sub, z_mul, z_neg, cnd_eq, cnd_ne, cnd_lt, cnd_ge, cnd_gt, cnd_le, vok_0, vok_3r, vok_3n, vok_4, Nat.add_zero, Nat.zero_add, Nat.reduceAdd, Nat.reduceSub, Nat.reduceMod, Nat.reduceDiv, Nat.reduceEqDiff, Nat.reduceLeDiff, Nat.reduceMul, Int.reduceNeg, if_true, if_false, ite_true, ite_false, reduceIte, hup_app, Nat.add_left_cancel_iff, Nat.left_eq_add, Nat.add_eq_left, reduceCtorEq, subc_0, subc_1, subc_2, subc_3, subc_4, subc_5, subc_6, subc_7, subc_8, subc_9, subc_10, subc_11, subc_12, sube_2, sube_3, sube_5, sube_8, sube_9, sube_10, rets_ok, va_rfs, true_or, or_true, or_false, false_or, sI_aload_n, sI_iload_n, sI_invokevirtual, sI_ireturn, ix_91_0, ix_91_1, ix_91_2, ix_91_5, ix_91_8, mC_91, mS_91, mH_91]
  refine R_cV ix_91_5 (by decide) (by decide) rfl (hG.1) rfl (s24) (Nat.le_of_ble_eq_true rfl) (by rw [mcs_24, mC_91]; omega) (by rw [mcs_24, mS_91]; omega) ?_
  simp only [mcs_24, vpu, Nat.add_zero, Nat.zero_add, Nat.reduceAdd]
  refine R_run 60 ?_
  simp only [run_s, run_0, isc, Bool.or_false, Bool.false_or, Bool.or_true, Bool.true_or, Bool.or_self, cond_false, cond_true, gl, sl, stl, stl2, c2, isw, nf, pf, lnb, tk, true_and, and_true, nsg0, nsg1, Int.cast_ofNat_Int, Int.natCast_zero, Int.natCast_one, zero_z, z_add, z_sub, z_mul, z_neg, cnd_eq, cnd_ne, cnd_lt, cnd_ge, cnd_gt, cnd_le, vok_0, vok_3r, vok_3n, vok_4, Nat.add_zero, Nat.zero_add, Nat.reduceAdd, Nat.reduceSub, Nat.reduceMod, Nat.reduceDiv, Nat.reduceEqDiff, Nat.reduceLeDiff, Nat.reduceMul, Int.reduceNeg, if_true, if_false, ite_true, ite_false, reduceIte, hup_app, Nat.add_left_cancel_iff, Nat.left_eq_add, Nat.add_eq_left, reduceCtorEq, subc_0, subc_1, subc_2, subc_3, subc_4, subc_5, subc_6, subc_7, subc_8, subc_9, subc_10, subc_11, subc_12, sube_2, sube_3, sube_5, sube_8, sube_9, sube_10, rets_ok, va_rfs, true_or, or_true, or_false, false_or, sI_aload_n, sI_iload_n, sI_invokevirtual, sI_ireturn, ix_91_0, ix_91_1, ix_91_2, ix_91_5, ix_91_8, mC_91, mS_91, mH_91, vok_z1 hb]
set_option maxRecDepth 16384 in
theorem sp_92y (hX : h x = some (.inr (11, XF x fl rf uf ue))) (hT : isT h (x + 8) ha N) (hV : TV H nh N) (hH : hsOK H nh) (hkk : ∀ i, i < nh → isH h (ha i) (WH (H i))) (hg : (g : Int) < N 6 1 1) : Sp E (d + 20) 92 [.ref x, .int (z (g : Int))] h sz (rets (some (.int (z (N g 7 5)))) h sz) := by
  have hg6 := hV.1
  obtain ⟨a1, a2, a3⟩ := hV.2 g hg
  have hP := hH.2 (hxi N g) (by unfold hxi; omega)
  have hsz := szP_b hP
  have hp1 := hP.2.1
  have s1 := a2.1
  obtain ⟨v0, v1, v2, v3, v4, v5, v6, v7, v8, v9, v10⟩ := id s1
  have hG := isT_g hT (i := g) (by omega)
  have hW : isH h (ha (N g 7 11).toNat) (WH (H (hxi N g))) := hkk (hxi N g) (by unfold hxi; omega)
  refine ⟨mi_92, mt_92, Nat.le_of_ble_eq_true rfl, ?_⟩
  change Rr _ _ _ _ mi_92 _ 0 [some (.ref x), some (.int (z (g : Int)))] [] _ _ 0 0
  refine R_run 60 ?_
  simp only [run_s, run_0, isc, Bool.or_false, Bool.false_or, Bool.or_true, Bool.true_or, Bool.or_self, cond_false, cond_true, gl, sl, stl, stl2, c2, isw, nf, pf, lnb, tk, true_and, and_true, nsg0, nsg1, Int.cast_ofNat_Int, Int.natCast_zero, Int.natCast_one, zero_z, z_add, z_sub, z_mul, z_neg, cnd_eq, cnd_ne, cnd_lt, cnd_ge, cnd_gt, cnd_le, vok_0, vok_3r, vok_3n, vok_4, Nat.add_zero, Nat.zero_add, Nat.reduceAdd, Nat.reduceSub, Nat.reduceMod, Nat.reduceDiv, Nat.reduceEqDiff, Nat.reduceLeDiff, Nat.reduceMul, Int.reduceNeg, if_true, if_false, ite_true, ite_false, reduceIte, hup_app, Nat.add_left_cancel_iff, Nat.left_eq_add, Nat.add_eq_left, reduceCtorEq, subc_0, subc_1, subc_2, subc_3, subc_4, subc_5, subc_6, subc_7, subc_8, subc_9, subc_10, subc_11, subc_12, sube_2, sube_3, sube_5, sube_8, sube_9, sube_10, rets_ok, va_rfs, true_or, or_true, or_false, false_or, sI_aload_n, sI_getfield, sI_iload_n, sI_invokevirtual, sI_ireturn, ix_92_0, ix_92_1, ix_92_2, ix_92_5, ix_92_8, mC_92, mS_92, mH_92]
  refine R_cV ix_92_2 (by decide) (by decide) rfl (hX) rfl (sp_116y (d := d + 10) hX hT hV hg) (Nat.le_of_ble_eq_true rfl) (by rw [mcs_116, mC_92]; omega) (by rw [mcs_116, mS_92]; omega) ?_
  simp only [mcs_116, vpu, Nat.add_zero, Nat.zero_add, Nat.reduceAdd]
  refine R_run 60 ?_
  simp only [run_s, run_0, isc, Bool.or_false, Bool.false_or, Bool.or_true, Bool.true_or, Bool.or_self, cond_false, cond_true, gl, sl, stl, stl2, c2, isw, nf, pf, lnb, tk, true_and, and_true, nsg0, nsg1, Int.cast_ofNat_Int, Int.natCast_zero, Int.natCast_one, zero_z, z_add, z_sub, z_mul, z_neg, cnd_eq, cnd_ne, cnd_lt, cnd_ge, cnd_gt, cnd_le, vok_0, vok_3r, vok_3n, vok_4, Nat.add_zero, Nat.zero_add, Nat.reduceAdd, Nat.reduceSub, Nat.reduceMod, Nat.reduceDiv, Nat.reduceEqDiff, Nat.reduceLeDiff, Nat.reduceMul, Int.reduceNeg, if_true, if_false, ite_true, ite_false, reduceIte, hup_app, Nat.add_left_cancel_iff, Nat.left_eq_add, Nat.add_eq_left, reduceCtorEq, subc_0, subc_1, subc_2, subc_3, subc_4, subc_5, subc_6, subc_7, subc_8, subc_9, subc_10, subc_11, subc_12, sube_2, sube_3, sube_5, sube_8, sube_9, sube_10, rets_ok, va_rfs, true_or, or_true, or_false, false_or, sI_aload_n, sI_getfield, sI_iload_n, sI_invokevirtual, sI_ireturn, ix_92_0, ix_92_1, ix_92_2, ix_92_5, ix_92_8, mC_92, mS_92, mH_92, hG.1, GB, vok_z1 s1.2.2.2.2.2.1]
set_option maxRecDepth 16384 in
theorem sp_93y (hX : h x = some (.inr (11, XF x fl rf uf ue))) (hT : isT h (x + 8) ha N) (hV : TV H nh N) (hH : hsOK H nh) (hkk : ∀ i, i < nh → isH h (ha i) (WH (H i))) (hg : (g : Int) < N 6 1 1) (hw : N g 7 6 ≠ -2) : Sp E (d + 20) 93 [.ref x, .int (z (g : Int))] h sz (rets (some (.int (z (N g 7 6)))) h sz) := by
  have hg6 := hV.1
  obtain ⟨a1, a2, a3⟩ := hV.2 g hg
  have hP := hH.2 (hxi N g) (by unfold hxi; omega)
  have hsz := szP_b hP
  have hp1 := hP.2.1
  have s1 := a2.1
  obtain ⟨v0, v1, v2, v3, v4, v5, v6, v7, v8, v9, v10⟩ := id s1
  have hG := isT_g hT (i := g) (by omega)
  have hW : isH h (ha (N g 7 11).toNat) (WH (H (hxi N g))) := hkk (hxi N g) (by unfold hxi; omega)
  have s8 := s1.2.2.2.2.2.2.2.1
  have s24 := sp_24 (E := E) (d := d + 18) (sz := sz) hG (by omega)
  rw [if_neg hw] at s24
  refine ⟨mi_93, mt_93, Nat.le_of_ble_eq_true rfl, ?_⟩
  change Rr _ _ _ _ mi_93 _ 0 [some (.ref x), some (.int (z (g : Int))), none] [] _ _ 0 0
  refine R_run 60 ?_
  simp only [run_s, run_0, isc, Bool.or_false, Bool.false_or, Bool.or_true, Bool.true_or, Bool.or_self, cond_false, cond_true, gl, sl, stl, stl2, c2, isw, nf, pf, lnb, tk, true_and, and_true, nsg0, nsg1, Int.cast_ofNat_Int, Int.natCast_zero, Int.natCast_one, zero_z, z_add, z_sub, z_mul, z_neg, cnd_eq, cnd_ne, cnd_lt, cnd_ge, cnd_gt, cnd_le, vok_0, vok_3r, vok_3n, vok_4, Nat.add_zero, Nat.zero_add, Nat.reduceAdd, Nat.reduceSub, Nat.reduceMod, Nat.reduceDiv, Nat.reduceEqDiff, Nat.reduceLeDiff, Nat.reduceMul, Int.reduceNeg, if_true, if_false, ite_true, ite_false, reduceIte, hup_app, Nat.add_left_cancel_iff, Nat.left_eq_add, Nat.add_eq_left, reduceCtorEq, subc_0, subc_1, subc_2, subc_3, subc_4, subc_5, subc_6, subc_7, subc_8, subc_9, subc_10, subc_11, subc_12, sube_2, sube_3, sube_5, sube_8, sube_9, sube_10, rets_ok, va_rfs, true_or, or_true, or_false, false_or, sI_aload_n, sI_astore_n, sI_getfield, sI_ifCond, sI_iload_n, sI_invokevirtual, sI_ireturn, sI_new, ix_93_0, ix_93_1, ix_93_2, ix_93_5, ix_93_6, ix_93_7, ix_93_10, ix_93_13, ix_93_23, ix_93_24, ix_93_27, mC_93, mS_93, mH_93]
  refine R_cV ix_93_2 (by decide) (by decide) rfl (hX) rfl (sp_116y (d := d + 10) hX hT hV hg) (Nat.le_of_ble_eq_true rfl) (by rw [mcs_116, mC_93]; omega) (by rw [mcs_116, mS_93]; omega) ?_
  simp only [mcs_116, vpu, Nat.add_zero, Nat.zero_add, Nat.reduceAdd]
  refine R_run 60 ?_
  simp only [run_s, run_0, isc, Bool.or_false, Bool.false_or, Bool.or_true, Bool.true_or, Bool.or_self, cond_false, cond_true, gl, sl, stl, stl2, c2, isw, nf, pf, lnb, tk, true_and, and_true, nsg0, nsg1, Int.cast_ofNat_Int, Int.natCast_zero, Int.natCast_one, zero_z, z_add, z_sub, z_mul, z_neg, cnd_eq, cnd_ne, cnd_lt, cnd_ge, cnd_gt, cnd_le, vok_0, vok_3r, vok_3n, vok_4, Nat.add_zero, Nat.zero_add, Nat.reduceAdd, Nat.reduceSub, Nat.reduceMod, Nat.reduceDiv, Nat.reduceEqDiff, Nat.reduceLeDiff, Nat.reduceMul, Int.reduceNeg, if_true, if_false, ite_true, ite_false, reduceIte, hup_app, Nat.add_left_cancel_iff, Nat.left_eq_add, Nat.add_eq_left, reduceCtorEq, subc_0, subc_1, subc_2, subc_3, subc_4, subc_5, subc_6, subc_7, subc_8, subc_9, subc_10, subc_11, subc_12, sube_2, sube_3, sube_5, sube_8, sube_9, sube_10, rets_ok, va_rfs, true_or, or_true, or_false, false_or, sI_aload_n, sI_astore_n, sI_getfield, sI_ifCond, sI_iload_n, sI_invokevirtual, sI_ireturn, sI_new, ix_93_0, ix_93_1, ix_93_2, ix_93_5, ix_93_6, ix_93_7, ix_93_10, ix_93_13, ix_93_23, ix_93_24, ix_93_27, mC_93, mS_93, mH_93]
  refine R_cV ix_93_7 (by decide) (by decide) rfl (hG.1) rfl (s24) (Nat.le_of_ble_eq_true rfl) (by rw [mcs_24, mC_93]; omega) (by rw [mcs_24, mS_93]; omega) ?_
  simp only [mcs_24, vpu, Nat.add_zero, Nat.zero_add, Nat.reduceAdd]
  refine R_run 60 ?_
  simp only [run_s, run_0, isc, Bool.or_false, Bool.false_or, Bool.or_true, Bool.true_or, Bool.or_self, cond_false, cond_true, gl, sl, stl, stl2, c2, isw, nf, pf, lnb, tk, true_and, and_true, nsg0, nsg1, Int.cast_ofNat_Int, Int.natCast_zero, Int.natCast_one, zero_z, z_add, z_sub, z_mul, z_neg, cnd_eq, cnd_ne, cnd_lt, cnd_ge, cnd_gt, cnd_le, vok_0, vok_3r, vok_3n, vok_4, Nat.add_zero, Nat.zero_add, Nat.reduceAdd, Nat.reduceSub, Nat.reduceMod, Nat.reduceDiv, Nat.reduceEqDiff, Nat.reduceLeDiff, Nat.reduceMul, Int.reduceNeg, if_true, if_false, ite_true, ite_false, reduceIte, hup_app, Nat.add_left_cancel_iff, Nat.left_eq_add, Nat.add_eq_left, reduceCtorEq, subc_0, subc_1, subc_2, subc_3, subc_4, subc_5, subc_6, subc_7, subc_8, subc_9, subc_10, subc_11, subc_12, sube_2, sube_3, sube_5, sube_8, sube_9, sube_10, rets_ok, va_rfs, true_or, or_true, or_false, false_or, sI_aload_n, sI_astore_n, sI_getfield, sI_ifCond, sI_iload_n, sI_invokevirtual, sI_ireturn, sI_new, ix_93_0, ix_93_1, ix_93_2, ix_93_5, ix_93_6, ix_93_7, ix_93_10, ix_93_13, ix_93_23, ix_93_24, ix_93_27, mC_93, mS_93, mH_93, hG.1, GB]
  try simp (disch := omega) only [z_lt, z_le, z_eq, z_in, z_nat, Int.toNat_natCast, upd_z, z_l, zl_0, zl_add, zl_sub, zl_mul, zl_i, zl_eq, zl_div, Int.reduceLT, Int.reduceLE, Int.reduceToNat, Nat.reduceAdd, Nat.reduceLeDiff, not_false_eq_true, true_and, and_true]
  repeat' (first | (with_reducible refine ⟨?_, ?_⟩) | (with_reducible intro _))
  all_goals try (first | exact True.intro | with_reducible rfl | exact absurd True.intro (by assumption) | omega | (exfalso; omega) | (rw [if_pos (by omega)]; done) | (rw [if_neg (by omega)]; done))
set_option maxRecDepth 16384 in
theorem sp_93e (hX : h x = some (.inr (11, XF x fl rf uf ue))) (hT : isT h (x + 8) ha N) (hV : TV H nh N) (hH : hsOK H nh) (hkk : ∀ i, i < nh → isH h (ha i) (WH (H i))) (hg : (g : Int) < N 6 1 1) (hw : N g 7 6 = -2) : Sp E (d + 20) 93 [.ref x, .int (z (g : Int))] h sz (thrs eNSE h sz) := by
  have hg6 := hV.1
  obtain ⟨a1, a2, a3⟩ := hV.2 g hg
  have hP := hH.2 (hxi N g) (by unfold hxi; omega)
  have hsz := szP_b hP
  have hp1 := hP.2.1
  have s1 := a2.1
  obtain ⟨v0, v1, v2, v3, v4, v5, v6, v7, v8, v9, v10⟩ := id s1
  have hG := isT_g hT (i := g) (by omega)
  have hW : isH h (ha (N g 7 11).toNat) (WH (H (hxi N g))) := hkk (hxi N g) (by unfold hxi; omega)
  have s24 := sp_24 (E := E) (d := d + 18) (sz := sz) hG (by omega)
  rw [if_pos hw] at s24
  refine ⟨mi_93, mt_93, Nat.le_of_ble_eq_true rfl, ?_⟩
  change Rr _ _ _ _ mi_93 _ 0 [some (.ref x), some (.int (z (g : Int))), none] [] _ _ 0 0
  refine R_run 60 ?_
  simp only [run_s, run_0, isc, Bool.or_false, Bool.false_or, Bool.or_true, Bool.true_or, Bool.or_self, cond_false, cond_true, gl, sl, stl, stl2, c2, isw, nf, pf, lnb, tk, true_and, and_true, nsg0, nsg1, Int.cast_ofNat_Int, Int.natCast_zero, Int.natCast_one, zero_z, z_add, z_sub, z_mul, z_neg, cnd_eq, cnd_ne, cnd_lt, cnd_ge, cnd_gt, cnd_le, vok_0, vok_3r, vok_3n, vok_4, Nat.add_zero, Nat.zero_add, Nat.reduceAdd, Nat.reduceSub, Nat.reduceMod, Nat.reduceDiv, Nat.reduceEqDiff, Nat.reduceLeDiff, Nat.reduceMul, Int.reduceNeg, if_true, if_false, ite_true, ite_false, reduceIte, hup_app, Nat.add_left_cancel_iff, Nat.left_eq_add, Nat.add_eq_left, reduceCtorEq, subc_0, subc_1, subc_2, subc_3, subc_4, subc_5, subc_6, subc_7, subc_8, subc_9, subc_10, subc_11, subc_12, sube_2, sube_3, sube_5, sube_8, sube_9, sube_10, rets_ok, va_rfs, true_or, or_true, or_false, false_or, sI_aload_n, sI_astore_n, sI_getfield, sI_ifCond, sI_iload_n, sI_invokevirtual, sI_ireturn, sI_new, ix_93_0, ix_93_1, ix_93_2, ix_93_5, ix_93_6, ix_93_7, ix_93_10, ix_93_13, ix_93_23, ix_93_24, ix_93_27, mC_93, mS_93, mH_93]
  refine R_cV ix_93_2 (by decide) (by decide) rfl (hX) rfl (sp_116y (d := d + 10) hX hT hV hg) (Nat.le_of_ble_eq_true rfl) (by rw [mcs_116, mC_93]; omega) (by rw [mcs_116, mS_93]; omega) ?_
  simp only [mcs_116, vpu, Nat.add_zero, Nat.zero_add, Nat.reduceAdd]
  refine R_run 60 ?_
  simp only [run_s, run_0, isc, Bool.or_false, Bool.false_or, Bool.or_true, Bool.true_or, Bool.or_self, cond_false, cond_true, gl, sl, stl, stl2, c2, isw, nf, pf, lnb, tk, true_and, and_true, nsg0, nsg1, Int.cast_ofNat_Int, Int.natCast_zero, Int.natCast_one, zero_z, z_add, z_sub, z_mul, z_neg, cnd_eq, cnd_ne, cnd_lt, cnd_ge, cnd_gt, cnd_le, vok_0, vok_3r, vok_3n, vok_4, Nat.add_zero, Nat.zero_add, Nat.reduceAdd, Nat.reduceSub, Nat.reduceMod, Nat.reduceDiv, Nat.reduceEqDiff, Nat.reduceLeDiff, Nat.reduceMul, Int.reduceNeg, if_true, if_false, ite_true, ite_false, reduceIte, hup_app, Nat.add_left_cancel_iff, Nat.left_eq_add, Nat.add_eq_left, reduceCtorEq, subc_0, subc_1, subc_2, subc_3, subc_4, subc_5, subc_6, subc_7, subc_8, subc_9, subc_10, subc_11, subc_12, sube_2, sube_3, sube_5, sube_8, sube_9, sube_10, rets_ok, va_rfs, true_or, or_true, or_false, false_or, sI_aload_n, sI_astore_n, sI_getfield, sI_ifCond, sI_iload_n, sI_invokevirtual, sI_ireturn, sI_new, ix_93_0, ix_93_1, ix_93_2, ix_93_5, ix_93_6, ix_93_7, ix_93_10, ix_93_13, ix_93_23, ix_93_24, ix_93_27, mC_93, mS_93, mH_93]
  refine R_cV ix_93_7 (by decide) (by decide) rfl (hG.1) rfl (s24) (Nat.le_of_ble_eq_true rfl) (by rw [mcs_24, mC_93]; omega) (by rw [mcs_24, mS_93]; omega) ?_
  simp only [mcs_24, vpu, Nat.add_zero, Nat.zero_add, Nat.reduceAdd]
  refine R_run 60 ?_
  simp only [run_s, run_0, isc, Bool.or_false, Bool.false_or, Bool.or_true, Bool.true_or, Bool.or_self, cond_false, cond_true, gl, sl, stl, stl2, c2, isw, nf, pf, lnb, tk, true_and, and_true, nsg0, nsg1, Int.cast_ofNat_Int, Int.natCast_zero, Int.natCast_one, zero_z, z_add, z_sub, z_mul, z_neg, cnd_eq, cnd_ne, cnd_lt, cnd_ge, cnd_gt, cnd_le, vok_0, vok_3r, vok_3n, vok_4, Nat.add_zero, Nat.zero_add, Nat.reduceAdd, Nat.reduceSub, Nat.reduceMod, Nat.reduceDiv, Nat.reduceEqDiff, Nat.reduceLeDiff, Nat.reduceMul, Int.reduceNeg, if_true, if_false, ite_true, ite_false, reduceIte, hup_app, Nat.add_left_cancel_iff, Nat.left_eq_add, Nat.add_eq_left, reduceCtorEq, subc_0, subc_1, subc_2, subc_3, subc_4, subc_5, subc_6, subc_7, subc_8, subc_9, subc_10, subc_11, subc_12, sube_2, sube_3, sube_5, sube_8, sube_9, sube_10, rets_ok, va_rfs, true_or, or_true, or_false, false_or, sI_aload_n, sI_astore_n, sI_getfield, sI_ifCond, sI_iload_n, sI_invokevirtual, sI_ireturn, sI_new, ix_93_0, ix_93_1, ix_93_2, ix_93_5, ix_93_6, ix_93_7, ix_93_10, ix_93_13, ix_93_23, ix_93_24, ix_93_27, mC_93, mS_93, mH_93, hG.1, GB]
  try simp (disch := omega) only [z_lt, z_le, z_eq, z_in, z_nat, Int.toNat_natCast, upd_z, z_l, zl_0, zl_add, zl_sub, zl_mul, zl_i, zl_eq, zl_div, Int.reduceLT, Int.reduceLE, Int.reduceToNat, Nat.reduceAdd, Nat.reduceLeDiff, not_false_eq_true, true_and, and_true]
  repeat' (first | (with_reducible refine ⟨?_, ?_⟩) | (with_reducible intro _))
  all_goals try (first | exact True.intro | with_reducible rfl | exact absurd True.intro (by assumption) | omega | (exfalso; omega) | (rw [if_pos (by omega)]; done) | (rw [if_neg (by omega)]; done) | exact ⟨rfl, rfl, by omega⟩ | exact Nat.le_of_ble_eq_true rfl)
set_option maxRecDepth 16384 in
theorem sp_97y (hX : h x = some (.inr (11, XF x fl rf uf ue))) (hT : isT h (x + 8) ha N) (hV : TV H nh N) (hH : hsOK H nh) (hkk : ∀ i, i < nh → isH h (ha i) (WH (H i))) (hg : (g : Int) < N 6 1 1) : Sp E (d + 20) 97 [.ref x, .int (z (g : Int))] h sz (rets (some (.int (z (N g 7 10)))) h sz) := by
  have hg6 := hV.1
  obtain ⟨a1, a2, a3⟩ := hV.2 g hg
  have hP := hH.2 (hxi N g) (by unfold hxi; omega)
  have hsz := szP_b hP
  have hp1 := hP.2.1
  have s1 := a2.1
  obtain ⟨v0, v1, v2, v3, v4, v5, v6, v7, v8, v9, v10⟩ := id s1
  have hG := isT_g hT (i := g) (by omega)
  have hW : isH h (ha (N g 7 11).toNat) (WH (H (hxi N g))) := hkk (hxi N g) (by unfold hxi; omega)
  obtain ⟨b0, -⟩ := id hG.2.2.2.2
  refine ⟨mi_97, mt_97, Nat.le_of_ble_eq_true rfl, ?_⟩
  change Rr _ _ _ _ mi_97 _ 0 [some (.ref x), some (.int (z (g : Int)))] [] _ _ 0 0
  refine R_run 60 ?_
  simp only [run_s, run_0, isc, Bool.or_false, Bool.false_or, Bool.or_true, Bool.true_or, Bool.or_self, cond_false, cond_true, gl, sl, stl, stl2, c2, isw, nf, pf, lnb, tk, true_and, and_true, nsg0, nsg1, Int.cast_ofNat_Int, Int.natCast_zero, Int.natCast_one, zero_z, z_add, z_sub, z_mul, z_neg, cnd_eq, cnd_ne, cnd_lt, cnd_ge, cnd_gt, cnd_le, vok_0, vok_3r, vok_3n, vok_4, Nat.add_zero, Nat.zero_add, Nat.reduceAdd, Nat.reduceSub, Nat.reduceMod, Nat.reduceDiv, Nat.reduceEqDiff, Nat.reduceLeDiff, Nat.reduceMul, Int.reduceNeg, if_true, if_false, ite_true, ite_false, reduceIte, hup_app, Nat.add_left_cancel_iff, Nat.left_eq_add, Nat.add_eq_left, reduceCtorEq, subc_0, subc_1, subc_2, subc_3, subc_4, subc_5, subc_6, subc_7, subc_8, subc_9, subc_10, subc_11, subc_12, sube_2, sube_3, sube_5, sube_8, sube_9, sube_10, rets_ok, va_rfs, true_or, or_true, or_false, false_or, sI_aload_n, sI_getfield, sI_iload_n, sI_invokevirtual, sI_ireturn, ix_97_0, ix_97_1, ix_97_2, ix_97_5, ix_97_8, ix_97_11, mC_97, mS_97, mH_97]
  refine R_cV ix_97_2 (by decide) (by decide) rfl (hX) rfl (sp_116y (d := d + 10) hX hT hV hg) (Nat.le_of_ble_eq_true rfl) (by rw [mcs_116, mC_97]; omega) (by rw [mcs_116, mS_97]; omega) ?_
  simp only [mcs_116, vpu, Nat.add_zero, Nat.zero_add, Nat.reduceAdd]
  refine R_run 60 ?_
  simp only [run_s, run_0, isc, Bool.or_false, Bool.false_or, Bool.or_true, Bool.true_or, Bool.or_self, cond_false, cond_true, gl, sl, stl, stl2, c2, isw, nf, pf, lnb, tk, true_and, and_true, nsg0, nsg1, Int.cast_ofNat_Int, Int.natCast_zero, Int.natCast_one, zero_z, z_add, z_sub, z_mul, z_neg, cnd_eq, cnd_ne, cnd_lt, cnd_ge, cnd_gt, cnd_le, vok_0, vok_3r, vok_3n, vok_4, Nat.add_zero, Nat.zero_add, Nat.reduceAdd, Nat.reduceSub, Nat.reduceMod, Nat.reduceDiv, Nat.reduceEqDiff, Nat.reduceLeDiff, Nat.reduceMul, Int.reduceNeg, if_true, if_false, ite_true, ite_false, reduceIte, hup_app, Nat.add_left_cancel_iff, Nat.left_eq_add, Nat.add_eq_left, reduceCtorEq, subc_0, subc_1, subc_2, subc_3, subc_4, subc_5, subc_6, subc_7, subc_8, subc_9, subc_10, subc_11, subc_12, sube_2, sube_3, sube_5, sube_8, sube_9, sube_10, rets_ok, va_rfs, true_or, or_true, or_false, false_or, sI_aload_n, sI_getfield, sI_iload_n, sI_invokevirtual, sI_ireturn, ix_97_0, ix_97_1, ix_97_2, ix_97_5, ix_97_8, ix_97_11, mC_97, mS_97, mH_97, hG.1, b0, GB, BB]
set_option maxRecDepth 16384 in
theorem sp_98y {p : Nat} (hX : h x = some (.inr (11, XF x fl rf uf ue))) (hT : isT h (x + 8) ha N) (hV : TV H nh N) (hH : hsOK H nh) (hkk : ∀ i, i < nh → isH h (ha i) (WH (H i))) (hg : (g : Int) < N 6 1 1) (hp : (p : Int) < N g 7 9) : Sp E (d + 20) 98 [.ref x, .int (z (g : Int)), .int (z (p : Int))] h sz (rets (some (.int (z (N g 6 p)))) h sz) := by
  have hg6 := hV.1
  obtain ⟨a1, a2, a3⟩ := hV.2 g hg
  have hP := hH.2 (hxi N g) (by unfold hxi; omega)
  have hsz := szP_b hP
  have hp1 := hP.2.1
  have s1 := a2.1
  obtain ⟨v0, v1, v2, v3, v4, v5, v6, v7, v8, v9, v10⟩ := id s1
  have hG := isT_g hT (i := g) (by omega)
  have hW : isH h (ha (N g 7 11).toNat) (WH (H (hxi N g))) := hkk (hxi N g) (by unfold hxi; omega)
  have s11 := s1.2.2.2.2.2.2.2.2.2.2
  obtain ⟨b0, -⟩ := id hG.2.2.2.2
  have s7 := sp_7 (E := E) (d := d + 18) (sz := sz) hG.2.2.2.2 (k := (p : Int)) (by omega) (by omega)
  rw [Int.toNat_natCast] at s7
  refine ⟨mi_98, mt_98, Nat.le_of_ble_eq_true rfl, ?_⟩
  change Rr _ _ _ _ mi_98 _ 0 [some (.ref x), some (.int (z (g : Int))), some (.int (z (p : Int))), none] [] _ _ 0 0
  refine R_run 60 ?_
  simp only [run_s, run_0, isc, Bool.or_false, Bool.false_or, Bool.or_true, Bool.true_or, Bool.or_self, cond_false, cond_true, gl, sl, stl, stl2, c2, isw, nf, pf, lnb, tk, true_and, and_true, nsg0, nsg1, Int.cast_ofNat_Int, Int.natCast_zero, Int.natCast_one, zero_z, z_add, z_sub, z_mul, z_neg, cnd_eq, cnd_ne, cnd_lt, cnd_ge, cnd_gt, cnd_le, vok_0, vok_3r, vok_3n, vok_4, Nat.add_zero, Nat.zero_add, Nat.reduceAdd, Nat.reduceSub, Nat.reduceMod, Nat.reduceDiv, Nat.reduceEqDiff, Nat.reduceLeDiff, Nat.reduceMul, Int.reduceNeg, if_true, if_false, ite_true, ite_false, reduceIte, hup_app, Nat.add_left_cancel_iff, Nat.left_eq_add, Nat.add_eq_left, reduceCtorEq, subc_0, subc_1, subc_2, subc_3, subc_4, subc_5, subc_6, subc_7, subc_8, subc_9, subc_10, subc_11, subc_12, sube_2, sube_3, sube_5, sube_8, sube_9, sube_10, rets_ok, va_rfs, true_or, or_true, or_false, false_or, sI_aload_n, sI_astore_n, sI_getfield, sI_ifCond, sI_if_icmp, sI_iload_n, sI_invokevirtual, sI_ireturn, sI_new, ix_98_0, ix_98_1, ix_98_2, ix_98_5, ix_98_6, ix_98_7, ix_98_10, ix_98_11, ix_98_12, ix_98_15, ix_98_18, ix_98_21, ix_98_31, ix_98_32, ix_98_35, ix_98_36, ix_98_39, mC_98, mS_98, mH_98]
  refine R_cV ix_98_2 (by decide) (by decide) rfl (hX) rfl (sp_116y (d := d + 10) hX hT hV hg) (Nat.le_of_ble_eq_true rfl) (by rw [mcs_116, mC_98]; omega) (by rw [mcs_116, mS_98]; omega) ?_
  simp only [mcs_116, vpu, Nat.add_zero, Nat.zero_add, Nat.reduceAdd]
  refine R_run 60 ?_
  simp only [run_s, run_0, isc, Bool.or_false, Bool.false_or, Bool.or_true, Bool.true_or, Bool.or_self, cond_false, cond_true, gl, sl, stl, stl2, c2, isw, nf, pf, lnb, tk, true_and, and_true, nsg0, nsg1, Int.cast_ofNat_Int, Int.natCast_zero, Int.natCast_one, zero_z, z_add, z_sub, z_mul, z_neg, cnd_eq, cnd_ne, cnd_lt, cnd_ge, cnd_gt, cnd_le, vok_0, vok_3r, vok_3n, vok_4, Nat.add_zero, Nat.zero_add, Nat.reduceAdd, Nat.reduceSub, Nat.reduceMod, Nat.reduceDiv, Nat.reduceEqDiff, Nat.reduceLeDiff, Nat.reduceMul, Int.reduceNeg, if_true, if_false, ite_true, ite_false, reduceIte, hup_app, Nat.add_left_cancel_iff, Nat.left_eq_add, Nat.add_eq_left, reduceCtorEq, subc_0, subc_1, subc_2, subc_3, subc_4, subc_5, subc_6, subc_7, subc_8, subc_9, subc_10, subc_11, subc_12, sube_2, sube_3, sube_5, sube_8, sube_9, sube_10, rets_ok, va_rfs, true_or, or_true, or_false, false_or, sI_aload_n, sI_astore_n, sI_getfield, sI_ifCond, sI_if_icmp, sI_iload_n, sI_invokevirtual, sI_ireturn, sI_new, ix_98_0, ix_98_1, ix_98_2, ix_98_5, ix_98_6, ix_98_7, ix_98_10, ix_98_11, ix_98_12, ix_98_15, ix_98_18, ix_98_21, ix_98_31, ix_98_32, ix_98_35, ix_98_36, ix_98_39, mC_98, mS_98, mH_98, hG.1, b0, GB, BB]
  try simp (disch := omega) only [z_lt, z_le, z_eq, z_in, z_nat, Int.toNat_natCast, upd_z, z_l, zl_0, zl_add, zl_sub, zl_mul, zl_i, zl_eq, zl_div, Int.reduceLT, Int.reduceLE, Int.reduceToNat, Nat.reduceAdd, Nat.reduceLeDiff, not_false_eq_true, true_and, and_true]
  repeat' (first | (with_reducible refine ⟨?_, ?_⟩) | (with_reducible intro _))
  all_goals try (first | exact True.intro | with_reducible rfl | exact absurd True.intro (by assumption) | omega | (exfalso; omega) | (rw [if_pos (by omega)]; done) | (rw [if_neg (by omega)]; done))
  refine R_cV ix_98_36 (by decide) (by decide) rfl (b0) rfl (s7) (Nat.le_of_ble_eq_true rfl) (by rw [mcs_7, mC_98]; omega) (by rw [mcs_7, mS_98]; omega) ?_
  simp only [mcs_7, vpu, Nat.add_zero, Nat.zero_add, Nat.reduceAdd]
  refine R_run 60 ?_
  simp only [run_s, run_0, isc, Bool.or_false, Bool.false_or, Bool.or_true, Bool.true_or, Bool.or_self, cond_false, cond_true, gl, sl, stl, stl2, c2, isw, nf, pf, lnb, tk, true_and, and_true, nsg0, nsg1, Int.cast_ofNat_Int, Int.natCast_zero, Int.natCast_one, zero_z, z_add, z_sub, z_mul, z_neg, cnd_eq, cnd_ne, cnd_lt, cnd_ge, cnd_gt, cnd_le, vok_0, vok_3r, vok_3n, vok_4, Nat.add_zero, Nat.zero_add, Nat.reduceAdd, Nat.reduceSub, Nat.reduceMod, Nat.reduceDiv, Nat.reduceEqDiff, Nat.reduceLeDiff, Nat.reduceMul, Int.reduceNeg, if_true, if_false, ite_true, ite_false, reduceIte, hup_app, Nat.add_left_cancel_iff, Nat.left_eq_add, Nat.add_eq_left, reduceCtorEq, subc_0, subc_1, subc_2, subc_3, subc_4, subc_5, subc_6, subc_7, subc_8, subc_9, subc_10, subc_11, subc_12, sube_2, sube_3, sube_5, sube_8, sube_9, sube_10, rets_ok, va_rfs, true_or, or_true, or_false, false_or, sI_aload_n, sI_astore_n, sI_getfield, sI_ifCond, sI_if_icmp, sI_iload_n, sI_invokevirtual, sI_ireturn, sI_new, ix_98_0, ix_98_1, ix_98_2, ix_98_5, ix_98_6, ix_98_7, ix_98_10, ix_98_11, ix_98_12, ix_98_15, ix_98_18, ix_98_21, ix_98_31, ix_98_32, ix_98_35, ix_98_36, ix_98_39, mC_98, mS_98, mH_98]
set_option maxRecDepth 16384 in
theorem sp_98e {p : Int} (hX : h x = some (.inr (11, XF x fl rf uf ue))) (hT : isT h (x + 8) ha N) (hV : TV H nh N) (hH : hsOK H nh) (hkk : ∀ i, i < nh → isH h (ha i) (WH (H i))) (hg : (g : Int) < N 6 1 1) (hr : -2147483648 ≤ p ∧ p ≤ 2147483647) (hp : p < 0 ∨ N g 7 9 ≤ p) : Sp E (d + 20) 98 [.ref x, .int (z (g : Int)), .int (z p)] h sz (thrs eIOB h sz) := by
  have hg6 := hV.1
  obtain ⟨a1, a2, a3⟩ := hV.2 g hg
  have hP := hH.2 (hxi N g) (by unfold hxi; omega)
  have hsz := szP_b hP
  have hp1 := hP.2.1
  have s1 := a2.1
  obtain ⟨v0, v1, v2, v3, v4, v5, v6, v7, v8, v9, v10⟩ := id s1
  have hG := isT_g hT (i := g) (by omega)
  have hW : isH h (ha (N g 7 11).toNat) (WH (H (hxi N g))) := hkk (hxi N g) (by unfold hxi; omega)
  have s11 := s1.2.2.2.2.2.2.2.2.2.2
  obtain ⟨b0, -⟩ := id hG.2.2.2.2
  refine ⟨mi_98, mt_98, Nat.le_of_ble_eq_true rfl, ?_⟩
  change Rr _ _ _ _ mi_98 _ 0 [some (.ref x), some (.int (z (g : Int))), some (.int (z p)), none] [] _ _ 0 0
  refine R_run 60 ?_
  simp only [run_s, run_0, isc, Bool.or_false, Bool.false_or, Bool.or_true, Bool.true_or, Bool.or_self, cond_false, cond_true, gl, sl, stl, stl2, c2, isw, nf, pf, lnb, tk, true_and, and_true, nsg0, nsg1, Int.cast_ofNat_Int, Int.natCast_zero, Int.natCast_one, zero_z, z_add, z_sub, z_mul, z_neg, cnd_eq, cnd_ne, cnd_lt, cnd_ge, cnd_gt, cnd_le, vok_0, vok_3r, vok_3n, vok_4, Nat.add_zero, Nat.zero_add, Nat.reduceAdd, Nat.reduceSub, Nat.reduceMod, Nat.reduceDiv, Nat.reduceEqDiff, Nat.reduceLeDiff, Nat.reduceMul, Int.reduceNeg, if_true, if_false, ite_true, ite_false, reduceIte, hup_app, Nat.add_left_cancel_iff, Nat.left_eq_add, Nat.add_eq_left, reduceCtorEq, subc_0, subc_1, subc_2, subc_3, subc_4, subc_5, subc_6, subc_7, subc_8, subc_9, subc_10, subc_11, subc_12, sube_2, sube_3, sube_5, sube_8, sube_9, sube_10, rets_ok, va_rfs, true_or, or_true, or_false, false_or, sI_aload_n, sI_astore_n, sI_getfield, sI_ifCond, sI_if_icmp, sI_iload_n, sI_invokevirtual, sI_ireturn, sI_new, ix_98_0, ix_98_1, ix_98_2, ix_98_5, ix_98_6, ix_98_7, ix_98_10, ix_98_11, ix_98_12, ix_98_15, ix_98_18, ix_98_21, ix_98_31, ix_98_32, ix_98_35, ix_98_36, ix_98_39, mC_98, mS_98, mH_98]
  refine R_cV ix_98_2 (by decide) (by decide) rfl (hX) rfl (sp_116y (d := d + 10) hX hT hV hg) (Nat.le_of_ble_eq_true rfl) (by rw [mcs_116, mC_98]; omega) (by rw [mcs_116, mS_98]; omega) ?_
  simp only [mcs_116, vpu, Nat.add_zero, Nat.zero_add, Nat.reduceAdd]
  refine R_run 60 ?_
  simp only [run_s, run_0, isc, Bool.or_false, Bool.false_or, Bool.or_true, Bool.true_or, Bool.or_self, cond_false, cond_true, gl, sl, stl, stl2, c2, isw, nf, pf, lnb, tk, true_and, and_true, nsg0, nsg1, Int.cast_ofNat_Int, Int.natCast_zero, Int.natCast_one, zero_z, z_add, z_sub, z_mul, z_neg, cnd_eq, cnd_ne, cnd_lt, cnd_ge, cnd_gt, cnd_le, vok_0, vok_3r, vok_3n, vok_4, Nat.add_zero, Nat.zero_add, Nat.reduceAdd, Nat.reduceSub, Nat.reduceMod, Nat.reduceDiv, Nat.reduceEqDiff, Nat.reduceLeDiff, Nat.reduceMul, Int.reduceNeg, if_true, if_false, ite_true, ite_false, reduceIte, hup_app, Nat.add_left_cancel_iff, Nat.left_eq_add, Nat.add_eq_left, reduceCtorEq, subc_0, subc_1, subc_2, subc_3, subc_4, subc_5, subc_6, subc_7, subc_8, subc_9, subc_10, subc_11, subc_12, sube_2, sube_3, sube_5, sube_8, sube_9, sube_10, rets_ok, va_rfs, true_or, or_true, or_false, false_or, sI_aload_n, sI_astore_n, sI_getfield, sI_ifCond, sI_if_icmp, sI_iload_n, sI_invokevirtual, sI_ireturn, sI_new, ix_98_0, ix_98_1, ix_98_2, ix_98_5, ix_98_6, ix_98_7, ix_98_10, ix_98_11, ix_98_12, ix_98_15, ix_98_18, ix_98_21, ix_98_31, ix_98_32, ix_98_35, ix_98_36, ix_98_39, mC_98, mS_98, mH_98, hG.1, b0, GB, BB]
  try simp (disch := omega) only [z_lt, z_le, z_eq, z_in, z_nat, Int.toNat_natCast, upd_z, z_l, zl_0, zl_add, zl_sub, zl_mul, zl_i, zl_eq, zl_div, Int.reduceLT, Int.reduceLE, Int.reduceToNat, Nat.reduceAdd, Nat.reduceLeDiff, not_false_eq_true, true_and, and_true]
  repeat' (first | (with_reducible refine ⟨?_, ?_⟩) | (with_reducible intro _))
  all_goals try (first | exact True.intro | with_reducible rfl | exact absurd True.intro (by assumption) | omega | (exfalso; omega) | (rw [if_pos (by omega)]; done) | (rw [if_neg (by omega)]; done) | exact ⟨rfl, rfl, by omega⟩ | exact Nat.le_of_ble_eq_true rfl)
set_option maxRecDepth 16384 in
theorem sp_101y (hX : h x = some (.inr (11, XF x fl rf uf ue))) (hT : isT h (x + 8) ha N) (hV : TV H nh N) (hH : hsOK H nh) (hkk : ∀ i, i < nh → isH h (ha i) (WH (H i))) (hg : (g : Int) < N 6 1 1) : Sp E (d + 20) 101 [.ref x, .int (z (g : Int))] h sz (rets (some (.int (z (N g 7 7)))) h sz) := by
  have hg6 := hV.1
  obtain ⟨a1, a2, a3⟩ := hV.2 g hg
  have hP := hH.2 (hxi N g) (by unfold hxi; omega)
  have hsz := szP_b hP
  have hp1 := hP.2.1
  have s1 := a2.1
  obtain ⟨v0, v1, v2, v3, v4, v5, v6, v7, v8, v9, v10⟩ := id s1
  have hG := isT_g hT (i := g) (by omega)
  have hW : isH h (ha (N g 7 11).toNat) (WH (H (hxi N g))) := hkk (hxi N g) (by unfold hxi; omega)
  have s9 := s1.2.2.2.2.2.2.2.2.1
  have hv := vok_z2 (a := N g 7 7) (by omega) (by omega)
  refine ⟨mi_101, mt_101, Nat.le_of_ble_eq_true rfl, ?_⟩
  change Rr _ _ _ _ mi_101 _ 0 [some (.ref x), some (.int (z (g : Int)))] [] _ _ 0 0
  refine R_run 60 ?_
  simp only [run_s, run_0, isc, Bool.or_false, Bool.false_or, Bool.or_true, Bool.true_or, Bool.or_self, cond_false, cond_true, gl, sl, stl, stl2, c2, isw, nf, pf, lnb, tk, true_and, and_true, nsg0, nsg1, Int.cast_ofNat_Int, Int.natCast_zero, Int.natCast_one, zero_z, z_add, z_sub, z_mul, z_neg, cnd_eq, cnd_ne, cnd_lt, cnd_ge, cnd_gt, cnd_le, vok_0, vok_3r, vok_3n, vok_4, Nat.add_zero, Nat.zero_add, Nat.reduceAdd, Nat.reduceSub, Nat.reduceMod, Nat.reduceDiv, Nat.reduceEqDiff, Nat.reduceLeDiff, Nat.reduceMul, Int.reduceNeg, if_true, if_false, ite_true, ite_false, reduceIte, hup_app, Nat.add_left_cancel_iff, Nat.left_eq_add, Nat.add_eq_left, reduceCtorEq, subc_0, subc_1, subc_2, subc_3, subc_4, subc_5, subc_6, subc_7, subc_8, subc_9, subc_10, subc_11, subc_12, sube_2, sube_3, sube_5, sube_8, sube_9, sube_10, rets_ok, va_rfs, true_or, or_true, or_false, false_or, sI_aload_n, sI_getfield, sI_iload_n, sI_invokevirtual, sI_ireturn, ix_101_0, ix_101_1, ix_101_2, ix_101_5, ix_101_8, mC_101, mS_101, mH_101]
  refine R_cV ix_101_2 (by decide) (by decide) rfl (hX) rfl (sp_116y (d := d + 10) hX hT hV hg) (Nat.le_of_ble_eq_true rfl) (by rw [mcs_116, mC_101]; omega) (by rw [mcs_116, mS_101]; omega) ?_
  simp only [mcs_116, vpu, Nat.add_zero, Nat.zero_add, Nat.reduceAdd]
  refine R_run 60 ?_
  simp only [run_s, run_0, isc, Bool.or_false, Bool.false_or, Bool.or_true, Bool.true_or, Bool.or_self, cond_false, cond_true, gl, sl, stl, stl2, c2, isw, nf, pf, lnb, tk, true_and, and_true, nsg0, nsg1, Int.cast_ofNat_Int, Int.natCast_zero, Int.natCast_one, zero_z, z_add, z_sub, z_mul, z_neg, cnd_eq, cnd_ne, cnd_lt, cnd_ge, cnd_gt, cnd_le, vok_0, vok_3r, vok_3n, vok_4, Nat.add_zero, Nat.zero_add, Nat.reduceAdd, Nat.reduceSub, Nat.reduceMod, Nat.reduceDiv, Nat.reduceEqDiff, Nat.reduceLeDiff, Nat.reduceMul, Int.reduceNeg, if_true, if_false, ite_true, ite_false, reduceIte, hup_app, Nat.add_left_cancel_iff, Nat.left_eq_add, Nat.add_eq_left, reduceCtorEq, subc_0, subc_1, subc_2, subc_3, subc_4, subc_5, subc_6, subc_7, subc_8, subc_9, subc_10, subc_11, subc_12, sube_2, sube_3, sube_5, sube_8, sube_9, sube_10, rets_ok, va_rfs, true_or, or_true, or_false, false_or, sI_aload_n, sI_getfield, sI_iload_n, sI_invokevirtual, sI_ireturn, ix_101_0, ix_101_1, ix_101_2, ix_101_5, ix_101_8, mC_101, mS_101, mH_101, hG.1, GB, hv]
end RDD
