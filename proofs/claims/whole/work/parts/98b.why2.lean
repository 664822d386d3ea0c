/-! ===== why, in the reference, told ===== -/
section RASK9
variable {E : EX} {d : Nat} {h : AH} {sz m g : Nat} {H : HT} {nh : Nat} {J : GS} {n fl : Nat} {cu : Nat → Nat} {nc : Nat} {rf uf ue : Int} {N : TT} {M M' : GS}
set_option maxRecDepth 16384 in
theorem m_165y {kk : Int} (hS : sC H nh J n fl cu nc rf uf ue) (k : rC H nh J n fl cu nc rf uf ue N M) (hr : -2147483648 ≤ kk ∧ kk ≤ 2147483647) (hk : rf = 1 ∧ (kk = 0 ∨ (uf = 1 ∧ kk = 1))) : Sp E (d + 21) 165 [.ref m, .int (z kk)] (mh h m M) sz (rets (some (.int (z (whyV rf uf ue kk)))) (mh h m (th M 0)) sz) := by
  obtain ⟨w1, w2, w3⟩ := k.2.1
  obtain ⟨q1, q2, q3⟩ := hS.2.2.2.2.2.2.2
  obtain ⟨r1, hk2⟩ := hk
  have t4 : ((z 104).toUInt32 % 65536).toInt32 = z 104 := i2c_z (v := 104) (by decide)
  have t2 : ((z 102).toUInt32 % 65536).toInt32 = z 102 := i2c_z (v := 102) (by decide)
  have v4 := vok_z2 (show (0:Int) ≤ 104 by decide) (by decide)
  have v2 := vok_z2 (show (0:Int) ≤ 102 by decide) (by decide)
  obtain ⟨u, hu⟩ : ∃ u : Nat, 48 + ue = u := ⟨(48 + ue).toNat, by omega⟩
  have tu := i2c_z (v := u) (by omega)
  have vu := vok_z2 (a := (u : Int)) (by omega) (by omega)
  rcases hk2 with h0 | ⟨h1, h2⟩
  · subst h0
    have e : whyV rf uf ue 0 = if uf = 1 then 102 else 104 := if_pos ⟨r1, rfl⟩
    rw [e]
    rcases q2 with u0 | u1
    · obtain ⟨x1, x2⟩ := w2 r1 u0
      rw [if_neg (by omega)]
      refine ⟨mi_165, mt_165, Nat.le_of_ble_eq_true rfl, ?_⟩
      change Rr _ _ _ _ mi_165 _ 0 [some (.ref m), some (.int (z 0)), none] [] _ _ 0 0
      refine R_run 60 ?_
      simp only [run_s, run_0, isc, Bool.or_false, Bool.false_or, Bool.or_true, Bool.true_or, Bool.or_self, cond_false, cond_true, gl, sl, stl, stl2, c2, isw, nf, pf, lnb, tk, true_and, and_true, nsg0, nsg1, Int.cast_ofNat_Int, Int.natCast_zero, Int.natCast_one, zero_z, z_add, z_sub, z_mul, z_neg, cnd_eq, cnd_ne, cnd_lt, cnd_ge, cnd_gt, cnd_le, vok_0, vok_3r, vok_3n, vok_4, Nat.add_zero, Nat.zero_add, Nat.reduceAdd, Nat.reduceSub, Nat.reduceMod, Nat.reduceDiv, Nat.reduceEqDiff, Nat.reduceLeDiff, Nat.reduceMul, Int.reduceNeg, if_true, if_false, ite_true, ite_false, reduceIte, hup_app, Nat.add_left_cancel_iff, Nat.left_eq_add, Nat.add_eq_left, reduceCtorEq, subc_0, subc_1, subc_2, subc_3, subc_4, subc_5, subc_6, subc_7, subc_8, subc_9, subc_10, subc_11, subc_12, sube_2, sube_3, sube_5, sube_8, sube_9, sube_10, rets_ok, va_rfs, true_or, or_true, or_false, false_or, sI_aload_n, sI_bipush, sI_getfield, sI_goto, sI_i2c, sI_iadd, sI_iconst, sI_ifCond, sI_if_icmp, sI_iload_n, sI_ireturn, sI_istore_n, sI_putfield, ix_165_0, ix_165_1, ix_165_4, ix_165_5, ix_165_8, ix_165_9, ix_165_12, ix_165_13, ix_165_14, ix_165_17, ix_165_18, ix_165_21, ix_165_22, ix_165_25, ix_165_26, ix_165_29, ix_165_30, ix_165_31, ix_165_32, ix_165_33, ix_165_36, ix_165_37, ix_165_40, ix_165_41, ix_165_44, ix_165_45, ix_165_48, ix_165_51, ix_165_53, ix_165_56, ix_165_57, ix_165_60, ix_165_61, ix_165_64, ix_165_65, ix_165_68, ix_165_70, ix_165_71, ix_165_74, ix_165_75, ix_165_76, mC_165, mS_165, mH_165, sr_at, mr_0, mn_0, mn_39, mn_40, mp_0, ml_0, mw_0, x1, x2, st1_at, t4, v4]
      try simp (disch := omega) only [z_lt, z_le, z_eq, z_in, z_nat, Int.toNat_natCast, upd_z, z_l, zl_0, zl_add, zl_sub, zl_mul, zl_i, zl_eq, zl_div, Int.reduceLT, Int.reduceLE, Int.reduceToNat, Nat.reduceAdd, Nat.reduceLeDiff, not_false_eq_true, true_and, and_true]
      repeat' (first | (with_reducible refine ⟨?_, ?_⟩) | (with_reducible intro _))
      all_goals try (first | exact True.intro | with_reducible rfl | exact absurd True.intro (by assumption) | omega | (exfalso; omega) | (rw [if_pos (by omega)]; done) | (rw [if_neg (by omega)]; done) | rfl)
    · obtain ⟨x1, x2⟩ := w3 r1 u1
      rw [if_pos u1]
      refine ⟨mi_165, mt_165, Nat.le_of_ble_eq_true rfl, ?_⟩
      change Rr _ _ _ _ mi_165 _ 0 [some (.ref m), some (.int (z 0)), none] [] _ _ 0 0
      refine R_run 60 ?_
      simp only [run_s, run_0, isc, Bool.or_false, Bool.false_or, Bool.or_true, Bool.true_or, Bool.or_self, cond_false, cond_true, gl, sl, stl, stl2, c2, isw, nf, pf, lnb, tk, true_and, and_true, nsg0, nsg1, Int.cast_ofNat_Int, Int.natCast_zero, Int.natCast_one, zero_z, z_add, z_sub, z_mul, z_neg, cnd_eq, cnd_ne, cnd_lt, cnd_ge, cnd_gt, cnd_le, vok_0, vok_3r, vok_3n, vok_4, Nat.add_zero, Nat.zero_add, Nat.reduceAdd, Nat.reduceSub, Nat.reduceMod, Nat.reduceDiv, Nat.reduceEqDiff, Nat.reduceLeDiff, Nat.reduceMul, Int.reduceNeg, if_true, if_false, ite_true, ite_false, reduceIte, hup_app, Nat.add_left_cancel_iff, Nat.left_eq_add, Nat.add_eq_left, reduceCtorEq, subc_0, subc_1, subc_2, subc_3, subc_4, subc_5, subc_6, subc_7, subc_8, subc_9, subc_10, subc_11, subc_12, sube_2, sube_3, sube_5, sube_8, sube_9, sube_10, rets_ok, va_rfs, true_or, or_true, or_false, false_or, sI_aload_n, sI_bipush, sI_getfield, sI_goto, sI_i2c, sI_iadd, sI_iconst, sI_ifCond, sI_if_icmp, sI_iload_n, sI_ireturn, sI_istore_n, sI_putfield, ix_165_0, ix_165_1, ix_165_4, ix_165_5, ix_165_8, ix_165_9, ix_165_12, ix_165_13, ix_165_14, ix_165_17, ix_165_18, ix_165_21, ix_165_22, ix_165_25, ix_165_26, ix_165_29, ix_165_30, ix_165_31, ix_165_32, ix_165_33, ix_165_36, ix_165_37, ix_165_40, ix_165_41, ix_165_44, ix_165_45, ix_165_48, ix_165_51, ix_165_53, ix_165_56, ix_165_57, ix_165_60, ix_165_61, ix_165_64, ix_165_65, ix_165_68, ix_165_70, ix_165_71, ix_165_74, ix_165_75, ix_165_76, mC_165, mS_165, mH_165, sr_at, mr_0, mn_0, mn_39, mn_40, mp_0, ml_0, mw_0, x1, x2, st1_at, t2, v2]
      try simp (disch := omega) only [z_lt, z_le, z_eq, z_in, z_nat, Int.toNat_natCast, upd_z, z_l, zl_0, zl_add, zl_sub, zl_mul, zl_i, zl_eq, zl_div, Int.reduceLT, Int.reduceLE, Int.reduceToNat, Nat.reduceAdd, Nat.reduceLeDiff, not_false_eq_true, true_and, and_true]
      repeat' (first | (with_reducible refine ⟨?_, ?_⟩) | (with_reducible intro _))
      all_goals try (first | exact True.intro | with_reducible rfl | exact absurd True.intro (by assumption) | omega | (exfalso; omega) | (rw [if_pos (by omega)]; done) | (rw [if_neg (by omega)]; done) | rfl)
  · subst h2
    have e : whyV rf uf ue 1 = 48 + ue := if_neg (fun q => absurd q.2 (by decide))
    rw [e]
    obtain ⟨x1, x2⟩ := w3 r1 h1
    refine ⟨mi_165, mt_165, Nat.le_of_ble_eq_true rfl, ?_⟩
    change Rr _ _ _ _ mi_165 _ 0 [some (.ref m), some (.int (z 1)), none] [] _ _ 0 0
    refine R_run 60 ?_
    simp only [run_s, run_0, isc, Bool.or_false, Bool.false_or, Bool.or_true, Bool.true_or, Bool.or_self, cond_false, cond_true, gl, sl, stl, stl2, c2, isw, nf, pf, lnb, tk, true_and, and_true, nsg0, nsg1, Int.cast_ofNat_Int, Int.natCast_zero, Int.natCast_one, zero_z, z_add, z_sub, z_mul, z_neg, cnd_eq, cnd_ne, cnd_lt, cnd_ge, cnd_gt, cnd_le, vok_0, vok_3r, vok_3n, vok_4, Nat.add_zero, Nat.zero_add, Nat.reduceAdd, Nat.reduceSub, Nat.reduceMod, Nat.reduceDiv, Nat.reduceEqDiff, Nat.reduceLeDiff, Nat.reduceMul, Int.reduceNeg, if_true, if_false, ite_true, ite_false, reduceIte, hup_app, Nat.add_left_cancel_iff, Nat.left_eq_add, Nat.add_eq_left, reduceCtorEq, subc_0, subc_1, subc_2, subc_3, subc_4, subc_5, subc_6, subc_7, subc_8, subc_9, subc_10, subc_11, subc_12, sube_2, sube_3, sube_5, sube_8, sube_9, sube_10, rets_ok, va_rfs, true_or, or_true, or_false, false_or, sI_aload_n, sI_bipush, sI_getfield, sI_goto, sI_i2c, sI_iadd, sI_iconst, sI_ifCond, sI_if_icmp, sI_iload_n, sI_ireturn, sI_istore_n, sI_putfield, ix_165_0, ix_165_1, ix_165_4, ix_165_5, ix_165_8, ix_165_9, ix_165_12, ix_165_13, ix_165_14, ix_165_17, ix_165_18, ix_165_21, ix_165_22, ix_165_25, ix_165_26, ix_165_29, ix_165_30, ix_165_31, ix_165_32, ix_165_33, ix_165_36, ix_165_37, ix_165_40, ix_165_41, ix_165_44, ix_165_45, ix_165_48, ix_165_51, ix_165_53, ix_165_56, ix_165_57, ix_165_60, ix_165_61, ix_165_64, ix_165_65, ix_165_68, ix_165_70, ix_165_71, ix_165_74, ix_165_75, ix_165_76, mC_165, mS_165, mH_165, sr_at, mr_0, mn_0, mn_39, mn_40, mp_0, ml_0, mw_0, x1, x2, st1_at, hu, tu, vu]
    try simp (disch := omega) only [z_lt, z_le, z_eq, z_in, z_nat, Int.toNat_natCast, upd_z, z_l, zl_0, zl_add, zl_sub, zl_mul, zl_i, zl_eq, zl_div, Int.reduceLT, Int.reduceLE, Int.reduceToNat, Nat.reduceAdd, Nat.reduceLeDiff, not_false_eq_true, true_and, and_true, hu, tu, vu]
    repeat' (first | (with_reducible refine ⟨?_, ?_⟩) | (with_reducible intro _))
    all_goals try (first | exact True.intro | with_reducible rfl | exact absurd True.intro (by assumption) | omega | (exfalso; omega) | (rw [if_pos (by omega)]; done) | (rw [if_neg (by omega)]; done) | rfl)
end RASK9
