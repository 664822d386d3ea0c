section GAME2
variable {E : EX} {d : Nat} {h : AH} {sz g hs : Nat} {G W : GS}
set_option maxRecDepth 16384 in
theorem sp_39 {w n : Int} (hG : isG h g hs G) (hH : isH h hs W) (hw : G 7 2 = w) (hn : W 3 1 = n) (hw2 : 0 ≤ w ∧ w ≤ 4) (hn2 : 0 ≤ n ∧ n ≤ 4) : Sp E (d + 1) 39 [.ref g] h sz (rets none (blk h g 9 (GB g hs (sr G 7 (st1 (G 7) 2 (if w + 1 < n then w + 1 else 0))))) sz) := by
  obtain ⟨h0, h1, h2, h3, h4, h5, h6, h7, h8⟩ := isG_f hG
  obtain ⟨w0, w1, w2, w3⟩ := hH
  refine ⟨mi_39, mt_39, Nat.le_of_ble_eq_true rfl, ?_⟩
  change Rr _ _ _ _ mi_39 _ 0 [some (.ref g)] [] _ _ 0 0
  refine R_run 60 ?_
  simp only [run_s, run_0, isc, Bool.or_false, Bool.false_or, Bool.or_true, Bool.true_or, Bool.or_self, cond_false, cond_true, gl, sl, stl, stl2, c2, isw, nf, pf, lnb, tk, true_and, and_true, nsg0, nsg1, Int.cast_ofNat_Int, Int.natCast_zero, Int.natCast_one, zero_z, z_add, z_sub, z_mul, z_neg, cnd_eq, cnd_ne, cnd_lt, cnd_ge, cnd_gt, cnd_le, vok_0, vok_3r, vok_3n, vok_4, Nat.add_zero, Nat.zero_add, Nat.reduceAdd, Nat.reduceSub, Nat.reduceMod, Nat.reduceDiv, Nat.reduceEqDiff, Nat.reduceLeDiff, Nat.reduceMul, Int.reduceNeg, if_true, if_false, ite_true, ite_false, reduceIte, hup_app, Nat.add_left_cancel_iff, Nat.left_eq_add, Nat.add_eq_left, reduceCtorEq, subc_0, subc_1, subc_2, subc_3, subc_4, subc_5, subc_6, subc_7, subc_8, subc_9, subc_10, subc_11, subc_12, sube_2, sube_3, sube_5, sube_8, sube_9, sube_10, rets_ok, sI_aload_n, sI_getfield, sI_goto, sI_iadd, sI_iconst, sI_if_icmp, sI_putfield, sI_return_, ix_39_0, ix_39_1, ix_39_2, ix_39_5, ix_39_6, ix_39_7, ix_39_8, ix_39_11, ix_39_14, ix_39_17, ix_39_18, ix_39_21, ix_39_22, ix_39_23, ix_39_26, ix_39_27, ix_39_30, mC_39, mS_39, mH_39, h0, w0, GB, HB, hw, hn]
  simp (disch := omega) only [z_lt, z_le, z_eq, z_in, z_nat, Int.toNat_natCast, upd_z, z_l, zl_0, zl_add, zl_sub, zl_mul, zl_i, zl_eq, zl_div, Int.reduceLT, Int.reduceLE, Int.reduceToNat, Nat.reduceAdd, Nat.reduceLeDiff, not_false_eq_true, true_and, and_true]
  refine ⟨fun q => ?_, fun q => ?_⟩
  · rw [if_neg (by omega)]
    refine fG_eq ⟨?_, ?_, ?_, ?_, ?_, ?_, ?_, ?_, ?_⟩ (fun q hq => ?_)
    all_goals first | (simp only [hup_app, Nat.add_left_cancel_iff, Nat.left_eq_add, Nat.add_eq_left, Nat.reduceEqDiff, reduceCtorEq, if_true, if_false, ite_true, ite_false, reduceIte, upd_z, h1, h2, h3, h4, h5, h6, h7, h8, GB, BB, sr, st1]; done) | (simp only [hup_app, Nat.add_left_cancel_iff, Nat.left_eq_add, Nat.add_eq_left, Nat.reduceEqDiff, reduceCtorEq, if_true, if_false, ite_true, ite_false, reduceIte, upd_z, h1, h2, h3, h4, h5, h6, h7, h8, GB, BB, sr, st1]; rfl) | ((repeat rw [hup_ne _ _ (by omega)]); done) | (rw [hup_ne _ _ (by omega)]; (repeat rw [hup_ne _ _ (by omega)]))
  · rw [if_pos (by omega)]
    refine fG_eq ⟨?_, ?_, ?_, ?_, ?_, ?_, ?_, ?_, ?_⟩ (fun q hq => ?_)
    all_goals first | (simp only [hup_app, Nat.add_left_cancel_iff, Nat.left_eq_add, Nat.add_eq_left, Nat.reduceEqDiff, reduceCtorEq, if_true, if_false, ite_true, ite_false, reduceIte, upd_z, h1, h2, h3, h4, h5, h6, h7, h8, GB, BB, sr, st1]; done) | (simp only [hup_app, Nat.add_left_cancel_iff, Nat.left_eq_add, Nat.add_eq_left, Nat.reduceEqDiff, reduceCtorEq, if_true, if_false, ite_true, ite_false, reduceIte, upd_z, h1, h2, h3, h4, h5, h6, h7, h8, GB, BB, sr, st1]; rfl) | ((repeat rw [hup_ne _ _ (by omega)]); done) | (rw [hup_ne _ _ (by omega)]; (repeat rw [hup_ne _ _ (by omega)]))
/- a tile from the stock into the mover's hand -/
def g_take (G : GS) (w de m o : Nat) : GS := sr (sr G 1 (st1 (G 1) w ((m ||| 2 ^ o : Nat) : Int))) 7 (st1 (G 7) 0 ((de : Int) + 1))
set_option maxRecDepth 16384 in
theorem sp_37 {w de m o : Nat} {n : Int} (hG : isG h g hs G) (hH : isH h hs W) (hw : G 7 2 = w) (hw2 : w < 4) (hd : G 7 0 = de) (hd2 : (de : Int) < n) (hn : W 3 5 = n) (hn2 : n ≤ 28) (hm : G 1 w = m) (ho : G 0 de = o) (ho2 : o < 28) : Sp E (d + 2) 37 [.ref g] h sz (rets none (blk h g 9 (GB g hs (g_take G w de m o))) sz) := by
  have hG' := hG
  obtain ⟨h0, h1, h2, h3, h4, h5, h6, h7, h8⟩ := isG_f hG
  obtain ⟨w0, w1, w2, w3⟩ := hH
  refine ⟨mi_37, mt_37, Nat.le_of_ble_eq_true rfl, ?_⟩
  change Rr _ _ _ _ mi_37 _ 0 [some (.ref g)] [] _ _ 0 0
  refine R_run 60 ?_
  simp only [run_s, run_0, isc, Bool.or_false, Bool.false_or, Bool.or_true, Bool.true_or, Bool.or_self, cond_false, cond_true, gl, sl, stl, stl2, c2, isw, nf, pf, lnb, tk, true_and, and_true, nsg0, nsg1, Int.cast_ofNat_Int, Int.natCast_zero, Int.natCast_one, zero_z, z_add, z_sub, z_mul, z_neg, cnd_eq, cnd_ne, cnd_lt, cnd_ge, cnd_gt, cnd_le, vok_0, vok_3r, vok_3n, vok_4, Nat.add_zero, Nat.zero_add, Nat.reduceAdd, Nat.reduceSub, Nat.reduceMod, Nat.reduceDiv, Nat.reduceEqDiff, Nat.reduceLeDiff, Nat.reduceMul, Int.reduceNeg, if_true, if_false, ite_true, ite_false, reduceIte, hup_app, Nat.add_left_cancel_iff, Nat.left_eq_add, Nat.add_eq_left, reduceCtorEq, subc_0, subc_1, subc_2, subc_3, subc_4, subc_5, subc_6, subc_7, subc_8, subc_9, subc_10, subc_11, subc_12, sube_2, sube_3, sube_5, sube_8, sube_9, sube_10, rets_ok, sI_aload_n, sI_dup, sI_dup2, sI_getfield, sI_iadd, sI_iaload, sI_iastore, sI_iconst, sI_ifCond, sI_if_icmp, sI_invokevirtual, sI_ior, sI_ishl, sI_putfield, sI_return_, ix_37_0, ix_37_1, ix_37_4, ix_37_7, ix_37_8, ix_37_11, ix_37_12, ix_37_15, ix_37_16, ix_37_19, ix_37_20, ix_37_23, ix_37_26, ix_37_29, ix_37_30, ix_37_33, ix_37_34, ix_37_37, ix_37_38, ix_37_39, ix_37_40, ix_37_41, ix_37_44, ix_37_45, ix_37_46, ix_37_47, ix_37_48, ix_37_49, ix_37_52, ix_37_53, ix_37_54, ix_37_57, mC_37, mS_37, mH_37, h0, w0, h2, GB, HB, hw, hn, hd]
  simp (disch := omega) only [z_lt, z_le, z_eq, z_in, z_nat, Int.toNat_natCast, upd_z, z_l, zl_0, zl_add, zl_sub, zl_mul, zl_i, zl_eq, zl_div, Int.reduceLT, Int.reduceLE, Int.reduceToNat, Nat.reduceAdd, Nat.reduceLeDiff, not_false_eq_true, true_and, and_true]
  refine ⟨fun q => absurd q (by omega), fun _ => ⟨fun q => absurd q (by omega), fun _ => ⟨fun q => absurd q (by omega), fun _ => ?_⟩⟩⟩
  refine ⟨by omega, ?_⟩
  have s32 := sp_32 (E := E) (d := d) (sz := sz) hG' (de := (de : Int)) hd (by omega)
  rw [Int.toNat_natCast, ho] at s32
  refine R_run 60 ?_
  simp only [run_s, run_0, isc, Bool.or_false, Bool.false_or, Bool.or_true, Bool.true_or, Bool.or_self, cond_false, cond_true, gl, sl, stl, stl2, c2, isw, nf, pf, lnb, tk, true_and, and_true, nsg0, nsg1, Int.cast_ofNat_Int, Int.natCast_zero, Int.natCast_one, zero_z, z_add, z_sub, z_mul, z_neg, cnd_eq, cnd_ne, cnd_lt, cnd_ge, cnd_gt, cnd_le, vok_0, vok_3r, vok_3n, vok_4, Nat.add_zero, Nat.zero_add, Nat.reduceAdd, Nat.reduceSub, Nat.reduceMod, Nat.reduceDiv, Nat.reduceEqDiff, Nat.reduceLeDiff, Nat.reduceMul, Int.reduceNeg, if_true, if_false, ite_true, ite_false, reduceIte, hup_app, Nat.add_left_cancel_iff, Nat.left_eq_add, Nat.add_eq_left, reduceCtorEq, subc_0, subc_1, subc_2, subc_3, subc_4, subc_5, subc_6, subc_7, subc_8, subc_9, subc_10, subc_11, subc_12, sube_2, sube_3, sube_5, sube_8, sube_9, sube_10, rets_ok, sI_aload_n, sI_dup, sI_dup2, sI_getfield, sI_iadd, sI_iaload, sI_iastore, sI_iconst, sI_ifCond, sI_if_icmp, sI_invokevirtual, sI_ior, sI_ishl, sI_putfield, sI_return_, ix_37_0, ix_37_1, ix_37_4, ix_37_7, ix_37_8, ix_37_11, ix_37_12, ix_37_15, ix_37_16, ix_37_19, ix_37_20, ix_37_23, ix_37_26, ix_37_29, ix_37_30, ix_37_33, ix_37_34, ix_37_37, ix_37_38, ix_37_39, ix_37_40, ix_37_41, ix_37_44, ix_37_45, ix_37_46, ix_37_47, ix_37_48, ix_37_49, ix_37_52, ix_37_53, ix_37_54, ix_37_57, mC_37, mS_37, mH_37]
  refine R_cV ix_37_41 (by decide) (by decide) rfl h0 rfl (s32) (Nat.le_of_ble_eq_true rfl) (by rw [mcs_32, mC_37]; omega) (by rw [mcs_32, mS_37]; omega) ?_
  simp only [mcs_32, vpu, Nat.add_zero, Nat.zero_add, Nat.reduceAdd]
  refine R_run 60 ?_
  simp only [run_s, run_0, isc, Bool.or_false, Bool.false_or, Bool.or_true, Bool.true_or, Bool.or_self, cond_false, cond_true, gl, sl, stl, stl2, c2, isw, nf, pf, lnb, tk, true_and, and_true, nsg0, nsg1, Int.cast_ofNat_Int, Int.natCast_zero, Int.natCast_one, zero_z, z_add, z_sub, z_mul, z_neg, cnd_eq, cnd_ne, cnd_lt, cnd_ge, cnd_gt, cnd_le, vok_0, vok_3r, vok_3n, vok_4, Nat.add_zero, Nat.zero_add, Nat.reduceAdd, Nat.reduceSub, Nat.reduceMod, Nat.reduceDiv, Nat.reduceEqDiff, Nat.reduceLeDiff, Nat.reduceMul, Int.reduceNeg, if_true, if_false, ite_true, ite_false, reduceIte, hup_app, Nat.add_left_cancel_iff, Nat.left_eq_add, Nat.add_eq_left, reduceCtorEq, subc_0, subc_1, subc_2, subc_3, subc_4, subc_5, subc_6, subc_7, subc_8, subc_9, subc_10, subc_11, subc_12, sube_2, sube_3, sube_5, sube_8, sube_9, sube_10, rets_ok, sI_aload_n, sI_dup, sI_dup2, sI_getfield, sI_iadd, sI_iaload, sI_iastore, sI_iconst, sI_ifCond, sI_if_icmp, sI_invokevirtual, sI_ior, sI_ishl, sI_putfield, sI_return_, ix_37_0, ix_37_1, ix_37_4, ix_37_7, ix_37_8, ix_37_11, ix_37_12, ix_37_15, ix_37_16, ix_37_19, ix_37_20, ix_37_23, ix_37_26, ix_37_29, ix_37_30, ix_37_33, ix_37_34, ix_37_37, ix_37_38, ix_37_39, ix_37_40, ix_37_41, ix_37_44, ix_37_45, ix_37_46, ix_37_47, ix_37_48, ix_37_49, ix_37_52, ix_37_53, ix_37_54, ix_37_57, mC_37, mS_37, mH_37, h0, h2, GB, hw, hd]
  rw [z_31, z_shl1 (by omega)]
  simp (disch := omega) only [z_lt, z_le, z_eq, z_in, z_nat, Int.toNat_natCast, upd_z, z_l, zl_0, zl_add, zl_sub, zl_mul, zl_i, zl_eq, zl_div, Int.reduceLT, Int.reduceLE, Int.reduceToNat, Nat.reduceAdd, Nat.reduceLeDiff, not_false_eq_true, true_and, and_true, hm]
  rw [z_or]
  simp (disch := omega) only [z_lt, z_le, z_eq, z_in, z_nat, Int.toNat_natCast, upd_z, z_l, zl_0, zl_add, zl_sub, zl_mul, zl_i, zl_eq, zl_div, Int.reduceLT, Int.reduceLE, Int.reduceToNat, Nat.reduceAdd, Nat.reduceLeDiff, not_false_eq_true, true_and, and_true]
  refine ⟨by omega, ?_⟩
  refine fG_eq ⟨?_, ?_, ?_, ?_, ?_, ?_, ?_, ?_, ?_⟩ (fun q hq => ?_)
  all_goals first | (simp only [hup_app, Nat.add_left_cancel_iff, Nat.left_eq_add, Nat.add_eq_left, Nat.reduceEqDiff, reduceCtorEq, if_true, if_false, ite_true, ite_false, reduceIte, upd_z, h1, h2, h3, h4, h5, h6, h7, h8, hw, GB, BB, sr, st1, g_take]; done) | (simp only [hup_app, Nat.add_left_cancel_iff, Nat.left_eq_add, Nat.add_eq_left, Nat.reduceEqDiff, reduceCtorEq, if_true, if_false, ite_true, ite_false, reduceIte, upd_z, h1, h2, h3, h4, h5, h6, h7, h8, hw, GB, BB, sr, st1, g_take]; rfl) | ((repeat rw [hup_ne _ _ (by omega)]); done) | (rw [hup_ne _ _ (by omega)]; (repeat rw [hup_ne _ _ (by omega)]))
/- one more tile at an end of the line -/
def g_add (G : GS) (n : Nat) (lo hi : Int) (lf : Bool) : GS :=
  sr (sr G 2 (if n = 0 then st1 (st1 (G 2) 0 lo) 1 hi else if lf = true then st1 (fun j => if 1 ≤ j ∧ j < 1 + (n + 1) then G 2 (j - 1) else G 2 j) 0 (lo + hi - G 2 0) else st1 (G 2) (n + 1) (lo + hi - G 2 n))) 7 (st1 (G 7) 1 ((n : Int) + 1))
theorem cpy_z1 (f : Nat → Int) (n : Nat) : va_cpy (fun k => z (f k)) (fun k => z (f k)) 0 1 n = fun k => z ((fun j => if 1 ≤ j ∧ j < 1 + n then f (j - 1) else f j) k) := by
  funext k
  unfold va_cpy
  by_cases h : 1 ≤ k ∧ k < 1 + n
  · simp [h]
  · simp [h]
set_option maxRecDepth 16384 in
theorem sp_36 {n : Nat} {lo hi : Int} {lf : Bool} (hG : isG h g hs G) (hn : G 7 1 = n) (hn2 : n < 28) : Sp E (d + 2) 36 [.ref g, .int (z lo), .int (z hi), .int (z (if lf = true then 1 else 0))] h sz (rets none (blk h g 9 (GB g hs (g_add G n lo hi lf))) sz) := by
  obtain ⟨h0, h1, h2, h3, h4, h5, h6, h7, h8⟩ := isG_f hG
  refine ⟨mi_36, mt_36, Nat.le_of_ble_eq_true rfl, ?_⟩
  change Rr _ _ _ _ mi_36 _ 0 [some (.ref g), some (.int (z lo)), some (.int (z hi)), some (.int (z (if lf = true then 1 else 0))), none] [] _ _ 0 0
  refine R_run 60 ?_
  simp only [run_s, run_0, isc, Bool.or_false, Bool.false_or, Bool.or_true, Bool.true_or, Bool.or_self, cond_false, cond_true, gl, sl, stl, stl2, c2, isw, nf, pf, lnb, tk, true_and, and_true, nsg0, nsg1, Int.cast_ofNat_Int, Int.natCast_zero, Int.natCast_one, zero_z, z_add, z_sub, z_mul, z_neg, cnd_eq, cnd_ne, cnd_lt, cnd_ge, cnd_gt, cnd_le, vok_0, vok_3r, vok_3n, vok_4, Nat.add_zero, Nat.zero_add, Nat.reduceAdd, Nat.reduceSub, Nat.reduceMod, Nat.reduceDiv, Nat.reduceEqDiff, Nat.reduceLeDiff, Nat.reduceMul, Int.reduceNeg, if_true, if_false, ite_true, ite_false, reduceIte, hup_app, Nat.add_left_cancel_iff, Nat.left_eq_add, Nat.add_eq_left, reduceCtorEq, subc_0, subc_1, subc_2, subc_3, subc_4, subc_5, subc_6, subc_7, subc_8, subc_9, subc_10, subc_11, subc_12, sube_2, sube_3, sube_5, sube_8, sube_9, sube_10, rets_ok, sI_aload_n, sI_bipush, sI_dup, sI_getfield, sI_goto, sI_iadd, sI_iaload, sI_iastore, sI_iconst, sI_ifCond, sI_if_icmp, sI_iload, sI_iload_n, sI_invokestatic, sI_istore, sI_isub, sI_putfield, sI_return_, ix_36_0, ix_36_1, ix_36_4, ix_36_7, ix_36_8, ix_36_11, ix_36_13, ix_36_16, ix_36_17, ix_36_18, ix_36_21, ix_36_24, ix_36_25, ix_36_28, ix_36_29, ix_36_30, ix_36_31, ix_36_32, ix_36_35, ix_36_36, ix_36_37, ix_36_38, ix_36_41, ix_36_42, ix_36_45, ix_36_46, ix_36_49, ix_36_50, ix_36_51, ix_36_53, ix_36_54, ix_36_57, ix_36_58, ix_36_59, ix_36_62, ix_36_63, ix_36_64, ix_36_67, ix_36_68, ix_36_69, ix_36_72, ix_36_73, ix_36_76, ix_36_77, ix_36_78, ix_36_79, ix_36_80, ix_36_82, ix_36_83, ix_36_84, ix_36_87, ix_36_88, ix_36_91, ix_36_92, ix_36_95, ix_36_96, ix_36_97, ix_36_98, ix_36_99, ix_36_100, ix_36_101, ix_36_104, ix_36_105, ix_36_108, ix_36_109, ix_36_110, ix_36_111, ix_36_112, ix_36_113, ix_36_116, ix_36_117, ix_36_118, ix_36_121, mC_36, mS_36, mH_36, h0, h3, GB, hn]
  have hlf : (if lf = true then (1 : Int) else 0) = 0 ∨ (if lf = true then (1 : Int) else 0) = 1 := by cases lf <;> simp
  simp (disch := omega) only [z_lt, z_le, z_eq, z_in, z_nat, Int.toNat_natCast, upd_z, z_l, zl_0, zl_add, zl_sub, zl_mul, zl_i, zl_eq, zl_div, Int.reduceLT, Int.reduceLE, Int.reduceToNat, Nat.reduceAdd, Nat.reduceLeDiff, not_false_eq_true, true_and, and_true]
  refine ⟨fun q => absurd q (by omega), fun _ => ⟨fun _ => ?_, fun q => absurd q (by omega)⟩⟩
  refine ⟨fun q => ⟨fun q2 => ?_, fun q2 => ?_⟩, fun q => ?_⟩
  · have hl : lf = false := by cases lf <;> simp_all
    have hn0 : n ≠ 0 := by omega
    subst hl
    clear hlf q2
    have e1 : ((n : Int) + 1).toNat = n + 1 := by omega
    rw [e1]
    refine ⟨by omega, by omega, ?_⟩
    refine fG_eq ⟨?_, ?_, ?_, ?_, ?_, ?_, ?_, ?_, ?_⟩ (fun q hq => ?_)
    all_goals first | (simp only [hup_app, Nat.add_left_cancel_iff, Nat.left_eq_add, Nat.add_eq_left, Nat.reduceEqDiff, reduceCtorEq, if_true, if_false, ite_true, ite_false, reduceIte, upd_z, h1, h2, h4, h5, h6, h7, h8, GB, BB, sr, st1, g_add, hn0, reduceCtorEq]; done) | (simp only [hup_app, Nat.add_left_cancel_iff, Nat.left_eq_add, Nat.add_eq_left, Nat.reduceEqDiff, reduceCtorEq, if_true, if_false, ite_true, ite_false, reduceIte, upd_z, h1, h2, h4, h5, h6, h7, h8, GB, BB, sr, st1, g_add, hn0, reduceCtorEq]; rfl) | ((repeat rw [hup_ne _ _ (by omega)]); done) | (rw [hup_ne _ _ (by omega)]; (repeat rw [hup_ne _ _ (by omega)]))
  · have hl : lf = true := by cases lf <;> simp_all
    have hn0 : n ≠ 0 := by omega
    subst hl
    clear hlf q2
    refine ⟨by omega, ?_⟩
    refine R_cpI (m0 := 29) (m1 := 29) (f := fun k => z (G 2 k)) (g := fun k => z (G 2 k)) ix_36_69 ?_ ?_ (by omega) (Nat.le_of_ble_eq_true rfl) (by omega) ?_
    · exact h3
    · exact h3
    have e1 : ((n : Int) + 1).toNat = n + 1 := by omega
    simp only [e1, Int.toNat_zero, Int.toNat_one, cpy_z1]
    refine R_run 60 ?_
    simp only [run_s, run_0, isc, Bool.or_false, Bool.false_or, Bool.or_true, Bool.true_or, Bool.or_self, cond_false, cond_true, gl, sl, stl, stl2, c2, isw, nf, pf, lnb, tk, true_and, and_true, nsg0, nsg1, Int.cast_ofNat_Int, Int.natCast_zero, Int.natCast_one, zero_z, z_add, z_sub, z_mul, z_neg, cnd_eq, cnd_ne, cnd_lt, cnd_ge, cnd_gt, cnd_le, vok_0, vok_3r, vok_3n, vok_4, Nat.add_zero, Nat.zero_add, Nat.reduceAdd, Nat.reduceSub, Nat.reduceMod, Nat.reduceDiv, Nat.reduceEqDiff, Nat.reduceLeDiff, Nat.reduceMul, Int.reduceNeg, if_true, if_false, ite_true, ite_false, reduceIte, hup_app, Nat.add_left_cancel_iff, Nat.left_eq_add, Nat.add_eq_left, reduceCtorEq, subc_0, subc_1, subc_2, subc_3, subc_4, subc_5, subc_6, subc_7, subc_8, subc_9, subc_10, subc_11, subc_12, sube_2, sube_3, sube_5, sube_8, sube_9, sube_10, rets_ok, sI_aload_n, sI_bipush, sI_dup, sI_getfield, sI_goto, sI_iadd, sI_iaload, sI_iastore, sI_iconst, sI_ifCond, sI_if_icmp, sI_iload, sI_iload_n, sI_invokestatic, sI_istore, sI_isub, sI_putfield, sI_return_, ix_36_0, ix_36_1, ix_36_4, ix_36_7, ix_36_8, ix_36_11, ix_36_13, ix_36_16, ix_36_17, ix_36_18, ix_36_21, ix_36_24, ix_36_25, ix_36_28, ix_36_29, ix_36_30, ix_36_31, ix_36_32, ix_36_35, ix_36_36, ix_36_37, ix_36_38, ix_36_41, ix_36_42, ix_36_45, ix_36_46, ix_36_49, ix_36_50, ix_36_51, ix_36_53, ix_36_54, ix_36_57, ix_36_58, ix_36_59, ix_36_62, ix_36_63, ix_36_64, ix_36_67, ix_36_68, ix_36_69, ix_36_72, ix_36_73, ix_36_76, ix_36_77, ix_36_78, ix_36_79, ix_36_80, ix_36_82, ix_36_83, ix_36_84, ix_36_87, ix_36_88, ix_36_91, ix_36_92, ix_36_95, ix_36_96, ix_36_97, ix_36_98, ix_36_99, ix_36_100, ix_36_101, ix_36_104, ix_36_105, ix_36_108, ix_36_109, ix_36_110, ix_36_111, ix_36_112, ix_36_113, ix_36_116, ix_36_117, ix_36_118, ix_36_121, mC_36, mS_36, mH_36, h0, h3, GB, hn]
    simp (disch := omega) only [z_lt, z_le, z_eq, z_in, z_nat, Int.toNat_natCast, upd_z, z_l, zl_0, zl_add, zl_sub, zl_mul, zl_i, zl_eq, zl_div, Int.reduceLT, Int.reduceLE, Int.reduceToNat, Nat.reduceAdd, Nat.reduceLeDiff, not_false_eq_true, true_and, and_true]
    refine ⟨by omega, ?_⟩
    refine fG_eq ⟨?_, ?_, ?_, ?_, ?_, ?_, ?_, ?_, ?_⟩ (fun q hq => ?_)
    all_goals first | (simp only [hup_app, Nat.add_left_cancel_iff, Nat.left_eq_add, Nat.add_eq_left, Nat.reduceEqDiff, reduceCtorEq, if_true, if_false, ite_true, ite_false, reduceIte, upd_z, h1, h2, h4, h5, h6, h7, h8, GB, BB, sr, st1, g_add, hn0, Int.toNat_zero]; done) | (simp only [hup_app, Nat.add_left_cancel_iff, Nat.left_eq_add, Nat.add_eq_left, Nat.reduceEqDiff, reduceCtorEq, if_true, if_false, ite_true, ite_false, reduceIte, upd_z, h1, h2, h4, h5, h6, h7, h8, GB, BB, sr, st1, g_add, hn0, Int.toNat_zero]; rfl) | ((repeat rw [hup_ne _ _ (by omega)]); done) | (rw [hup_ne _ _ (by omega)]; (repeat rw [hup_ne _ _ (by omega)]))
  · have hn0 : n = 0 := by omega
    subst hn0
    clear hlf
    refine ⟨by omega, by omega, ?_⟩
    refine fG_eq ⟨?_, ?_, ?_, ?_, ?_, ?_, ?_, ?_, ?_⟩ (fun q hq => ?_)
    all_goals first | (simp only [hup_app, Nat.add_left_cancel_iff, Nat.left_eq_add, Nat.add_eq_left, Nat.reduceEqDiff, reduceCtorEq, if_true, if_false, ite_true, ite_false, reduceIte, upd_z, h1, h2, h4, h5, h6, h7, h8, GB, BB, sr, st1, g_add, Int.toNat_zero, Int.toNat_one, Int.natCast_zero]; done) | (simp only [hup_app, Nat.add_left_cancel_iff, Nat.left_eq_add, Nat.add_eq_left, Nat.reduceEqDiff, reduceCtorEq, if_true, if_false, ite_true, ite_false, reduceIte, upd_z, h1, h2, h4, h5, h6, h7, h8, GB, BB, sr, st1, g_add, Int.toNat_zero, Int.toNat_one, Int.natCast_zero]; rfl) | ((repeat rw [hup_ne _ _ (by omega)]); done) | (rw [hup_ne _ _ (by omega)]; (repeat rw [hup_ne _ _ (by omega)]))
end GAME2
