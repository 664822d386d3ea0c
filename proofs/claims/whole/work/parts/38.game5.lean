section GAME5
variable {E : EX} {d : Nat} {h : AH} {sz g hs : Nat} {G W : GS}
set_option maxRecDepth 16384 in
theorem sp_16 {hz : Nat} (h0 : h g = some (.inr (4, dfl 4))) : Sp E (d + 3) 16 [.ref g, .ref hz] h (g + 1) (rets none (blk h g 9 (GB g hz (fun _ _ => 0))) (g + 9)) := by
  refine ⟨mi_16, mt_16, Nat.le_of_ble_eq_true rfl, ?_⟩
  change Rr _ _ _ _ mi_16 _ 0 [some (.ref g), some (.ref hz)] [] _ _ 0 0
  refine R_run 60 ?_
  simp only [run_s, run_0, isc, Bool.or_false, Bool.false_or, Bool.or_true, Bool.true_or, Bool.or_self, cond_false, cond_true, gl, sl, stl, stl2, c2, isw, nf, pf, lnb, tk, true_and, and_true, nsg0, nsg1, Int.cast_ofNat_Int, Int.natCast_zero, Int.natCast_one, zero_z, z_add, z_sub, z_mul, z_neg, cnd_eq, cnd_ne, cnd_lt, cnd_ge, cnd_gt, cnd_le, vok_0, vok_3r, vok_3n, vok_4, Nat.add_zero, Nat.zero_add, Nat.reduceAdd, Nat.reduceSub, Nat.reduceMod, Nat.reduceDiv, Nat.reduceEqDiff, Nat.reduceLeDiff, Nat.reduceMul, Int.reduceNeg, if_true, if_false, ite_true, ite_false, reduceIte, hup_app, Nat.add_left_cancel_iff, Nat.left_eq_add, Nat.add_eq_left, reduceCtorEq, subc_0, subc_1, subc_2, subc_3, subc_4, subc_5, subc_6, subc_7, subc_8, subc_9, subc_10, subc_11, subc_12, sube_2, sube_3, sube_5, sube_8, sube_9, sube_10, rets_ok, sI_aload_n, sI_bipush, sI_dup, sI_iconst, sI_invokespecial, sI_new, sI_newarray, sI_putfield, sI_return_, ix_16_0, ix_16_1, ix_16_4, ix_16_5, ix_16_6, ix_16_9, ix_16_10, ix_16_12, ix_16_14, ix_16_17, ix_16_18, ix_16_19, ix_16_21, ix_16_24, ix_16_25, ix_16_27, ix_16_29, ix_16_32, ix_16_33, ix_16_36, ix_16_37, ix_16_40, ix_16_43, mC_16, mS_16, mH_16]
  refine R_obj ix_16_1 (Nat.le_of_ble_eq_true rfl) (by omega) ?_
  refine R_run 60 ?_
  simp only [run_s, run_0, isc, Bool.or_false, Bool.false_or, Bool.or_true, Bool.true_or, Bool.or_self, cond_false, cond_true, gl, sl, stl, stl2, c2, isw, nf, pf, lnb, tk, true_and, and_true, nsg0, nsg1, Int.cast_ofNat_Int, Int.natCast_zero, Int.natCast_one, zero_z, z_add, z_sub, z_mul, z_neg, cnd_eq, cnd_ne, cnd_lt, cnd_ge, cnd_gt, cnd_le, vok_0, vok_3r, vok_3n, vok_4, Nat.add_zero, Nat.zero_add, Nat.reduceAdd, Nat.reduceSub, Nat.reduceMod, Nat.reduceDiv, Nat.reduceEqDiff, Nat.reduceLeDiff, Nat.reduceMul, Int.reduceNeg, if_true, if_false, ite_true, ite_false, reduceIte, hup_app, Nat.add_left_cancel_iff, Nat.left_eq_add, Nat.add_eq_left, reduceCtorEq, subc_0, subc_1, subc_2, subc_3, subc_4, subc_5, subc_6, subc_7, subc_8, subc_9, subc_10, subc_11, subc_12, sube_2, sube_3, sube_5, sube_8, sube_9, sube_10, rets_ok, sI_aload_n, sI_bipush, sI_dup, sI_iconst, sI_invokespecial, sI_new, sI_newarray, sI_putfield, sI_return_, ix_16_0, ix_16_1, ix_16_4, ix_16_5, ix_16_6, ix_16_9, ix_16_10, ix_16_12, ix_16_14, ix_16_17, ix_16_18, ix_16_19, ix_16_21, ix_16_24, ix_16_25, ix_16_27, ix_16_29, ix_16_32, ix_16_33, ix_16_36, ix_16_37, ix_16_40, ix_16_43, mC_16, mS_16, mH_16, h0, dfl, Nat.add_assoc]
  simp (disch := omega) only [z_lt, z_le, z_eq, z_in, z_nat, Int.toNat_natCast, upd_z, z_l, zl_0, zl_add, zl_sub, zl_mul, zl_i, zl_eq, zl_div, Int.reduceLT, Int.reduceLE, Int.reduceToNat, Nat.reduceAdd, Nat.reduceLeDiff, not_false_eq_true, true_and, and_true]
  generalize hH : hup _ (g + 4) _ = H
  have f0 : H g = some (.inr (4, [.ref hz, .ref (g + 1), .int (z 0), .ref (g + 2), .ref (g + 3), .int (z 0), .int (z 0), .int (z 0), .int (z 0), .int (z 0), .int (z 0), .int (z 0), .int (z 0), .null])) := by
    rw [← hH]
    simp only [hup_app, Nat.add_left_cancel_iff, Nat.left_eq_add, Nat.add_eq_left, Nat.reduceEqDiff, reduceCtorEq, if_true, if_false, ite_true, ite_false, reduceIte, h0]
  have f1 : H (g + 1) = some (.inl (0, dfa 0 28)) := by
    rw [← hH]
    simp only [hup_app, Nat.add_left_cancel_iff, Nat.left_eq_add, Nat.add_eq_left, Nat.reduceEqDiff, reduceCtorEq, if_true, if_false, ite_true, ite_false, reduceIte, h0]
  have f2 : H (g + 2) = some (.inl (0, dfa 0 4)) := by
    rw [← hH]
    simp only [hup_app, Nat.add_left_cancel_iff, Nat.left_eq_add, Nat.add_eq_left, Nat.reduceEqDiff, reduceCtorEq, if_true, if_false, ite_true, ite_false, reduceIte, h0]
  have f3 : H (g + 3) = some (.inl (0, dfa 0 29)) := by
    rw [← hH]
    simp only [hup_app, Nat.add_left_cancel_iff, Nat.left_eq_add, Nat.add_eq_left, Nat.reduceEqDiff, reduceCtorEq, if_true, if_false, ite_true, ite_false, reduceIte, h0]
  have f4 : H (g + 4) = some (.inr (1, dfl 1)) := by
    rw [← hH, hup_eq]
    rfl
  have fo : ∀ q, q < g ∨ g + 9 ≤ q → H q = h q := by
    intro q hq
    rw [← hH]
    repeat rw [hup_ne _ _ (by omega)]
  refine R_cI ix_16_37 (by decide) rfl (sp_1 (d := d) (b := g + 4) f4) (Nat.le_of_ble_eq_true rfl) (by rw [mcs_1, mC_16]; omega) (by rw [mcs_1, mS_16]; omega) ?_
  simp only [mcs_1, vpu, Nat.add_zero, Nat.zero_add, Nat.reduceAdd]
  have b0 := isB_blk (h := H) (b := g + 4) (G := fun _ _ => 0)
  have e0 : blk H (g + 4) 5 (BB (g + 4) (fun _ _ => 0)) g = H g := blk_out (by omega)
  have e1 : blk H (g + 4) 5 (BB (g + 4) (fun _ _ => 0)) (g + 1) = H (g + 1) := blk_out (by omega)
  have e2 : blk H (g + 4) 5 (BB (g + 4) (fun _ _ => 0)) (g + 2) = H (g + 2) := blk_out (by omega)
  have e3 : blk H (g + 4) 5 (BB (g + 4) (fun _ _ => 0)) (g + 3) = H (g + 3) := blk_out (by omega)
  have eo : ∀ q, q < g ∨ g + 9 ≤ q → blk H (g + 4) 5 (BB (g + 4) (fun _ _ => 0)) q = h q := fun q hq => (blk_out (by omega)).trans (fo q hq)
  generalize blk H (g + 4) 5 (BB (g + 4) (fun _ _ => 0)) = K at b0 e0 e1 e2 e3 eo ⊢
  rw [f0] at e0
  rw [f1] at e1
  rw [f2] at e2
  rw [f3] at e3
  obtain ⟨b0, b1, b2, b3, b4⟩ := b0
  refine R_run 60 ?_
  simp only [run_s, run_0, isc, Bool.or_false, Bool.false_or, Bool.or_true, Bool.true_or, Bool.or_self, cond_false, cond_true, gl, sl, stl, stl2, c2, isw, nf, pf, lnb, tk, true_and, and_true, nsg0, nsg1, Int.cast_ofNat_Int, Int.natCast_zero, Int.natCast_one, zero_z, z_add, z_sub, z_mul, z_neg, cnd_eq, cnd_ne, cnd_lt, cnd_ge, cnd_gt, cnd_le, vok_0, vok_3r, vok_3n, vok_4, Nat.add_zero, Nat.zero_add, Nat.reduceAdd, Nat.reduceSub, Nat.reduceMod, Nat.reduceDiv, Nat.reduceEqDiff, Nat.reduceLeDiff, Nat.reduceMul, Int.reduceNeg, if_true, if_false, ite_true, ite_false, reduceIte, hup_app, Nat.add_left_cancel_iff, Nat.left_eq_add, Nat.add_eq_left, reduceCtorEq, subc_0, subc_1, subc_2, subc_3, subc_4, subc_5, subc_6, subc_7, subc_8, subc_9, subc_10, subc_11, subc_12, sube_2, sube_3, sube_5, sube_8, sube_9, sube_10, rets_ok, sI_aload_n, sI_bipush, sI_dup, sI_iconst, sI_invokespecial, sI_new, sI_newarray, sI_putfield, sI_return_, ix_16_0, ix_16_1, ix_16_4, ix_16_5, ix_16_6, ix_16_9, ix_16_10, ix_16_12, ix_16_14, ix_16_17, ix_16_18, ix_16_19, ix_16_21, ix_16_24, ix_16_25, ix_16_27, ix_16_29, ix_16_32, ix_16_33, ix_16_36, ix_16_37, ix_16_40, ix_16_43, mC_16, mS_16, mH_16, e0]
  refine fG_eq ⟨?_, ?_, ?_, ?_, ?_, ?_, ?_, ?_, ?_⟩ (fun q hq => ?_)
  all_goals first | (simp only [hup_app, Nat.add_left_cancel_iff, Nat.left_eq_add, Nat.add_eq_left, Nat.reduceEqDiff, reduceCtorEq, if_true, if_false, ite_true, ite_false, reduceIte, upd_z, e1, e2, e3, b0, b1, b2, b3, b4, GB, BB, dfa, zero_z]; done) | (simp only [hup_app, Nat.add_left_cancel_iff, Nat.left_eq_add, Nat.add_eq_left, Nat.reduceEqDiff, reduceCtorEq, if_true, if_false, ite_true, ite_false, reduceIte, upd_z, e1, e2, e3, b0, b1, b2, b3, b4, GB, BB, dfa, zero_z]; rfl) | ((repeat rw [hup_ne _ _ (by omega)]); done) | (rw [hup_ne _ _ (by omega)]; (repeat rw [hup_ne _ _ (by omega)]))
  all_goals exact eo q hq
/- the scalars of a game that begins -/
def g_s2 (G : GS) (ru : Int) : GS := sr G 7 (fun j => match j with
  | 0 => G 7 0
  | 1 => 0
  | 2 => 0
  | 3 => -1
  | 4 => 0
  | 5 => 0
  | 6 => -2
  | 7 => ru
  | 8 => 0
  | j => G 7 j)
def g_begin (W G : GS) (o : Nat → Nat) (n np ti : Nat) (seed : Int) : GS := b_clr (g_s2 (g_deal (g_shf G n seed) o ti np) (W 3 4))
theorem GB_4 (g hs : Nat) (G : GS) (j : Nat) : GB g hs G (4 + j) = BB (g + 4) G j := by
  rw [Nat.add_comm]
  rfl
set_option maxRecDepth 16384 in
theorem sp_17 {h0' n np ti : Nat} {seed : Int} {o : Nat → Nat} (hG : isG h g h0' G) (hH : isH h hs W) (hdj : hs + 4 ≤ g ∨ g + 9 ≤ hs) (hn : W 3 5 = n) (hn2 : 1 ≤ n ∧ n ≤ 28) (hp : W 3 1 = np) (hp2 : np ≤ 4) (ht : W 3 2 = ti) (hnt : np * ti ≤ 28) (hru : 0 ≤ W 3 4 ∧ W 3 4 ≤ 65535) (hsd : 0 ≤ seed ∧ seed ≤ 1000000) (ho : ∀ k, k < np * ti → (shf (G 0) n seed (n - 1)).1 k = o k ∧ o k < 28) : Sp E (d + 3) 17 [.ref g, .ref hs, .int (z seed)] h sz (rets none (blk h g 9 (GB g hs (g_begin W G o n np ti seed))) sz) := by
  have hH' := hH
  obtain ⟨h0, h1, h2, h3, h4, h5, h6, h7, h8⟩ := isG_f hG
  refine ⟨mi_17, mt_17, Nat.le_of_ble_eq_true rfl, ?_⟩
  change Rr _ _ _ _ mi_17 _ 0 [some (.ref g), some (.ref hs), some (.int (z seed))] [] _ _ 0 0
  refine R_run 60 ?_
  simp only [run_s, run_0, isc, Bool.or_false, Bool.false_or, Bool.or_true, Bool.true_or, Bool.or_self, cond_false, cond_true, gl, sl, stl, stl2, c2, isw, nf, pf, lnb, tk, true_and, and_true, nsg0, nsg1, Int.cast_ofNat_Int, Int.natCast_zero, Int.natCast_one, zero_z, z_add, z_sub, z_mul, z_neg, cnd_eq, cnd_ne, cnd_lt, cnd_ge, cnd_gt, cnd_le, vok_0, vok_3r, vok_3n, vok_4, Nat.add_zero, Nat.zero_add, Nat.reduceAdd, Nat.reduceSub, Nat.reduceMod, Nat.reduceDiv, Nat.reduceEqDiff, Nat.reduceLeDiff, Nat.reduceMul, Int.reduceNeg, if_true, if_false, ite_true, ite_false, reduceIte, hup_app, Nat.add_left_cancel_iff, Nat.left_eq_add, Nat.add_eq_left, reduceCtorEq, subc_0, subc_1, subc_2, subc_3, subc_4, subc_5, subc_6, subc_7, subc_8, subc_9, subc_10, subc_11, subc_12, sube_2, sube_3, sube_5, sube_8, sube_9, sube_10, rets_ok, sI_aload_n, sI_bipush, sI_getfield, sI_iconst, sI_iload_n, sI_invokevirtual, sI_putfield, sI_return_, ix_17_0, ix_17_1, ix_17_2, ix_17_5, ix_17_6, ix_17_7, ix_17_10, ix_17_11, ix_17_14, ix_17_15, ix_17_16, ix_17_19, ix_17_20, ix_17_21, ix_17_24, ix_17_25, ix_17_26, ix_17_29, ix_17_30, ix_17_31, ix_17_34, ix_17_35, ix_17_36, ix_17_39, ix_17_40, ix_17_42, ix_17_45, ix_17_46, ix_17_47, ix_17_50, ix_17_53, ix_17_54, ix_17_55, ix_17_58, ix_17_59, ix_17_62, ix_17_65, mC_17, mS_17, mH_17, h0, GB]
  refine R_heap (h := blk h g 9 (GB g hs G)) ?_ ?_
  · refine fG_eq ⟨?_, ?_, ?_, ?_, ?_, ?_, ?_, ?_, ?_⟩ (fun q hq => ?_)
    all_goals first | (simp only [hup_app, Nat.add_left_cancel_iff, Nat.left_eq_add, Nat.add_eq_left, Nat.reduceEqDiff, reduceCtorEq, if_true, if_false, ite_true, ite_false, reduceIte, upd_z, h1, h2, h3, h4, h5, h6, h7, h8, GB, BB]; done) | (simp only [hup_app, Nat.add_left_cancel_iff, Nat.left_eq_add, Nat.add_eq_left, Nat.reduceEqDiff, reduceCtorEq, if_true, if_false, ite_true, ite_false, reduceIte, upd_z, h1, h2, h3, h4, h5, h6, h7, h8, GB, BB]; rfl) | ((repeat rw [hup_ne _ _ (by omega)]); done) | (rw [hup_ne _ _ (by omega)]; (repeat rw [hup_ne _ _ (by omega)]))
  refine R_cV ix_17_7 (by decide) (by decide) rfl isG_blk.1 rfl (sp_18 (d := d) isG_blk (isH_out hH' hdj) hdj hn hn2 hsd) (Nat.le_of_ble_eq_true rfl) (by rw [mcs_18, mC_17]; omega) (by rw [mcs_18, mS_17]; omega) ?_
  simp only [mcs_18, vpu, Nat.add_zero, Nat.zero_add, Nat.reduceAdd]
  rw [blk_blk]
  refine R_run 60 ?_
  simp only [run_s, run_0, isc, Bool.or_false, Bool.false_or, Bool.or_true, Bool.true_or, Bool.or_self, cond_false, cond_true, gl, sl, stl, stl2, c2, isw, nf, pf, lnb, tk, true_and, and_true, nsg0, nsg1, Int.cast_ofNat_Int, Int.natCast_zero, Int.natCast_one, zero_z, z_add, z_sub, z_mul, z_neg, cnd_eq, cnd_ne, cnd_lt, cnd_ge, cnd_gt, cnd_le, vok_0, vok_3r, vok_3n, vok_4, Nat.add_zero, Nat.zero_add, Nat.reduceAdd, Nat.reduceSub, Nat.reduceMod, Nat.reduceDiv, Nat.reduceEqDiff, Nat.reduceLeDiff, Nat.reduceMul, Int.reduceNeg, if_true, if_false, ite_true, ite_false, reduceIte, hup_app, Nat.add_left_cancel_iff, Nat.left_eq_add, Nat.add_eq_left, reduceCtorEq, subc_0, subc_1, subc_2, subc_3, subc_4, subc_5, subc_6, subc_7, subc_8, subc_9, subc_10, subc_11, subc_12, sube_2, sube_3, sube_5, sube_8, sube_9, sube_10, rets_ok, sI_aload_n, sI_bipush, sI_getfield, sI_iconst, sI_iload_n, sI_invokevirtual, sI_putfield, sI_return_, ix_17_0, ix_17_1, ix_17_2, ix_17_5, ix_17_6, ix_17_7, ix_17_10, ix_17_11, ix_17_14, ix_17_15, ix_17_16, ix_17_19, ix_17_20, ix_17_21, ix_17_24, ix_17_25, ix_17_26, ix_17_29, ix_17_30, ix_17_31, ix_17_34, ix_17_35, ix_17_36, ix_17_39, ix_17_40, ix_17_42, ix_17_45, ix_17_46, ix_17_47, ix_17_50, ix_17_53, ix_17_54, ix_17_55, ix_17_58, ix_17_59, ix_17_62, ix_17_65, mC_17, mS_17, mH_17]
  refine R_cV ix_17_11 (by decide) (by decide) rfl isG_blk.1 rfl (sp_19 (d := d) (n := n) (o := o) isG_blk (isH_out hH' hdj) hdj hp hp2 ht hnt ho) (Nat.le_of_ble_eq_true rfl) (by rw [mcs_19, mC_17]; omega) (by rw [mcs_19, mS_17]; omega) ?_
  simp only [mcs_19, vpu, Nat.add_zero, Nat.zero_add, Nat.reduceAdd]
  rw [blk_blk]
  obtain ⟨g0, g1, g2, g3, g4, g5, g6, g7, g8⟩ := isG_f (isG_blk (h := h) (g := g) (hs := hs) (G := g_deal (g_shf G n seed) o ti np))
  obtain ⟨w0, w1, w2, w3⟩ := isH_out (a := g) (n := 9) (F := GB g hs (g_deal (g_shf G n seed) o ti np)) hH' hdj
  generalize hB : blk h g 9 (GB g hs (g_deal (g_shf G n seed) o ti np)) = H at g0 g1 g2 g3 g4 g5 g6 g7 g8 w0 ⊢
  have n_0_0 : (hs = g) = False := eq_false (by omega)
  refine R_run 60 ?_
  simp only [run_s, run_0, isc, Bool.or_false, Bool.false_or, Bool.or_true, Bool.true_or, Bool.or_self, cond_false, cond_true, gl, sl, stl, stl2, c2, isw, nf, pf, lnb, tk, true_and, and_true, nsg0, nsg1, Int.cast_ofNat_Int, Int.natCast_zero, Int.natCast_one, zero_z, z_add, z_sub, z_mul, z_neg, cnd_eq, cnd_ne, cnd_lt, cnd_ge, cnd_gt, cnd_le, vok_0, vok_3r, vok_3n, vok_4, Nat.add_zero, Nat.zero_add, Nat.reduceAdd, Nat.reduceSub, Nat.reduceMod, Nat.reduceDiv, Nat.reduceEqDiff, Nat.reduceLeDiff, Nat.reduceMul, Int.reduceNeg, if_true, if_false, ite_true, ite_false, reduceIte, hup_app, Nat.add_left_cancel_iff, Nat.left_eq_add, Nat.add_eq_left, reduceCtorEq, subc_0, subc_1, subc_2, subc_3, subc_4, subc_5, subc_6, subc_7, subc_8, subc_9, subc_10, subc_11, subc_12, sube_2, sube_3, sube_5, sube_8, sube_9, sube_10, rets_ok, sI_aload_n, sI_bipush, sI_getfield, sI_iconst, sI_iload_n, sI_invokevirtual, sI_putfield, sI_return_, ix_17_0, ix_17_1, ix_17_2, ix_17_5, ix_17_6, ix_17_7, ix_17_10, ix_17_11, ix_17_14, ix_17_15, ix_17_16, ix_17_19, ix_17_20, ix_17_21, ix_17_24, ix_17_25, ix_17_26, ix_17_29, ix_17_30, ix_17_31, ix_17_34, ix_17_35, ix_17_36, ix_17_39, ix_17_40, ix_17_42, ix_17_45, ix_17_46, ix_17_47, ix_17_50, ix_17_53, ix_17_54, ix_17_55, ix_17_58, ix_17_59, ix_17_62, ix_17_65, mC_17, mS_17, mH_17, g0, w0, GB, HB, n_0_0, vok_z1 (Or.inl rfl), vok_z2 hru.1 hru.2]
  refine R_heap (h := blk h g 9 (GB g hs (g_s2 (g_deal (g_shf G n seed) o ti np) (W 3 4)))) ?_ ?_
  · refine fG_eq ⟨?_, ?_, ?_, ?_, ?_, ?_, ?_, ?_, ?_⟩ (fun q hq => ?_)
    all_goals first | (simp only [hup_app, Nat.add_left_cancel_iff, Nat.left_eq_add, Nat.add_eq_left, Nat.reduceEqDiff, reduceCtorEq, if_true, if_false, ite_true, ite_false, reduceIte, upd_z, g1, g2, g3, g4, g5, g6, g7, g8, GB, BB, sr, g_s2]; done) | (simp only [hup_app, Nat.add_left_cancel_iff, Nat.left_eq_add, Nat.add_eq_left, Nat.reduceEqDiff, reduceCtorEq, if_true, if_false, ite_true, ite_false, reduceIte, upd_z, g1, g2, g3, g4, g5, g6, g7, g8, GB, BB, sr, g_s2]; rfl) | ((repeat rw [hup_ne _ _ (by omega)]); done) | (rw [hup_ne _ _ (by omega)]; (repeat rw [hup_ne _ _ (by omega)]))
    rw [← hB, blk_out hq]
  have gb := isG_blk (h := h) (g := g) (hs := hs) (G := g_s2 (g_deal (g_shf G n seed) o ti np) (W 3 4))
  refine R_cV ix_17_62 (by decide) (by decide) rfl gb.2.2.2.2.1 rfl (sp_2 (d := d + 1) gb.2.2.2.2) (Nat.le_of_ble_eq_true rfl) (by rw [mcs_2, mC_17]; omega) (by rw [mcs_2, mS_17]; omega) ?_
  simp only [mcs_2, vpu, Nat.add_zero, Nat.zero_add, Nat.reduceAdd]
  refine R_run 60 ?_
  simp only [run_s, run_0, isc, Bool.or_false, Bool.false_or, Bool.or_true, Bool.true_or, Bool.or_self, cond_false, cond_true, gl, sl, stl, stl2, c2, isw, nf, pf, lnb, tk, true_and, and_true, nsg0, nsg1, Int.cast_ofNat_Int, Int.natCast_zero, Int.natCast_one, zero_z, z_add, z_sub, z_mul, z_neg, cnd_eq, cnd_ne, cnd_lt, cnd_ge, cnd_gt, cnd_le, vok_0, vok_3r, vok_3n, vok_4, Nat.add_zero, Nat.zero_add, Nat.reduceAdd, Nat.reduceSub, Nat.reduceMod, Nat.reduceDiv, Nat.reduceEqDiff, Nat.reduceLeDiff, Nat.reduceMul, Int.reduceNeg, if_true, if_false, ite_true, ite_false, reduceIte, hup_app, Nat.add_left_cancel_iff, Nat.left_eq_add, Nat.add_eq_left, reduceCtorEq, subc_0, subc_1, subc_2, subc_3, subc_4, subc_5, subc_6, subc_7, subc_8, subc_9, subc_10, subc_11, subc_12, sube_2, sube_3, sube_5, sube_8, sube_9, sube_10, rets_ok, sI_aload_n, sI_bipush, sI_getfield, sI_iconst, sI_iload_n, sI_invokevirtual, sI_putfield, sI_return_, ix_17_0, ix_17_1, ix_17_2, ix_17_5, ix_17_6, ix_17_7, ix_17_10, ix_17_11, ix_17_14, ix_17_15, ix_17_16, ix_17_19, ix_17_20, ix_17_21, ix_17_24, ix_17_25, ix_17_26, ix_17_29, ix_17_30, ix_17_31, ix_17_34, ix_17_35, ix_17_36, ix_17_39, ix_17_40, ix_17_42, ix_17_45, ix_17_46, ix_17_47, ix_17_50, ix_17_53, ix_17_54, ix_17_55, ix_17_58, ix_17_59, ix_17_62, ix_17_65, mC_17, mS_17, mH_17]
  refine blk_sub (by decide) (fun j hj => GB_4 g hs _ j) (fun j hj hj2 => ?_)
  match j, hj, hj2 with
  | 0, _, _ => rfl
  | 1, _, _ => rfl
  | 2, _, _ => rfl
  | 3, _, _ => rfl
  | j + 4, hj, hj2 => exact absurd hj2 (by omega)
end GAME5
