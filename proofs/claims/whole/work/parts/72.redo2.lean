/-! ===== the class redoes, crashes, replays ===== -/
section RDP
variable {E : EX} {d : Nat} {h : AH} {sz x base g t : Nat} {H : HT} {nh : Nat} {J : GS} {n fl : Nat} {cu : Nat → Nat} {nc : Nat} {rf uf ue : Int} {N T K : TT} {ha ea ca : Nat → Nat} {a1 a2 a3 : Nat} {A : TT} {C : Nat → TT}
set_option maxRecDepth 16384 in
theorem sp_123v {F k : Int} (hH : hsOK H nh) (hJ : vJ H nh J n) (hn : n ≤ 400) (hnc : nc ≤ 5) (hX : h x = some (.inr (11, XF x F rf uf ue))) (hR : redo E h x t H nh J n cu nc ha ea ca a2 a3 C) (hT : isT h t ha T) (hx : tix nh T) (hk : -1 ≤ k ∧ k < nc) : ∃ K', tEq H (At H J n) K' ∧ tix nh K' ∧ Sp E (d + 9) 123 [.ref x, .int (z k), .ref t] h sz (rets none (blk h t 57 (TB t ha K')) sz) := by
  obtain ⟨k1, k2, k3, k4, k5, k6, k7, k8⟩ := id hR
  by_cases hk0 : k = -1
  · subst hk0
    obtain ⟨K', r1, r2, r3⟩ := redo_l (E := E) (d := d) (sz := sz) (k0 := -1) hH hJ hn hX hR n 0 (tC T) (by omega) (tEq_cl T) (tix_cl hx)
    refine ⟨K', r1, r2, ?_⟩
    have s54 := sp_54 (E := E) (d := d + 7) (sz := sz) hT
    refine ⟨mi_123, mt_123, Nat.le_of_ble_eq_true rfl, ?_⟩
    change Rr _ _ _ _ mi_123 _ 0 [some (.ref x), some (.int (z (-1))), some (.ref t), none] [] _ _ 0 0
    refine R_run 60 ?_
    simp only [run_s, run_0, isc, Bool.or_false, Bool.false_or, Bool.or_true, Bool.true_or, Bool.or_self, cond_false, cond_true, gl, sl, stl, stl2, c2, isw, nf, pf, lnb, tk, true_and, and_true, nsg0, nsg1, Int.cast_ofNat_Int, Int.natCast_zero, Int.natCast_one, zero_z, z_add, z_sub, z_mul, z_neg, cnd_eq, cnd_ne, cnd_lt, cnd_ge, cnd_gt, cnd_le, vok_0, vok_3r, vok_3n, vok_4, Nat.add_zero, Nat.zero_add, Nat.reduceAdd, Nat.reduceSub, Nat.reduceMod, Nat.reduceDiv, Nat.reduceEqDiff, Nat.reduceLeDiff, Nat.reduceMul, Int.reduceNeg, if_true, if_false, ite_true, ite_false, reduceIte, hup_app, Nat.add_left_cancel_iff, Nat.left_eq_add, Nat.add_eq_left, reduceCtorEq, subc_0, subc_1, subc_2, subc_3, subc_4, subc_5, subc_6, subc_7, subc_8, subc_9, subc_10, subc_11, subc_12, sube_2, sube_3, sube_5, sube_8, sube_9, sube_10, rets_ok, va_rfs, true_or, or_true, or_false, false_or, sI_aload_n, sI_checkcast, sI_getfield, sI_goto, sI_ifCond, sI_if_icmp, sI_iinc, sI_iload_n, sI_invokevirtual, sI_istore_n, sI_return_, ix_123_0, ix_123_1, ix_123_4, ix_123_5, ix_123_6, ix_123_9, ix_123_12, ix_123_15, ix_123_16, ix_123_17, ix_123_20, ix_123_21, ix_123_24, ix_123_27, ix_123_30, ix_123_33, ix_123_34, ix_123_37, ix_123_38, ix_123_41, ix_123_42, ix_123_43, ix_123_46, ix_123_47, ix_123_48, ix_123_51, ix_123_54, ix_123_57, ix_123_58, ix_123_59, ix_123_62, ix_123_63, ix_123_66, ix_123_69, ix_123_72, ix_123_75, ix_123_78, mC_123, mS_123, mH_123]
    try simp (disch := omega) only [z_lt, z_le, z_eq, z_in, z_nat, Int.toNat_natCast, upd_z, z_l, zl_0, zl_add, zl_sub, zl_mul, zl_i, zl_eq, zl_div, Int.reduceLT, Int.reduceLE, Int.reduceToNat, Nat.reduceAdd, Nat.reduceLeDiff, not_false_eq_true, true_and, and_true]
    repeat' (first | (with_reducible refine ⟨?_, ?_⟩) | (with_reducible intro _))
    all_goals try (first | exact True.intro | with_reducible rfl | exact absurd True.intro (by assumption) | omega | (exfalso; omega) | (rw [if_pos (by omega)]; done) | (rw [if_neg (by omega)]; done))
    refine R_cV ix_123_34 (by decide) (by decide) rfl (isT_0 hT) rfl (s54) (Nat.le_of_ble_eq_true rfl) (by rw [mcs_54, mC_123]; omega) (by rw [mcs_54, mS_123]; omega) ?_
    simp only [mcs_54, vpu, Nat.add_zero, Nat.zero_add, Nat.reduceAdd]
    refine R_run 60 ?_
    simp only [run_s, run_0, isc, Bool.or_false, Bool.false_or, Bool.or_true, Bool.true_or, Bool.or_self, cond_false, cond_true, gl, sl, stl, stl2, c2, isw, nf, pf, lnb, tk, true_and, and_true, nsg0, nsg1, Int.cast_ofNat_Int, Int.natCast_zero, Int.natCast_one, zero_z, z_add, z_sub, z_mul, z_neg, cnd_eq, cnd_ne, cnd_lt, cnd_ge, cnd_gt, cnd_le, vok_0, vok_3r, vok_3n, vok_4, Nat.add_zero, Nat.zero_add, Nat.reduceAdd, Nat.reduceSub, Nat.reduceMod, Nat.reduceDiv, Nat.reduceEqDiff, Nat.reduceLeDiff, Nat.reduceMul, Int.reduceNeg, if_true, if_false, ite_true, ite_false, reduceIte, hup_app, Nat.add_left_cancel_iff, Nat.left_eq_add, Nat.add_eq_left, reduceCtorEq, subc_0, subc_1, subc_2, subc_3, subc_4, subc_5, subc_6, subc_7, subc_8, subc_9, subc_10, subc_11, subc_12, sube_2, sube_3, sube_5, sube_8, sube_9, sube_10, rets_ok, va_rfs, true_or, or_true, or_false, false_or, sI_aload_n, sI_checkcast, sI_getfield, sI_goto, sI_ifCond, sI_if_icmp, sI_iinc, sI_iload_n, sI_invokevirtual, sI_istore_n, sI_return_, ix_123_0, ix_123_1, ix_123_4, ix_123_5, ix_123_6, ix_123_9, ix_123_12, ix_123_15, ix_123_16, ix_123_17, ix_123_20, ix_123_21, ix_123_24, ix_123_27, ix_123_30, ix_123_33, ix_123_34, ix_123_37, ix_123_38, ix_123_41, ix_123_42, ix_123_43, ix_123_46, ix_123_47, ix_123_48, ix_123_51, ix_123_54, ix_123_57, ix_123_58, ix_123_59, ix_123_62, ix_123_63, ix_123_66, ix_123_69, ix_123_72, ix_123_75, ix_123_78, mC_123, mS_123, mH_123, isT_0 isT_blk]
    exact r3
  · obtain ⟨c, rfl⟩ : ∃ c : Nat, k = c := ⟨k.toNat, by omega⟩
    have hc : c < nc := by omega
    obtain ⟨c1, c2, c3, c4, c5⟩ := k6 c hc
    have hAv := At_v hH (cu c) (vJ_le hJ c5)
    have hCv := TV_e hH hAv.1 c2
    have h6 := hCv.1
    have g6 : C c 6 1 1 = ((C c 6 1 1).toNat : Nat) := by omega
    have gvc : ∀ i, i < (C c 6 1 1).toNat → gv (H (hxi (C c) i)) (C c i) := fun i hi => (hCv.2 i (by omega)).2.1
    have s55 := sp_55 (E := E) (d := d + 4) (sz := sz) hT c1 (Or.inl c4) g6 (by omega) (fun i hi => (gvc i hi).1.2.2.2.2.2.1) (fun i hi => by have := (gvc i hi).1.2.2.2.2.2.2.2.2.1; omega)
    have te := tEq_t c2 (tEq_be hH (N := T) hCv g6)
    obtain ⟨K', r1, r2, r3⟩ := redo_l (E := E) (d := d) (sz := sz) (k0 := (c : Int)) hH hJ hn hX hR (n - cu c) (cu c) _ (by omega) te (tix_be hx c3)
    refine ⟨K', r1, r2, ?_⟩
    have dn := te.1 0 (by decide)
    rw [At_dn hH _ (vJ_le hJ c5)] at dn
    have s199 := sp_199 (E := E) (d := d + 7) (sz := sz) k2
    have s201 := sp_201 (E := E) (d := d + 5) (sz := sz) k2 hc
    obtain ⟨fs2, l2⟩ := l_obj k2
    refine ⟨mi_123, mt_123, Nat.le_of_ble_eq_true rfl, ?_⟩
    change Rr _ _ _ _ mi_123 _ 0 [some (.ref x), some (.int (z (c : Int))), some (.ref t), none] [] _ _ 0 0
    refine R_run 60 ?_
    simp only [run_s, run_0, isc, Bool.or_false, Bool.false_or, Bool.or_true, Bool.true_or, Bool.or_self, cond_false, cond_true, gl, sl, stl, stl2, c2, isw, nf, pf, lnb, tk, true_and, and_true, nsg0, nsg1, Int.cast_ofNat_Int, Int.natCast_zero, Int.natCast_one, zero_z, z_add, z_sub, z_mul, z_neg, cnd_eq, cnd_ne, cnd_lt, cnd_ge, cnd_gt, cnd_le, vok_0, vok_3r, vok_3n, vok_4, Nat.add_zero, Nat.zero_add, Nat.reduceAdd, Nat.reduceSub, Nat.reduceMod, Nat.reduceDiv, Nat.reduceEqDiff, Nat.reduceLeDiff, Nat.reduceMul, Int.reduceNeg, if_true, if_false, ite_true, ite_false, reduceIte, hup_app, Nat.add_left_cancel_iff, Nat.left_eq_add, Nat.add_eq_left, reduceCtorEq, subc_0, subc_1, subc_2, subc_3, subc_4, subc_5, subc_6, subc_7, subc_8, subc_9, subc_10, subc_11, subc_12, sube_2, sube_3, sube_5, sube_8, sube_9, sube_10, rets_ok, va_rfs, true_or, or_true, or_false, false_or, sI_aload_n, sI_checkcast, sI_getfield, sI_goto, sI_ifCond, sI_if_icmp, sI_iinc, sI_iload_n, sI_invokevirtual, sI_istore_n, sI_return_, ix_123_0, ix_123_1, ix_123_4, ix_123_5, ix_123_6, ix_123_9, ix_123_12, ix_123_15, ix_123_16, ix_123_17, ix_123_20, ix_123_21, ix_123_24, ix_123_27, ix_123_30, ix_123_33, ix_123_34, ix_123_37, ix_123_38, ix_123_41, ix_123_42, ix_123_43, ix_123_46, ix_123_47, ix_123_48, ix_123_51, ix_123_54, ix_123_57, ix_123_58, ix_123_59, ix_123_62, ix_123_63, ix_123_66, ix_123_69, ix_123_72, ix_123_75, ix_123_78, mC_123, mS_123, mH_123, hX, XF]
    try simp (disch := omega) only [z_lt, z_le, z_eq, z_in, z_nat, Int.toNat_natCast, upd_z, z_l, zl_0, zl_add, zl_sub, zl_mul, zl_i, zl_eq, zl_div, Int.reduceLT, Int.reduceLE, Int.reduceToNat, Nat.reduceAdd, Nat.reduceLeDiff, not_false_eq_true, true_and, and_true]
    repeat' (first | (with_reducible refine ⟨?_, ?_⟩) | (with_reducible intro _))
    all_goals try (first | exact True.intro | with_reducible rfl | exact absurd True.intro (by assumption) | omega | (exfalso; omega) | (rw [if_pos (by omega)]; done) | (rw [if_neg (by omega)]; done))
    refine R_cV ix_123_9 (by decide) (by decide) rfl (l2) rfl (s199) (Nat.le_of_ble_eq_true rfl) (by rw [mcs_199, mC_123]; omega) (by rw [mcs_199, mS_123]; omega) ?_
    simp only [mcs_199, vpu, Nat.add_zero, Nat.zero_add, Nat.reduceAdd]
    refine R_run 60 ?_
    simp only [run_s, run_0, isc, Bool.or_false, Bool.false_or, Bool.or_true, Bool.true_or, Bool.or_self, cond_false, cond_true, gl, sl, stl, stl2, c2, isw, nf, pf, lnb, tk, true_and, and_true, nsg0, nsg1, Int.cast_ofNat_Int, Int.natCast_zero, Int.natCast_one, zero_z, z_add, z_sub, z_mul, z_neg, cnd_eq, cnd_ne, cnd_lt, cnd_ge, cnd_gt, cnd_le, vok_0, vok_3r, vok_3n, vok_4, Nat.add_zero, Nat.zero_add, Nat.reduceAdd, Nat.reduceSub, Nat.reduceMod, Nat.reduceDiv, Nat.reduceEqDiff, Nat.reduceLeDiff, Nat.reduceMul, Int.reduceNeg, if_true, if_false, ite_true, ite_false, reduceIte, hup_app, Nat.add_left_cancel_iff, Nat.left_eq_add, Nat.add_eq_left, reduceCtorEq, subc_0, subc_1, subc_2, subc_3, subc_4, subc_5, subc_6, subc_7, subc_8, subc_9, subc_10, subc_11, subc_12, sube_2, sube_3, sube_5, sube_8, sube_9, sube_10, rets_ok, va_rfs, true_or, or_true, or_false, false_or, sI_aload_n, sI_checkcast, sI_getfield, sI_goto, sI_ifCond, sI_if_icmp, sI_iinc, sI_iload_n, sI_invokevirtual, sI_istore_n, sI_return_, ix_123_0, ix_123_1, ix_123_4, ix_123_5, ix_123_6, ix_123_9, ix_123_12, ix_123_15, ix_123_16, ix_123_17, ix_123_20, ix_123_21, ix_123_24, ix_123_27, ix_123_30, ix_123_33, ix_123_34, ix_123_37, ix_123_38, ix_123_41, ix_123_42, ix_123_43, ix_123_46, ix_123_47, ix_123_48, ix_123_51, ix_123_54, ix_123_57, ix_123_58, ix_123_59, ix_123_62, ix_123_63, ix_123_66, ix_123_69, ix_123_72, ix_123_75, ix_123_78, mC_123, mS_123, mH_123, hX, XF]
    try simp (disch := omega) only [z_lt, z_le, z_eq, z_in, z_nat, Int.toNat_natCast, upd_z, z_l, zl_0, zl_add, zl_sub, zl_mul, zl_i, zl_eq, zl_div, Int.reduceLT, Int.reduceLE, Int.reduceToNat, Nat.reduceAdd, Nat.reduceLeDiff, not_false_eq_true, true_and, and_true]
    repeat' (first | (with_reducible refine ⟨?_, ?_⟩) | (with_reducible intro _))
    all_goals try (first | exact True.intro | with_reducible rfl | exact absurd True.intro (by assumption) | omega | (exfalso; omega) | (rw [if_pos (by omega)]; done) | (rw [if_neg (by omega)]; done))
    refine R_cV ix_123_21 (by decide) (by decide) rfl (l2) rfl (s201) (Nat.le_of_ble_eq_true rfl) (by rw [mcs_201, mC_123]; omega) (by rw [mcs_201, mS_123]; omega) ?_
    simp only [mcs_201, vpu, Nat.add_zero, Nat.zero_add, Nat.reduceAdd]
    refine R_run 60 ?_
    simp only [run_s, run_0, isc, Bool.or_false, Bool.false_or, Bool.or_true, Bool.true_or, Bool.or_self, cond_false, cond_true, gl, sl, stl, stl2, c2, isw, nf, pf, lnb, tk, true_and, and_true, nsg0, nsg1, Int.cast_ofNat_Int, Int.natCast_zero, Int.natCast_one, zero_z, z_add, z_sub, z_mul, z_neg, cnd_eq, cnd_ne, cnd_lt, cnd_ge, cnd_gt, cnd_le, vok_0, vok_3r, vok_3n, vok_4, Nat.add_zero, Nat.zero_add, Nat.reduceAdd, Nat.reduceSub, Nat.reduceMod, Nat.reduceDiv, Nat.reduceEqDiff, Nat.reduceLeDiff, Nat.reduceMul, Int.reduceNeg, if_true, if_false, ite_true, ite_false, reduceIte, hup_app, Nat.add_left_cancel_iff, Nat.left_eq_add, Nat.add_eq_left, reduceCtorEq, subc_0, subc_1, subc_2, subc_3, subc_4, subc_5, subc_6, subc_7, subc_8, subc_9, subc_10, subc_11, subc_12, sube_2, sube_3, sube_5, sube_8, sube_9, sube_10, rets_ok, va_rfs, true_or, or_true, or_false, false_or, sI_aload_n, sI_checkcast, sI_getfield, sI_goto, sI_ifCond, sI_if_icmp, sI_iinc, sI_iload_n, sI_invokevirtual, sI_istore_n, sI_return_, ix_123_0, ix_123_1, ix_123_4, ix_123_5, ix_123_6, ix_123_9, ix_123_12, ix_123_15, ix_123_16, ix_123_17, ix_123_20, ix_123_21, ix_123_24, ix_123_27, ix_123_30, ix_123_33, ix_123_34, ix_123_37, ix_123_38, ix_123_41, ix_123_42, ix_123_43, ix_123_46, ix_123_47, ix_123_48, ix_123_51, ix_123_54, ix_123_57, ix_123_58, ix_123_59, ix_123_62, ix_123_63, ix_123_66, ix_123_69, ix_123_72, ix_123_75, ix_123_78, mC_123, mS_123, mH_123, isT_0 c1]
    refine R_cV ix_123_27 (by decide) (by decide) rfl (isT_0 hT) rfl (s55) (Nat.le_of_ble_eq_true rfl) (by rw [mcs_55, mC_123]; omega) (by rw [mcs_55, mS_123]; omega) ?_
    simp only [mcs_55, vpu, Nat.add_zero, Nat.zero_add, Nat.reduceAdd]
    refine R_run 60 ?_
    simp only [run_s, run_0, isc, Bool.or_false, Bool.false_or, Bool.or_true, Bool.true_or, Bool.or_self, cond_false, cond_true, gl, sl, stl, stl2, c2, isw, nf, pf, lnb, tk, true_and, and_true, nsg0, nsg1, Int.cast_ofNat_Int, Int.natCast_zero, Int.natCast_one, zero_z, z_add, z_sub, z_mul, z_neg, cnd_eq, cnd_ne, cnd_lt, cnd_ge, cnd_gt, cnd_le, vok_0, vok_3r, vok_3n, vok_4, Nat.add_zero, Nat.zero_add, Nat.reduceAdd, Nat.reduceSub, Nat.reduceMod, Nat.reduceDiv, Nat.reduceEqDiff, Nat.reduceLeDiff, Nat.reduceMul, Int.reduceNeg, if_true, if_false, ite_true, ite_false, reduceIte, hup_app, Nat.add_left_cancel_iff, Nat.left_eq_add, Nat.add_eq_left, reduceCtorEq, subc_0, subc_1, subc_2, subc_3, subc_4, subc_5, subc_6, subc_7, subc_8, subc_9, subc_10, subc_11, subc_12, sube_2, sube_3, sube_5, sube_8, sube_9, sube_10, rets_ok, va_rfs, true_or, or_true, or_false, false_or, sI_aload_n, sI_checkcast, sI_getfield, sI_goto, sI_ifCond, sI_if_icmp, sI_iinc, sI_iload_n, sI_invokevirtual, sI_istore_n, sI_return_, ix_123_0, ix_123_1, ix_123_4, ix_123_5, ix_123_6, ix_123_9, ix_123_12, ix_123_15, ix_123_16, ix_123_17, ix_123_20, ix_123_21, ix_123_24, ix_123_27, ix_123_30, ix_123_33, ix_123_34, ix_123_37, ix_123_38, ix_123_41, ix_123_42, ix_123_43, ix_123_46, ix_123_47, ix_123_48, ix_123_51, ix_123_54, ix_123_57, ix_123_58, ix_123_59, ix_123_62, ix_123_63, ix_123_66, ix_123_69, ix_123_72, ix_123_75, ix_123_78, mC_123, mS_123, mH_123, isT_0 isT_blk, dn]
    exact r3
/- what the class's own tables need -/
theorem redo_o (hS : sC H nh J n fl cu nc rf uf ue) (hC : isCx E h sz x base H nh J n fl cu nc rf uf ue N ha ea ca a1 a2 a3 A C) (ht : t = x + 8 ∨ t = x + 65) : redo E h x t H nh J n cu nc ha ea ca a2 a3 C := by
  obtain ⟨c1, c2, c3, c4, ⟨c5, c5n, c5a⟩, c6, c7, c8, r, tt, ⟨z1, z2, z3, z4, z5⟩⟩ := hC
  have hu := hS.2.2.2.2.2.1
  have hfl := hS.2.2.2.1
  refine ⟨c3, c4, by omega, fun i hi => ⟨(c6 i hi).1, Or.inr (by have := (c6 i hi).2; omega)⟩, fun i hi => ⟨(c7 i hi).1, by have := (c7 i hi).2; omega⟩, fun c hc => ?_, ?_, ?_⟩
  · obtain ⟨d1, d2, d3, d4⟩ := c8 c hc
    exact ⟨d1, d2, d3, by omega, by have := hu c hc; omega⟩
  · rcases ht with rfl | rfl
    · exact arr_T c3 c5n
    · exact arr_T c3 c5a
  · rcases ht with rfl | rfl
    · exact arr_T c4 c5n
    · exact arr_T c4 c5a
/- a table of the class is another -/
theorem isCx_N {N' : TT} (hC : isCx E h sz x base H nh J n fl cu nc rf uf ue N ha ea ca a1 a2 a3 A C) (h1 : tEq H (At H J n) N') (h2 : tix nh N') : isCx E (blk h (x + 8) 57 (TB (x + 8) ha N')) sz x base H nh J n fl cu nc rf uf ue N' ha ea ca a1 a2 a3 A C := by
  obtain ⟨c1, c2, c3, c4, ⟨c5, c5n, c5a⟩, c6, c7, c8, r, tt, ⟨z1, z2, z3, z4, z5⟩⟩ := hC
  have ke : kee h (blk h (x + 8) 57 (TB (x + 8) ha N')) base := kee_bk (by omega)
  have o1 := arr_T c2 c5n
  have o3 := arr_T c4 c5n
  have o2 := arr_T c3 c5n
  have oE := isT_no c5n z1
  refine ⟨by rw [blk_out (by omega), c1], kL c2 (blk_out (by omega)) (blk_out (by omega)) (fun i hi => (c6 i hi).2) ke, kL c3 (blk_out (by omega)) (blk_out (by omega)) (fun i hi => (c7 i hi).2) ke, kL c4 (blk_out (by omega)) (blk_out (by omega)) (fun i hi => (c8 i hi).2.2.2) ke, ⟨c5, isT_blk, isT_out c5a (by omega)⟩, fun i hi => ⟨kH (c6 i hi).1 (c6 i hi).2 ke, (c6 i hi).2⟩, fun i hi => ⟨kE (c7 i hi).1 (c7 i hi).2 ke, (c7 i hi).2⟩, fun c hc => ⟨kT (c8 c hc).1 (c8 c hc).2.2.2 ke, (c8 c hc).2⟩, r, ⟨h1, h2, tt.2.2⟩, ⟨by rw [blk_out (by omega), z1], z2, fun q hq => ?_, z4, z5⟩⟩
  rw [blk_out (by omega), z3 q hq]
theorem isCx_A {A' : TT} (hC : isCx E h sz x base H nh J n fl cu nc rf uf ue N ha ea ca a1 a2 a3 A C) (h2 : tix nh A') : isCx E (blk h (x + 65) 57 (TB (x + 65) ha A')) sz x base H nh J n fl cu nc rf uf ue N ha ea ca a1 a2 a3 A' C := by
  obtain ⟨c1, c2, c3, c4, ⟨c5, c5n, c5a⟩, c6, c7, c8, r, tt, ⟨z1, z2, z3, z4, z5⟩⟩ := hC
  have ke : kee h (blk h (x + 65) 57 (TB (x + 65) ha A')) base := kee_bk (by omega)
  have o1 := arr_T c2 c5a
  have o3 := arr_T c4 c5a
  have o2 := arr_T c3 c5a
  have oE := isT_no c5a z1
  refine ⟨by rw [blk_out (by omega), c1], kL c2 (blk_out (by omega)) (blk_out (by omega)) (fun i hi => (c6 i hi).2) ke, kL c3 (blk_out (by omega)) (blk_out (by omega)) (fun i hi => (c7 i hi).2) ke, kL c4 (blk_out (by omega)) (blk_out (by omega)) (fun i hi => (c8 i hi).2.2.2) ke, ⟨c5, isT_out c5n (by omega), isT_blk⟩, fun i hi => ⟨kH (c6 i hi).1 (c6 i hi).2 ke, (c6 i hi).2⟩, fun i hi => ⟨kE (c7 i hi).1 (c7 i hi).2 ke, (c7 i hi).2⟩, fun c hc => ⟨kT (c8 c hc).1 (c8 c hc).2.2.2 ke, (c8 c hc).2⟩, r, ⟨tt.1, tt.2.1, h2⟩, ⟨by rw [blk_out (by omega), z1], z2, fun q hq => ?_, z4, z5⟩⟩
  rw [blk_out (by omega), z3 q hq]
theorem frm_b {F : Nat → va_E} (ht : t = x + 8 ∨ t = x + 65) : frm h (blk h t 57 F) x base := fun q _ h2 => blk_out (by omega)
/- the sum of an alike table -/
theorem adF_c {G G' : GS} {s : Int} : ∀ np, G' 7 1 = G 7 1 → (∀ k, k < np → G' 1 k = G 1 k) → adF G' s np = adF G s np := by
  intro np
  induction np with
  | zero => intro h1 _; show 31 * s + G' 7 1 = 31 * s + G 7 1; rw [h1]
  | succ k ih =>
    intro h1 h2
    show 31 * adF G' s k + G' 1 k % 1000003 = 31 * adF G s k + G 1 k % 1000003
    rw [ih h1 (fun j hj => h2 j (by omega)), h2 k (by omega)]
def smV (H : HT) (T : TT) : Int := smT T (fun i => H (hxi T i) 1) (T 6 1 1).toNat
theorem smV_e (hH : hsOK H nh) (hT : TV H nh T) (q : tEq H T K) : smV H K = smV H T := by
  have e1 := q.1 1 (by decide)
  have e2 := q.1 2 (by decide)
  have hF : ∀ m : Nat, (m : Int) ≤ T 6 1 1 → smF K (fun i => H (hxi K i) 1) m = smF T (fun i => H (hxi T i) 1) m := by
    intro m
    induction m with
    | zero => intro _; rfl
    | succ k ih =>
      intro hm
      have qk := q.2.2 k (by omega)
      show 31 * adF (K k) (smF K _ k) (H (hxi K k) 1) + K k 7 6 = 31 * adF (T k) (smF T _ k) (H (hxi T k) 1) + T k 7 6
      rw [ih (by omega), tEq_hx q (i := k) (by omega), qk.1.1 6 (by decide), adF_c _ (qk.1.1 1 (by decide)) (fun j hj => qk.1.2.1.2.1 j hj)]
  have hPp : ∀ (s : Int) (m : Nat), m ≤ 4 → smP K s m = smP T s m := by
    intro s m
    induction m with
    | zero => intro _; rfl
    | succ k ih =>
      intro hm
      show 31 * smP K s k + K 6 0 k = 31 * smP T s k + T 6 0 k
      rw [ih (by omega), q.2.1 k (by omega)]
  have h6 := hT.1
  unfold smV smT
  rw [e1, e2, hF _ (by omega), hPp _ 4 (Nat.le_refl _)]
theorem sp_111v (hS : sC H nh J n fl cu nc rf uf ue) (hC : isC E h sz x base H nh J n fl cu nc rf uf ue N) : Sp E (d + 20) 111 [.ref x] h sz (rets (some (.long (zl (smV H N)))) h sz) := by
  obtain ⟨ha, ea, ca, a1, a2, a3, A, C, hC⟩ := hC
  obtain ⟨hX, hL, hT, hkk, hxz⟩ := cx hC
  obtain ⟨hV, -, -⟩ := cNV hS hC.2.2.2.2.2.2.2.2.2.1.1
  exact sp_111y hX hT hV (cNM hS hC.2.2.2.2.2.2.2.2.2.1.1) hS.1 hkk
set_option maxRecDepth 16384 in
theorem sp_110y {k : Int} (hS : sC H nh J n fl cu nc rf uf ue) (hC : isC E h sz x base H nh J n fl cu nc rf uf ue N) (hk : -1 ≤ k ∧ k < nc) : ∃ h', Sp E (d + 20) 110 [.ref x, .int (z k)] h sz (rets (some (.long (zl (smV H N)))) h' sz) ∧ isC E h' sz x base H nh J n fl cu nc rf uf ue N ∧ frm h h' x base := by
  obtain ⟨ha, ea, ca, a1, a2, a3, A, C, hC⟩ := hC
  obtain ⟨hX, hL, hT, hkk, hxz⟩ := cx hC
  obtain ⟨hV, hVa, hMa⟩ := cNV hS hC.2.2.2.2.2.2.2.2.2.1.1
  have hM := cNM hS hC.2.2.2.2.2.2.2.2.2.1.1
  have hTA := hC.2.2.2.2.1.2.2
  have hnc := hS.2.2.2.2.1
  have tN := hC.2.2.2.2.2.2.2.2.2.1.1
  have tA := hC.2.2.2.2.2.2.2.2.2.1.2.2
  obtain ⟨K', r1, r2, s123⟩ := sp_123v (E := E) (d := d + 10) (sz := sz) hS.1 hS.2.1 hS.2.2.1 hnc hX (redo_o hS hC (Or.inr rfl)) hTA tA hk
  have hC' := isCx_A hC r2
  obtain ⟨hX', hL', hT', hkk', hxz'⟩ := cx hC'
  have sm := sum_v (E := E) (d := d + 10) (sz := sz) hS.1 hT' hV hM hkk' (isT_blk (h := h) (t := x + 65) (ha := ha) (T := K')) (TV_e hS.1 hVa r1) (TM_e hS.1 hVa hMa r1)
  rw [show smT K' (fun i => H (hxi K' i) 1) (K' 6 1 1).toNat = smV H K' from rfl, smV_e hS.1 hVa r1, ← smV_e hS.1 hVa tN] at sm
  refine ⟨_, ?_, ⟨ha, ea, ca, a1, a2, a3, K', C, hC'⟩, frm_b (Or.inr rfl)⟩
  have s199 := sp_199 (E := E) (d := d + 18) (sz := sz) hC.2.2.2.1
  obtain ⟨fs2, l2⟩ := l_obj hC.2.2.2.1
  refine ⟨mi_110, mt_110, Nat.le_of_ble_eq_true rfl, ?_⟩
  change Rr _ _ _ _ mi_110 _ 0 [some (.ref x), some (.int (z k))] [] _ _ 0 0
  by_cases hk0 : k = -1
  · subst hk0
    refine R_run 60 ?_
    simp only [run_s, run_0, isc, Bool.or_false, Bool.false_or, Bool.or_true, Bool.true_or, Bool.or_self, cond_false, cond_true, gl, sl, stl, stl2, c2, isw, nf, pf, lnb, tk, true_and, and_true, nsg0, nsg1, Int.cast_ofNat_Int, Int.natCast_zero, Int.natCast_one, zero_z, z_add, z_sub, z_mul, z_neg, cnd_eq, cnd_ne, cnd_lt, cnd_ge, cnd_gt, cnd_le, vok_0, vok_3r, vok_3n, vok_4, Nat.add_zero, Nat.zero_add, Nat.reduceAdd, Nat.reduceSub, Nat.reduceMod, Nat.reduceDiv, Nat.reduceEqDiff, Nat.reduceLeDiff, Nat.reduceMul, Int.reduceNeg, if_true, if_false, ite_true, ite_false, reduceIte, hup_app, Nat.add_left_cancel_iff, Nat.left_eq_add, Nat.add_eq_left, reduceCtorEq, subc_0, subc_1, subc_2, subc_3, subc_4, subc_5, subc_6, subc_7, subc_8, subc_9, subc_10, subc_11, subc_12, sube_2, sube_3, sube_5, sube_8, sube_9, sube_10, rets_ok, va_rfs, true_or, or_true, or_false, false_or, sI_aload_n, sI_getfield, sI_iconst, sI_ifCond, sI_if_icmp, sI_iload_n, sI_invokevirtual, sI_lreturn, sI_new, ix_110_0, ix_110_1, ix_110_2, ix_110_5, ix_110_6, ix_110_9, ix_110_10, ix_110_11, ix_110_14, ix_110_17, ix_110_20, ix_110_31, ix_110_32, ix_110_33, ix_110_34, ix_110_37, ix_110_40, ix_110_41, ix_110_44, ix_110_47, mC_110, mS_110, mH_110, hX, XF]
    try simp (disch := omega) only [z_lt, z_le, z_eq, z_in, z_nat, Int.toNat_natCast, upd_z, z_l, zl_0, zl_add, zl_sub, zl_mul, zl_i, zl_eq, zl_div, Int.reduceLT, Int.reduceLE, Int.reduceToNat, Nat.reduceAdd, Nat.reduceLeDiff, not_false_eq_true, true_and, and_true]
    repeat' (first | (with_reducible refine ⟨?_, ?_⟩) | (with_reducible intro _))
    all_goals try (first | exact True.intro | with_reducible rfl | exact absurd True.intro (by assumption) | omega | (exfalso; omega) | (rw [if_pos (by omega)]; done) | (rw [if_neg (by omega)]; done))
    refine R_cV ix_110_37 (by decide) (by decide) rfl (hX) rfl (s123) (Nat.le_of_ble_eq_true rfl) (by rw [mcs_123, mC_110]; omega) (by rw [mcs_123, mS_110]; omega) ?_
    simp only [mcs_123, vpu, Nat.add_zero, Nat.zero_add, Nat.reduceAdd]
    refine R_run 60 ?_
    simp only [run_s, run_0, isc, Bool.or_false, Bool.false_or, Bool.or_true, Bool.true_or, Bool.or_self, cond_false, cond_true, gl, sl, stl, stl2, c2, isw, nf, pf, lnb, tk, true_and, and_true, nsg0, nsg1, Int.cast_ofNat_Int, Int.natCast_zero, Int.natCast_one, zero_z, z_add, z_sub, z_mul, z_neg, cnd_eq, cnd_ne, cnd_lt, cnd_ge, cnd_gt, cnd_le, vok_0, vok_3r, vok_3n, vok_4, Nat.add_zero, Nat.zero_add, Nat.reduceAdd, Nat.reduceSub, Nat.reduceMod, Nat.reduceDiv, Nat.reduceEqDiff, Nat.reduceLeDiff, Nat.reduceMul, Int.reduceNeg, if_true, if_false, ite_true, ite_false, reduceIte, hup_app, Nat.add_left_cancel_iff, Nat.left_eq_add, Nat.add_eq_left, reduceCtorEq, subc_0, subc_1, subc_2, subc_3, subc_4, subc_5, subc_6, subc_7, subc_8, subc_9, subc_10, subc_11, subc_12, sube_2, sube_3, sube_5, sube_8, sube_9, sube_10, rets_ok, va_rfs, true_or, or_true, or_false, false_or, sI_aload_n, sI_getfield, sI_iconst, sI_ifCond, sI_if_icmp, sI_iload_n, sI_invokevirtual, sI_lreturn, sI_new, ix_110_0, ix_110_1, ix_110_2, ix_110_5, ix_110_6, ix_110_9, ix_110_10, ix_110_11, ix_110_14, ix_110_17, ix_110_20, ix_110_31, ix_110_32, ix_110_33, ix_110_34, ix_110_37, ix_110_40, ix_110_41, ix_110_44, ix_110_47, mC_110, mS_110, mH_110, hX', XF]
    refine R_cV ix_110_44 (by decide) (by decide) rfl (isT_0 isT_blk) rfl (sm) (Nat.le_of_ble_eq_true rfl) (by rw [mcs_72, mC_110]; omega) (by rw [mcs_72, mS_110]; omega) ?_
    simp only [mcs_72, vpu, Nat.add_zero, Nat.zero_add, Nat.reduceAdd]
    refine R_run 60 ?_
    simp only [run_s, run_0, isc, Bool.or_false, Bool.false_or, Bool.or_true, Bool.true_or, Bool.or_self, cond_false, cond_true, gl, sl, stl, stl2, c2, isw, nf, pf, lnb, tk, true_and, and_true, nsg0, nsg1, Int.cast_ofNat_Int, Int.natCast_zero, Int.natCast_one, zero_z, z_add, z_sub, z_mul, z_neg, cnd_eq, cnd_ne, cnd_lt, cnd_ge, cnd_gt, cnd_le, vok_0, vok_3r, vok_3n, vok_4, Nat.add_zero, Nat.zero_add, Nat.reduceAdd, Nat.reduceSub, Nat.reduceMod, Nat.reduceDiv, Nat.reduceEqDiff, Nat.reduceLeDiff, Nat.reduceMul, Int.reduceNeg, if_true, if_false, ite_true, ite_false, reduceIte, hup_app, Nat.add_left_cancel_iff, Nat.left_eq_add, Nat.add_eq_left, reduceCtorEq, subc_0, subc_1, subc_2, subc_3, subc_4, subc_5, subc_6, subc_7, subc_8, subc_9, subc_10, subc_11, subc_12, sube_2, sube_3, sube_5, sube_8, sube_9, sube_10, rets_ok, va_rfs, true_or, or_true, or_false, false_or, sI_aload_n, sI_getfield, sI_iconst, sI_ifCond, sI_if_icmp, sI_iload_n, sI_invokevirtual, sI_lreturn, sI_new, ix_110_0, ix_110_1, ix_110_2, ix_110_5, ix_110_6, ix_110_9, ix_110_10, ix_110_11, ix_110_14, ix_110_17, ix_110_20, ix_110_31, ix_110_32, ix_110_33, ix_110_34, ix_110_37, ix_110_40, ix_110_41, ix_110_44, ix_110_47, mC_110, mS_110, mH_110]
  · refine R_run 60 ?_
    simp only [run_s, run_0, isc, Bool.or_false, Bool.false_or, Bool.or_true, Bool.true_or, Bool.or_self, cond_false, cond_true, gl, sl, stl, stl2, c2, isw, nf, pf, lnb, tk, true_and, and_true, nsg0, nsg1, Int.cast_ofNat_Int, Int.natCast_zero, Int.natCast_one, zero_z, z_add, z_sub, z_mul, z_neg, cnd_eq, cnd_ne, cnd_lt, cnd_ge, cnd_gt, cnd_le, vok_0, vok_3r, vok_3n, vok_4, Nat.add_zero, Nat.zero_add, Nat.reduceAdd, Nat.reduceSub, Nat.reduceMod, Nat.reduceDiv, Nat.reduceEqDiff, Nat.reduceLeDiff, Nat.reduceMul, Int.reduceNeg, if_true, if_false, ite_true, ite_false, reduceIte, hup_app, Nat.add_left_cancel_iff, Nat.left_eq_add, Nat.add_eq_left, reduceCtorEq, subc_0, subc_1, subc_2, subc_3, subc_4, subc_5, subc_6, subc_7, subc_8, subc_9, subc_10, subc_11, subc_12, sube_2, sube_3, sube_5, sube_8, sube_9, sube_10, rets_ok, va_rfs, true_or, or_true, or_false, false_or, sI_aload_n, sI_getfield, sI_iconst, sI_ifCond, sI_if_icmp, sI_iload_n, sI_invokevirtual, sI_lreturn, sI_new, ix_110_0, ix_110_1, ix_110_2, ix_110_5, ix_110_6, ix_110_9, ix_110_10, ix_110_11, ix_110_14, ix_110_17, ix_110_20, ix_110_31, ix_110_32, ix_110_33, ix_110_34, ix_110_37, ix_110_40, ix_110_41, ix_110_44, ix_110_47, mC_110, mS_110, mH_110, hX, XF]
    try simp (disch := omega) only [z_lt, z_le, z_eq, z_in, z_nat, Int.toNat_natCast, upd_z, z_l, zl_0, zl_add, zl_sub, zl_mul, zl_i, zl_eq, zl_div, Int.reduceLT, Int.reduceLE, Int.reduceToNat, Nat.reduceAdd, Nat.reduceLeDiff, not_false_eq_true, true_and, and_true]
    repeat' (first | (with_reducible refine ⟨?_, ?_⟩) | (with_reducible intro _))
    all_goals try (first | exact True.intro | with_reducible rfl | exact absurd True.intro (by assumption) | omega | (exfalso; omega) | (rw [if_pos (by omega)]; done) | (rw [if_neg (by omega)]; done))
    refine R_cV ix_110_14 (by decide) (by decide) rfl (l2) rfl (s199) (Nat.le_of_ble_eq_true rfl) (by rw [mcs_199, mC_110]; omega) (by rw [mcs_199, mS_110]; omega) ?_
    simp only [mcs_199, vpu, Nat.add_zero, Nat.zero_add, Nat.reduceAdd]
    refine R_run 60 ?_
    simp only [run_s, run_0, isc, Bool.or_false, Bool.false_or, Bool.or_true, Bool.true_or, Bool.or_self, cond_false, cond_true, gl, sl, stl, stl2, c2, isw, nf, pf, lnb, tk, true_and, and_true, nsg0, nsg1, Int.cast_ofNat_Int, Int.natCast_zero, Int.natCast_one, zero_z, z_add, z_sub, z_mul, z_neg, cnd_eq, cnd_ne, cnd_lt, cnd_ge, cnd_gt, cnd_le, vok_0, vok_3r, vok_3n, vok_4, Nat.add_zero, Nat.zero_add, Nat.reduceAdd, Nat.reduceSub, Nat.reduceMod, Nat.reduceDiv, Nat.reduceEqDiff, Nat.reduceLeDiff, Nat.reduceMul, Int.reduceNeg, if_true, if_false, ite_true, ite_false, reduceIte, hup_app, Nat.add_left_cancel_iff, Nat.left_eq_add, Nat.add_eq_left, reduceCtorEq, subc_0, subc_1, subc_2, subc_3, subc_4, subc_5, subc_6, subc_7, subc_8, subc_9, subc_10, subc_11, subc_12, sube_2, sube_3, sube_5, sube_8, sube_9, sube_10, rets_ok, va_rfs, true_or, or_true, or_false, false_or, sI_aload_n, sI_getfield, sI_iconst, sI_ifCond, sI_if_icmp, sI_iload_n, sI_invokevirtual, sI_lreturn, sI_new, ix_110_0, ix_110_1, ix_110_2, ix_110_5, ix_110_6, ix_110_9, ix_110_10, ix_110_11, ix_110_14, ix_110_17, ix_110_20, ix_110_31, ix_110_32, ix_110_33, ix_110_34, ix_110_37, ix_110_40, ix_110_41, ix_110_44, ix_110_47, mC_110, mS_110, mH_110, hX, XF]
    try simp (disch := omega) only [z_lt, z_le, z_eq, z_in, z_nat, Int.toNat_natCast, upd_z, z_l, zl_0, zl_add, zl_sub, zl_mul, zl_i, zl_eq, zl_div, Int.reduceLT, Int.reduceLE, Int.reduceToNat, Nat.reduceAdd, Nat.reduceLeDiff, not_false_eq_true, true_and, and_true]
    repeat' (first | (with_reducible refine ⟨?_, ?_⟩) | (with_reducible intro _))
    all_goals try (first | exact True.intro | with_reducible rfl | exact absurd True.intro (by assumption) | omega | (exfalso; omega) | (rw [if_pos (by omega)]; done) | (rw [if_neg (by omega)]; done))
    refine R_cV ix_110_37 (by decide) (by decide) rfl (hX) rfl (s123) (Nat.le_of_ble_eq_true rfl) (by rw [mcs_123, mC_110]; omega) (by rw [mcs_123, mS_110]; omega) ?_
    simp only [mcs_123, vpu, Nat.add_zero, Nat.zero_add, Nat.reduceAdd]
    refine R_run 60 ?_
    simp only [run_s, run_0, isc, Bool.or_false, Bool.false_or, Bool.or_true, Bool.true_or, Bool.or_self, cond_false, cond_true, gl, sl, stl, stl2, c2, isw, nf, pf, lnb, tk, true_and, and_true, nsg0, nsg1, Int.cast_ofNat_Int, Int.natCast_zero, Int.natCast_one, zero_z, z_add, z_sub, z_mul, z_neg, cnd_eq, cnd_ne, cnd_lt, cnd_ge, cnd_gt, cnd_le, vok_0, vok_3r, vok_3n, vok_4, Nat.add_zero, Nat.zero_add, Nat.reduceAdd, Nat.reduceSub, Nat.reduceMod, Nat.reduceDiv, Nat.reduceEqDiff, Nat.reduceLeDiff, Nat.reduceMul, Int.reduceNeg, if_true, if_false, ite_true, ite_false, reduceIte, hup_app, Nat.add_left_cancel_iff, Nat.left_eq_add, Nat.add_eq_left, reduceCtorEq, subc_0, subc_1, subc_2, subc_3, subc_4, subc_5, subc_6, subc_7, subc_8, subc_9, subc_10, subc_11, subc_12, sube_2, sube_3, sube_5, sube_8, sube_9, sube_10, rets_ok, va_rfs, true_or, or_true, or_false, false_or, sI_aload_n, sI_getfield, sI_iconst, sI_ifCond, sI_if_icmp, sI_iload_n, sI_invokevirtual, sI_lreturn, sI_new, ix_110_0, ix_110_1, ix_110_2, ix_110_5, ix_110_6, ix_110_9, ix_110_10, ix_110_11, ix_110_14, ix_110_17, ix_110_20, ix_110_31, ix_110_32, ix_110_33, ix_110_34, ix_110_37, ix_110_40, ix_110_41, ix_110_44, ix_110_47, mC_110, mS_110, mH_110, hX', XF]
    refine R_cV ix_110_44 (by decide) (by decide) rfl (isT_0 isT_blk) rfl (sm) (Nat.le_of_ble_eq_true rfl) (by rw [mcs_72, mC_110]; omega) (by rw [mcs_72, mS_110]; omega) ?_
    simp only [mcs_72, vpu, Nat.add_zero, Nat.zero_add, Nat.reduceAdd]
    refine R_run 60 ?_
    simp only [run_s, run_0, isc, Bool.or_false, Bool.false_or, Bool.or_true, Bool.true_or, Bool.or_self, cond_false, cond_true, gl, sl, stl, stl2, c2, isw, nf, pf, lnb, tk, true_and, and_true, nsg0, nsg1, Int.cast_ofNat_Int, Int.natCast_zero, Int.natCast_one, zero_z, z_add, z_sub, z_mul, z_neg, cnd_eq, cnd_ne, cnd_lt, cnd_ge, cnd_gt, cnd_le, vok_0, vok_3r, vok_3n, vok_4, Nat.add_zero, Nat.zero_add, Nat.reduceAdd, Nat.reduceSub, Nat.reduceMod, Nat.reduceDiv, Nat.reduceEqDiff, Nat.reduceLeDiff, Nat.reduceMul, Int.reduceNeg, if_true, if_false, ite_true, ite_false, reduceIte, hup_app, Nat.add_left_cancel_iff, Nat.left_eq_add, Nat.add_eq_left, reduceCtorEq, subc_0, subc_1, subc_2, subc_3, subc_4, subc_5, subc_6, subc_7, subc_8, subc_9, subc_10, subc_11, subc_12, sube_2, sube_3, sube_5, sube_8, sube_9, sube_10, rets_ok, va_rfs, true_or, or_true, or_false, false_or, sI_aload_n, sI_getfield, sI_iconst, sI_ifCond, sI_if_icmp, sI_iload_n, sI_invokevirtual, sI_lreturn, sI_new, ix_110_0, ix_110_1, ix_110_2, ix_110_5, ix_110_6, ix_110_9, ix_110_10, ix_110_11, ix_110_14, ix_110_17, ix_110_20, ix_110_31, ix_110_32, ix_110_33, ix_110_34, ix_110_37, ix_110_40, ix_110_41, ix_110_44, ix_110_47, mC_110, mS_110, mH_110]
set_option maxRecDepth 16384 in
theorem sp_110e {k : Int} (hS : sC H nh J n fl cu nc rf uf ue) (hC : isC E h sz x base H nh J n fl cu nc rf uf ue N) (hr : -2147483648 ≤ k ∧ k ≤ 2147483647) (hk : k < -1 ∨ (nc : Int) ≤ k) : Sp E (d + 20) 110 [.ref x, .int (z k)] h sz (thrs eIOB h sz) := by
  obtain ⟨ha, ea, ca, a1, a2, a3, A, C, hC⟩ := hC
  obtain ⟨hX, hL, hT, hkk, hxz⟩ := cx hC
  have hnc := hS.2.2.2.2.1
  have s199 := sp_199 (E := E) (d := d + 18) (sz := sz) hC.2.2.2.1
  obtain ⟨fs2, l2⟩ := l_obj hC.2.2.2.1
  refine ⟨mi_110, mt_110, Nat.le_of_ble_eq_true rfl, ?_⟩
  change Rr _ _ _ _ mi_110 _ 0 [some (.ref x), some (.int (z k))] [] _ _ 0 0
  refine R_run 60 ?_
  simp only [run_s, run_0, isc, Bool.or_false, Bool.false_or, Bool.or_true, Bool.true_or, Bool.or_self, cond_false, cond_true, gl, sl, stl, stl2, c2, isw, nf, pf, lnb, tk, true_and, and_true, nsg0, nsg1, Int.cast_ofNat_Int, Int.natCast_zero, Int.natCast_one, zero_z, z_add, z_sub, z_mul, z_neg, cnd_eq, cnd_ne, cnd_lt, cnd_ge, cnd_gt, cnd_le, vok_0, vok_3r, vok_3n, vok_4, Nat.add_zero, Nat.zero_add, Nat.reduceAdd, Nat.reduceSub, Nat.reduceMod, Nat.reduceDiv, Nat.reduceEqDiff, Nat.reduceLeDiff, Nat.reduceMul, Int.reduceNeg, if_true, if_false, ite_true, ite_false, reduceIte, hup_app, Nat.add_left_cancel_iff, Nat.left_eq_add, Nat.add_eq_left, reduceCtorEq, subc_0, subc_1, subc_2, subc_3, subc_4, subc_5, subc_6, subc_7, subc_8, subc_9, subc_10, subc_11, subc_12, sube_2, sube_3, sube_5, sube_8, sube_9, sube_10, rets_ok, va_rfs, true_or, or_true, or_false, false_or, sI_aload_n, sI_getfield, sI_iconst, sI_ifCond, sI_if_icmp, sI_iload_n, sI_invokevirtual, sI_lreturn, sI_new, ix_110_0, ix_110_1, ix_110_2, ix_110_5, ix_110_6, ix_110_9, ix_110_10, ix_110_11, ix_110_14, ix_110_17, ix_110_20, ix_110_31, ix_110_32, ix_110_33, ix_110_34, ix_110_37, ix_110_40, ix_110_41, ix_110_44, ix_110_47, mC_110, mS_110, mH_110, hX, XF]
  try simp (disch := omega) only [z_lt, z_le, z_eq, z_in, z_nat, Int.toNat_natCast, upd_z, z_l, zl_0, zl_add, zl_sub, zl_mul, zl_i, zl_eq, zl_div, Int.reduceLT, Int.reduceLE, Int.reduceToNat, Nat.reduceAdd, Nat.reduceLeDiff, not_false_eq_true, true_and, and_true]
  repeat' (first | (with_reducible refine ⟨?_, ?_⟩) | (with_reducible intro _))
  all_goals try (first | exact True.intro | with_reducible rfl | exact absurd True.intro (by assumption) | omega | (exfalso; omega) | (rw [if_pos (by omega)]; done) | (rw [if_neg (by omega)]; done) | exact ⟨rfl, rfl, by omega⟩ | exact Nat.le_of_ble_eq_true rfl)
  refine R_cV ix_110_14 (by decide) (by decide) rfl (l2) rfl (s199) (Nat.le_of_ble_eq_true rfl) (by rw [mcs_199, mC_110]; omega) (by rw [mcs_199, mS_110]; omega) ?_
  simp only [mcs_199, vpu, Nat.add_zero, Nat.zero_add, Nat.reduceAdd]
  refine R_run 60 ?_
  simp only [run_s, run_0, isc, Bool.or_false, Bool.false_or, Bool.or_true, Bool.true_or, Bool.or_self, cond_false, cond_true, gl, sl, stl, stl2, c2, isw, nf, pf, lnb, tk, true_and, and_true, nsg0, nsg1, Int.cast_ofNat_Int, Int.natCast_zero, Int.natCast_one, zero_z, z_add, z_sub, z_mul, z_neg, cnd_eq, cnd_ne, cnd_lt, cnd_ge, cnd_gt, cnd_le, vok_0, vok_3r, vok_3n, vok_4, Nat.add_zero, Nat.zero_add, Nat.reduceAdd, Nat.reduceSub, Nat.reduceMod, Nat.reduceDiv, Nat.reduceEqDiff, Nat.reduceLeDiff, Nat.reduceMul, Int.reduceNeg, if_true, if_false, ite_true, ite_false, reduceIte, hup_app, Nat.add_left_cancel_iff, Nat.left_eq_add, Nat.add_eq_left, reduceCtorEq, subc_0, subc_1, subc_2, subc_3, subc_4, subc_5, subc_6, subc_7, subc_8, subc_9, subc_10, subc_11, subc_12, sube_2, sube_3, sube_5, sube_8, sube_9, sube_10, rets_ok, va_rfs, true_or, or_true, or_false, false_or, sI_aload_n, sI_getfield, sI_iconst, sI_ifCond, sI_if_icmp, sI_iload_n, sI_invokevirtual, sI_lreturn, sI_new, ix_110_0, ix_110_1, ix_110_2, ix_110_5, ix_110_6, ix_110_9, ix_110_10, ix_110_11, ix_110_14, ix_110_17, ix_110_20, ix_110_31, ix_110_32, ix_110_33, ix_110_34, ix_110_37, ix_110_40, ix_110_41, ix_110_44, ix_110_47, mC_110, mS_110, mH_110, hX, XF]
  try simp (disch := omega) only [z_lt, z_le, z_eq, z_in, z_nat, Int.toNat_natCast, upd_z, z_l, zl_0, zl_add, zl_sub, zl_mul, zl_i, zl_eq, zl_div, Int.reduceLT, Int.reduceLE, Int.reduceToNat, Nat.reduceAdd, Nat.reduceLeDiff, not_false_eq_true, true_and, and_true]
  repeat' (first | (with_reducible refine ⟨?_, ?_⟩) | (with_reducible intro _))
  all_goals try (first | exact True.intro | with_reducible rfl | exact absurd True.intro (by assumption) | omega | (exfalso; omega) | (rw [if_pos (by omega)]; done) | (rw [if_neg (by omega)]; done) | exact ⟨rfl, rfl, by omega⟩ | exact Nat.le_of_ble_eq_true rfl)
end RDP
