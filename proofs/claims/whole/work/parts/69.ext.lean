section EXT
variable {E : EX} {d : Nat} {h h' : AH} {sz sz' x base g hs b : Nat} {H : HT} {nh : Nat} {J : GS} {n fl : Nat} {cu : Nat → Nat} {nc : Nat} {rf uf ue : Int} {N : TT} {ha ea ca : Nat → Nat} {a1 a2 a3 : Nat} {A : TT} {C : Nat → TT} {G W : GS} {P : Nat → Nat}
/- a heap that has grown -/
theorem isCx_ext (hC : isCx E h sz x base H nh J n fl cu nc rf uf ue N ha ea ca a1 a2 a3 A C) (hx : ∀ q, q < sz → h' q = h q) (hz : ∀ q, sz' ≤ q → h' q = none) (hs : sz ≤ sz') : isCx E h' sz' x base H nh J n fl cu nc rf uf ue N ha ea ca a1 a2 a3 A C := by
  obtain ⟨c1, c2, c3, c4, ⟨c5, c5n, c5a⟩, c6, c7, c8, r, t, ⟨z1, z2, z3, z4, z5⟩⟩ := hC
  have lt : ∀ {q c}, h q = some c → q < sz := fun k => isL_lt (hz := z3) k
  have ke : kee h h' base := fun q c _ hc _ => by rw [hx q (lt hc), hc]
  have ar : ∀ {l a m f}, isL E h l a m f → h' a = h a := fun k => by
    rcases arr_k k with ⟨k1, -⟩ | ⟨u, k1⟩
    · rw [k1]; exact hx _ z2
    · exact hx _ (lt k1)
  have ls : ∀ {l a m f}, isL E h l a m f → h' l = h l := fun k => by
    obtain ⟨fs, k1⟩ := l_obj k
    exact hx _ (lt k1)
  exact ⟨by rw [hx x (lt c1), c1], kL c2 (ls c2) (ar c2) (fun i hi => (c6 i hi).2) ke, kL c3 (ls c3) (ar c3) (fun i hi => (c7 i hi).2) ke, kL c4 (ls c4) (ar c4) (fun i hi => (c8 i hi).2.2.2) ke, ⟨c5, fun j hj => by rw [hx _ (lt (c5n j hj)), c5n j hj], fun j hj => by rw [hx _ (lt (c5a j hj)), c5a j hj]⟩, fun i hi => ⟨kH (c6 i hi).1 (c6 i hi).2 ke, (c6 i hi).2⟩, fun i hi => ⟨kE (c7 i hi).1 (c7 i hi).2 ke, (c7 i hi).2⟩, fun c hc => ⟨kT (c8 c hc).1 (c8 c hc).2.2.2 ke, (c8 c hc).2⟩, r, t, ⟨by rw [hx _ z2, z1], by omega, hz, z4, by omega⟩⟩
theorem isCx_up {c : va_E} (hC : isCx E h sz x base H nh J n fl cu nc rf uf ue N ha ea ca a1 a2 a3 A C) : isCx E (hup h sz c) (sz + 1) x base H nh J n fl cu nc rf uf ue N ha ea ca a1 a2 a3 A C := by
  have z3 := hC.2.2.2.2.2.2.2.2.2.2.2.2.1
  exact isCx_ext hC (fun q hq => hup_ne _ _ (by omega)) (fun q hq => by rw [hup_ne _ _ (by omega), z3 q (by omega)]) (by omega)
/- the object's own cell changes -/
theorem isCx_x {fl' : Nat} {rf' uf' ue' : Int} (hC : isCx E h sz x base H nh J n fl cu nc rf uf ue N ha ea ca a1 a2 a3 A C) : isCx E (hup h x (.inr (11, XF x (fl' : Int) rf' uf' ue'))) sz x base H nh J n fl' cu nc rf' uf' ue' N ha ea ca a1 a2 a3 A C := by
  obtain ⟨c1, c2, c3, c4, ⟨c5, c5n, c5a⟩, c6, c7, c8, r, t, ⟨z1, z2, z3, z4, z5⟩⟩ := hC
  have ke : kee h (hup h x (.inr (11, XF x (fl' : Int) rf' uf' ue'))) base := fun q c hb hc _ => by rw [hup_ne _ _ (by omega), hc]
  have ar : ∀ {l a m f}, isL E h l a m f → hup h x (.inr (11, XF x (fl' : Int) rf' uf' ue')) a = h a := fun k => by
    refine hup_ne _ _ (fun q => ?_)
    rcases arr_k k with ⟨-, k1⟩ | ⟨u, k1⟩
    · rw [q, c1] at k1; cases k1
    · rw [q, c1] at k1; cases k1
  refine ⟨hup_eq _ _ _, kL c2 (hup_ne _ _ (by omega)) (ar c2) (fun i hi => (c6 i hi).2) ke, kL c3 (hup_ne _ _ (by omega)) (ar c3) (fun i hi => (c7 i hi).2) ke, kL c4 (hup_ne _ _ (by omega)) (ar c4) (fun i hi => (c8 i hi).2.2.2) ke, ⟨c5, fun j hj => by rw [hup_ne _ _ (by omega), c5n j hj], fun j hj => by rw [hup_ne _ _ (by omega), c5a j hj]⟩, fun i hi => ⟨kH (c6 i hi).1 (c6 i hi).2 ke, (c6 i hi).2⟩, fun i hi => ⟨kE (c7 i hi).1 (c7 i hi).2 ke, (c7 i hi).2⟩, fun c hc => ⟨kT (c8 c hc).1 (c8 c hc).2.2.2 ke, (c8 c hc).2⟩, r, t, ⟨?_, z2, fun q hq => ?_, z4, z5⟩⟩
  · rw [hup_ne _ _ (fun q => by rw [q, c1] at z1; cases z1), z1]
  · rw [hup_ne _ _ (by omega), z3 q hq]
theorem frm_x {c : va_E} (hb : x + 122 ≤ base) : frm h (hup h x c) x base := fun q _ h2 => hup_ne _ _ (by omega)
theorem frm_up {c : va_E} (hb : base ≤ sz) : frm h (hup h sz c) x base := fun q h1 _ => hup_ne _ _ (by omega)
/- an entry's five numbers -/
def en (k g a b c : Int) : Nat → Int
  | 0 => k
  | 1 => g
  | 2 => a
  | 3 => b
  | 4 => c
  | _ => 0
/- fitting on an empty line, and what fits -/
set_option maxRecDepth 16384 in
theorem sp_29z {t : Nat} {b1 : Int} (hG : isG h g hs G) (hn : G 7 1 = 0) : Sp E (d + 3) 29 [.ref g, .int (z (t : Int)), .int (z b1)] h sz (rets (some (.int (z 1))) h sz) := by
  obtain ⟨h0, h1, h2, h3, h4⟩ := hG
  refine ⟨mi_29, mt_29, Nat.le_of_ble_eq_true rfl, ?_⟩
  change Rr _ _ _ _ mi_29 _ 0 [some (.ref g), some (.int (z (t : Int))), some (.int (z b1))] [] _ _ 0 0
  refine R_run 60 ?_
  simp only [run_s, run_0, isc, Bool.or_false, Bool.false_or, Bool.or_true, Bool.true_or, Bool.or_self, cond_false, cond_true, gl, sl, stl, stl2, c2, isw, nf, pf, lnb, tk, true_and, and_true, nsg0, nsg1, Int.cast_ofNat_Int, Int.natCast_zero, Int.natCast_one, zero_z, z_add, z_sub, z_mul, z_neg, cnd_eq, cnd_ne, cnd_lt, cnd_ge, cnd_gt, cnd_le, vok_0, vok_3r, vok_3n, vok_4, Nat.add_zero, Nat.zero_add, Nat.reduceAdd, Nat.reduceSub, Nat.reduceMod, Nat.reduceDiv, Nat.reduceEqDiff, Nat.reduceLeDiff, Nat.reduceMul, Int.reduceNeg, if_true, if_false, ite_true, ite_false, reduceIte, hup_app, Nat.add_left_cancel_iff, Nat.left_eq_add, Nat.add_eq_left, reduceCtorEq, subc_0, subc_1, subc_2, subc_3, subc_4, subc_5, subc_6, subc_7, subc_8, subc_9, subc_10, subc_11, subc_12, sube_2, sube_3, sube_5, sube_8, sube_9, sube_10, rets_ok, va_rfs, true_or, or_true, or_false, false_or, sI_aload_n, sI_getfield, sI_goto, sI_iand, sI_iconst, sI_ifCond, sI_iload_n, sI_invokevirtual, sI_ireturn, sI_ishl, ix_29_0, ix_29_1, ix_29_4, ix_29_7, ix_29_8, ix_29_11, ix_29_12, ix_29_13, ix_29_16, ix_29_19, ix_29_20, ix_29_21, ix_29_22, ix_29_23, ix_29_26, ix_29_27, ix_29_30, ix_29_31, mC_29, mS_29, mH_29, h0, GB, hn, vok_z1 (Or.inr rfl), vok_z1 (Or.inl rfl)]
  try simp (disch := omega) only [z_lt, z_le, z_eq, z_in, z_nat, Int.toNat_natCast, upd_z, z_l, zl_0, zl_add, zl_sub, zl_mul, zl_i, zl_eq, zl_div, Int.reduceLT, Int.reduceLE, Int.reduceToNat, Nat.reduceAdd, Nat.reduceLeDiff, not_false_eq_true, true_and, and_true]
  repeat' (first | (with_reducible refine ⟨?_, ?_⟩) | (with_reducible intro _))
  all_goals try (first | exact True.intro | with_reducible rfl | exact absurd True.intro (by assumption) | omega | (exfalso; omega) | (rw [if_pos (by omega)]; done) | (rw [if_neg (by omega)]; done))
set_option maxRecDepth 16384 in
theorem sp_50g (hH : isH h b W) (v : Int) : ∃ u, Sp E (d + 1) 50 [.ref b, .int (z v)] h sz (rets (some (.int u)) h sz) := by
  have e1 : z v = z (z v).toInt := (z_back _).symm
  have r := Int32.toInt_lt (z v)
  have r2 := Int32.le_toInt (z v)
  generalize (z v).toInt = k at e1 r r2
  rw [e1]
  obtain ⟨h0, h1, h2, h3⟩ := hH
  by_cases hk : 0 ≤ k ∧ k ≤ 6
  · exact ⟨_, sp_50 ⟨h0, h1, h2, h3⟩ hk.1 hk.2⟩
  · refine ⟨z 0, ?_⟩
    refine ⟨mi_50, mt_50, Nat.le_of_ble_eq_true rfl, ?_⟩
    change Rr _ _ _ _ mi_50 _ 0 [some (.ref b), some (.int (z k))] [] _ _ 0 0
    refine R_run 60 ?_
    simp only [run_s, run_0, isc, Bool.or_false, Bool.false_or, Bool.or_true, Bool.true_or, Bool.or_self, cond_false, cond_true, gl, sl, stl, stl2, c2, isw, nf, pf, lnb, tk, true_and, and_true, nsg0, nsg1, Int.cast_ofNat_Int, Int.natCast_zero, Int.natCast_one, zero_z, z_add, z_sub, z_mul, z_neg, cnd_eq, cnd_ne, cnd_lt, cnd_ge, cnd_gt, cnd_le, vok_0, vok_3r, vok_3n, vok_4, Nat.add_zero, Nat.zero_add, Nat.reduceAdd, Nat.reduceSub, Nat.reduceMod, Nat.reduceDiv, Nat.reduceEqDiff, Nat.reduceLeDiff, Nat.reduceMul, Int.reduceNeg, if_true, if_false, ite_true, ite_false, reduceIte, hup_app, Nat.add_left_cancel_iff, Nat.left_eq_add, Nat.add_eq_left, reduceCtorEq, subc_0, subc_1, subc_2, subc_3, subc_4, subc_5, subc_6, subc_7, subc_8, subc_9, subc_10, subc_11, subc_12, sube_2, sube_3, sube_5, sube_8, sube_9, sube_10, rets_ok, va_rfs, true_or, or_true, or_false, false_or, sI_aload_n, sI_bipush, sI_getfield, sI_goto, sI_iaload, sI_iconst, sI_ifCond, sI_if_icmp, sI_iload_n, sI_ireturn, ix_50_0, ix_50_1, ix_50_4, ix_50_5, ix_50_7, ix_50_10, ix_50_11, ix_50_14, ix_50_15, ix_50_16, ix_50_19, ix_50_20, mC_50, mS_50, mH_50, h0, h3, HB]
    have r' : k ≤ 2147483647 := by omega
    have r2' : -2147483648 ≤ k := by omega
    try simp (disch := omega) only [z_lt, z_le, z_eq, z_in, z_nat, Int.toNat_natCast, upd_z, z_l, zl_0, zl_add, zl_sub, zl_mul, zl_i, zl_eq, zl_div, Int.reduceLT, Int.reduceLE, Int.reduceToNat, Nat.reduceAdd, Nat.reduceLeDiff, not_false_eq_true, true_and, and_true]
    repeat' (first | (with_reducible refine ⟨?_, ?_⟩) | (with_reducible intro _))
    all_goals try (first | exact True.intro | with_reducible rfl | exact absurd True.intro (by assumption) | omega | (exfalso; omega) | (rw [if_pos (by omega)]; done) | (rw [if_neg (by omega)]; done))
set_option maxRecDepth 16384 in
theorem sp_30z (hG : isG h g hs G) (hH : isH h hs W) (hn : G 7 1 = 0) : Sp E (d + 3) 30 [.ref g] h sz (rets (some (.int (z 1))) h sz) := by
  have hG' := hG
  have hH' := hH
  obtain ⟨h0, h1, h2, h3, h4⟩ := hG
  obtain ⟨w0, w1, w2, w3⟩ := hH
  have s27 := sp_27 (E := E) (d := d) (sz := sz) hG' hn (by omega) (Or.inr rfl)
  have t27 := sp_27 (E := E) (d := d) (sz := sz) hG' hn (by omega) (Or.inl rfl)
  rw [if_neg (by decide)] at s27
  rw [if_pos rfl] at t27
  obtain ⟨u1, s50⟩ := sp_50g (E := E) (d := d + 1) (h := h) (sz := sz) hH' (G 2 0)
  obtain ⟨u2, t50⟩ := sp_50g (E := E) (d := d + 1) (h := h) (sz := sz) hH' (G 2 (Int.toNat 0))
  refine ⟨mi_30, mt_30, Nat.le_of_ble_eq_true rfl, ?_⟩
  change Rr _ _ _ _ mi_30 _ 0 [some (.ref g), none] [] _ _ 0 0
  refine R_run 60 ?_
  simp only [run_s, run_0, isc, Bool.or_false, Bool.false_or, Bool.or_true, Bool.true_or, Bool.or_self, cond_false, cond_true, gl, sl, stl, stl2, c2, isw, nf, pf, lnb, tk, true_and, and_true, nsg0, nsg1, Int.cast_ofNat_Int, Int.natCast_zero, Int.natCast_one, zero_z, z_add, z_sub, z_mul, z_neg, cnd_eq, cnd_ne, cnd_lt, cnd_ge, cnd_gt, cnd_le, vok_0, vok_3r, vok_3n, vok_4, Nat.add_zero, Nat.zero_add, Nat.reduceAdd, Nat.reduceSub, Nat.reduceMod, Nat.reduceDiv, Nat.reduceEqDiff, Nat.reduceLeDiff, Nat.reduceMul, Int.reduceNeg, if_true, if_false, ite_true, ite_false, reduceIte, hup_app, Nat.add_left_cancel_iff, Nat.left_eq_add, Nat.add_eq_left, reduceCtorEq, subc_0, subc_1, subc_2, subc_3, subc_4, subc_5, subc_6, subc_7, subc_8, subc_9, subc_10, subc_11, subc_12, sube_2, sube_3, sube_5, sube_8, sube_9, sube_10, rets_ok, va_rfs, true_or, or_true, or_false, false_or, sI_aload_n, sI_getfield, sI_goto, sI_iand, sI_iconst, sI_ifCond, sI_iload_n, sI_invokevirtual, sI_ior, sI_ireturn, sI_istore_n, ix_30_0, ix_30_1, ix_30_4, ix_30_5, ix_30_6, ix_30_9, ix_30_12, ix_30_13, ix_30_16, ix_30_17, ix_30_18, ix_30_21, ix_30_24, ix_30_25, ix_30_26, ix_30_27, ix_30_30, ix_30_33, ix_30_34, ix_30_35, ix_30_38, ix_30_41, ix_30_42, ix_30_43, ix_30_46, ix_30_47, ix_30_50, ix_30_51, mC_30, mS_30, mH_30, h0, GB]
  refine R_cV ix_30_6 (by decide) (by decide) rfl (h0) rfl (s27) (Nat.le_of_ble_eq_true rfl) (by rw [mcs_27, mC_30]; omega) (by rw [mcs_27, mS_30]; omega) ?_
  simp only [mcs_27, vpu, Nat.add_zero, Nat.zero_add, Nat.reduceAdd]
  refine R_run 60 ?_
  simp only [run_s, run_0, isc, Bool.or_false, Bool.false_or, Bool.or_true, Bool.true_or, Bool.or_self, cond_false, cond_true, gl, sl, stl, stl2, c2, isw, nf, pf, lnb, tk, true_and, and_true, nsg0, nsg1, Int.cast_ofNat_Int, Int.natCast_zero, Int.natCast_one, zero_z, z_add, z_sub, z_mul, z_neg, cnd_eq, cnd_ne, cnd_lt, cnd_ge, cnd_gt, cnd_le, vok_0, vok_3r, vok_3n, vok_4, Nat.add_zero, Nat.zero_add, Nat.reduceAdd, Nat.reduceSub, Nat.reduceMod, Nat.reduceDiv, Nat.reduceEqDiff, Nat.reduceLeDiff, Nat.reduceMul, Int.reduceNeg, if_true, if_false, ite_true, ite_false, reduceIte, hup_app, Nat.add_left_cancel_iff, Nat.left_eq_add, Nat.add_eq_left, reduceCtorEq, subc_0, subc_1, subc_2, subc_3, subc_4, subc_5, subc_6, subc_7, subc_8, subc_9, subc_10, subc_11, subc_12, sube_2, sube_3, sube_5, sube_8, sube_9, sube_10, rets_ok, va_rfs, true_or, or_true, or_false, false_or, sI_aload_n, sI_getfield, sI_goto, sI_iand, sI_iconst, sI_ifCond, sI_iload_n, sI_invokevirtual, sI_ior, sI_ireturn, sI_istore_n, ix_30_0, ix_30_1, ix_30_4, ix_30_5, ix_30_6, ix_30_9, ix_30_12, ix_30_13, ix_30_16, ix_30_17, ix_30_18, ix_30_21, ix_30_24, ix_30_25, ix_30_26, ix_30_27, ix_30_30, ix_30_33, ix_30_34, ix_30_35, ix_30_38, ix_30_41, ix_30_42, ix_30_43, ix_30_46, ix_30_47, ix_30_50, ix_30_51, mC_30, mS_30, mH_30]
  refine R_cV ix_30_9 (by decide) (by decide) rfl (w0) rfl (s50) (Nat.le_of_ble_eq_true rfl) (by rw [mcs_50, mC_30]; omega) (by rw [mcs_50, mS_30]; omega) ?_
  simp only [mcs_50, vpu, Nat.add_zero, Nat.zero_add, Nat.reduceAdd]
  refine R_run 60 ?_
  simp only [run_s, run_0, isc, Bool.or_false, Bool.false_or, Bool.or_true, Bool.true_or, Bool.or_self, cond_false, cond_true, gl, sl, stl, stl2, c2, isw, nf, pf, lnb, tk, true_and, and_true, nsg0, nsg1, Int.cast_ofNat_Int, Int.natCast_zero, Int.natCast_one, zero_z, z_add, z_sub, z_mul, z_neg, cnd_eq, cnd_ne, cnd_lt, cnd_ge, cnd_gt, cnd_le, vok_0, vok_3r, vok_3n, vok_4, Nat.add_zero, Nat.zero_add, Nat.reduceAdd, Nat.reduceSub, Nat.reduceMod, Nat.reduceDiv, Nat.reduceEqDiff, Nat.reduceLeDiff, Nat.reduceMul, Int.reduceNeg, if_true, if_false, ite_true, ite_false, reduceIte, hup_app, Nat.add_left_cancel_iff, Nat.left_eq_add, Nat.add_eq_left, reduceCtorEq, subc_0, subc_1, subc_2, subc_3, subc_4, subc_5, subc_6, subc_7, subc_8, subc_9, subc_10, subc_11, subc_12, sube_2, sube_3, sube_5, sube_8, sube_9, sube_10, rets_ok, va_rfs, true_or, or_true, or_false, false_or, sI_aload_n, sI_getfield, sI_goto, sI_iand, sI_iconst, sI_ifCond, sI_iload_n, sI_invokevirtual, sI_ior, sI_ireturn, sI_istore_n, ix_30_0, ix_30_1, ix_30_4, ix_30_5, ix_30_6, ix_30_9, ix_30_12, ix_30_13, ix_30_16, ix_30_17, ix_30_18, ix_30_21, ix_30_24, ix_30_25, ix_30_26, ix_30_27, ix_30_30, ix_30_33, ix_30_34, ix_30_35, ix_30_38, ix_30_41, ix_30_42, ix_30_43, ix_30_46, ix_30_47, ix_30_50, ix_30_51, mC_30, mS_30, mH_30, h0, GB]
  refine R_cV ix_30_18 (by decide) (by decide) rfl (h0) rfl (t27) (Nat.le_of_ble_eq_true rfl) (by rw [mcs_27, mC_30]; omega) (by rw [mcs_27, mS_30]; omega) ?_
  simp only [mcs_27, vpu, Nat.add_zero, Nat.zero_add, Nat.reduceAdd]
  refine R_run 60 ?_
  simp only [run_s, run_0, isc, Bool.or_false, Bool.false_or, Bool.or_true, Bool.true_or, Bool.or_self, cond_false, cond_true, gl, sl, stl, stl2, c2, isw, nf, pf, lnb, tk, true_and, and_true, nsg0, nsg1, Int.cast_ofNat_Int, Int.natCast_zero, Int.natCast_one, zero_z, z_add, z_sub, z_mul, z_neg, cnd_eq, cnd_ne, cnd_lt, cnd_ge, cnd_gt, cnd_le, vok_0, vok_3r, vok_3n, vok_4, Nat.add_zero, Nat.zero_add, Nat.reduceAdd, Nat.reduceSub, Nat.reduceMod, Nat.reduceDiv, Nat.reduceEqDiff, Nat.reduceLeDiff, Nat.reduceMul, Int.reduceNeg, if_true, if_false, ite_true, ite_false, reduceIte, hup_app, Nat.add_left_cancel_iff, Nat.left_eq_add, Nat.add_eq_left, reduceCtorEq, subc_0, subc_1, subc_2, subc_3, subc_4, subc_5, subc_6, subc_7, subc_8, subc_9, subc_10, subc_11, subc_12, sube_2, sube_3, sube_5, sube_8, sube_9, sube_10, rets_ok, va_rfs, true_or, or_true, or_false, false_or, sI_aload_n, sI_getfield, sI_goto, sI_iand, sI_iconst, sI_ifCond, sI_iload_n, sI_invokevirtual, sI_ior, sI_ireturn, sI_istore_n, ix_30_0, ix_30_1, ix_30_4, ix_30_5, ix_30_6, ix_30_9, ix_30_12, ix_30_13, ix_30_16, ix_30_17, ix_30_18, ix_30_21, ix_30_24, ix_30_25, ix_30_26, ix_30_27, ix_30_30, ix_30_33, ix_30_34, ix_30_35, ix_30_38, ix_30_41, ix_30_42, ix_30_43, ix_30_46, ix_30_47, ix_30_50, ix_30_51, mC_30, mS_30, mH_30]
  refine R_cV ix_30_21 (by decide) (by decide) rfl (w0) rfl (t50) (Nat.le_of_ble_eq_true rfl) (by rw [mcs_50, mC_30]; omega) (by rw [mcs_50, mS_30]; omega) ?_
  simp only [mcs_50, vpu, Nat.add_zero, Nat.zero_add, Nat.reduceAdd]
  refine R_run 60 ?_
  simp only [run_s, run_0, isc, Bool.or_false, Bool.false_or, Bool.or_true, Bool.true_or, Bool.or_self, cond_false, cond_true, gl, sl, stl, stl2, c2, isw, nf, pf, lnb, tk, true_and, and_true, nsg0, nsg1, Int.cast_ofNat_Int, Int.natCast_zero, Int.natCast_one, zero_z, z_add, z_sub, z_mul, z_neg, cnd_eq, cnd_ne, cnd_lt, cnd_ge, cnd_gt, cnd_le, vok_0, vok_3r, vok_3n, vok_4, Nat.add_zero, Nat.zero_add, Nat.reduceAdd, Nat.reduceSub, Nat.reduceMod, Nat.reduceDiv, Nat.reduceEqDiff, Nat.reduceLeDiff, Nat.reduceMul, Int.reduceNeg, if_true, if_false, ite_true, ite_false, reduceIte, hup_app, Nat.add_left_cancel_iff, Nat.left_eq_add, Nat.add_eq_left, reduceCtorEq, subc_0, subc_1, subc_2, subc_3, subc_4, subc_5, subc_6, subc_7, subc_8, subc_9, subc_10, subc_11, subc_12, sube_2, sube_3, sube_5, sube_8, sube_9, sube_10, rets_ok, va_rfs, true_or, or_true, or_false, false_or, sI_aload_n, sI_getfield, sI_goto, sI_iand, sI_iconst, sI_ifCond, sI_iload_n, sI_invokevirtual, sI_ior, sI_ireturn, sI_istore_n, ix_30_0, ix_30_1, ix_30_4, ix_30_5, ix_30_6, ix_30_9, ix_30_12, ix_30_13, ix_30_16, ix_30_17, ix_30_18, ix_30_21, ix_30_24, ix_30_25, ix_30_26, ix_30_27, ix_30_30, ix_30_33, ix_30_34, ix_30_35, ix_30_38, ix_30_41, ix_30_42, ix_30_43, ix_30_46, ix_30_47, ix_30_50, ix_30_51, mC_30, mS_30, mH_30, h0, GB, hn, vok_z1 (Or.inr rfl), vok_z1 (Or.inl rfl)]
  try simp (disch := omega) only [z_lt, z_le, z_eq, z_in, z_nat, Int.toNat_natCast, upd_z, z_l, zl_0, zl_add, zl_sub, zl_mul, zl_i, zl_eq, zl_div, Int.reduceLT, Int.reduceLE, Int.reduceToNat, Nat.reduceAdd, Nat.reduceLeDiff, not_false_eq_true, true_and, and_true]
  repeat' (first | (with_reducible refine ⟨?_, ?_⟩) | (with_reducible intro _))
  all_goals try (first | exact True.intro | with_reducible rfl | exact absurd True.intro (by assumption) | omega | (exfalso; omega) | (rw [if_pos (by omega)]; done) | (rw [if_neg (by omega)]; done))
theorem fit_b {t : Nat} {v : Int} (ht : t < szN (P 0)) (hv : 0 ≤ v) : (bearT (P 0) (szN (P 0)) v.toNat).testBit t = true ↔ (lowN (P 0) t : Int) = v ∨ (highN (P 0) t : Int) = v := by
  rw [bearT_b]
  constructor
  · rintro ⟨-, h | h⟩
    · exact Or.inl (by omega)
    · exact Or.inr (by omega)
  · rintro (h | h)
    · exact ⟨ht, Or.inl (by omega)⟩
    · exact ⟨ht, Or.inr (by omega)⟩
def canL (P : Nat → Nat) (G : GS) : Prop := G 7 1 = 0 ∨ ∃ t, t < szN (P 0) ∧ (G 1 (G 7 2).toNat).toNat.testBit t = true ∧ (fitQ (P 0) G t true ∨ fitQ (P 0) G t false)
theorem bt_0 {m : Nat} : m ≠ 0 ↔ ∃ t, m.testBit t = true := by
  constructor
  · intro h
    exact Nat.exists_testBit_of_ne_zero h
  · rintro ⟨t, ht⟩ h
    rw [h, Nat.zero_testBit] at ht
    cases ht
/- can the mover lay -/
theorem sp_30c (hP : hOK P) (hG : isG h g hs G) (hH : isH h hs (WH P)) (hv : gv P G) : Sp E (d + 3) 30 [.ref g] h sz (rets (some (.int (z (@ite Int (canL P G) (Classical.propDecidable _) 1 0)))) h sz) := by
  obtain ⟨s, hB, t1, t2, t3, t4, t5, t6, t7⟩ := id hv
  obtain ⟨v0, v1, v2, v3, v4, v5, v6, v7, v8, v9, v10⟩ := s
  have hsz := szP_b hP
  have hp := hP.1
  have hp1 := hP.2.1
  by_cases h0 : G 7 1 = 0
  · have hc : canL P G := Or.inl h0
    rw [if_pos hc]
    exact sp_30z hG hH h0
  · have c0 := t5 (by omega) 0 (by omega)
    have cn := t5 (by omega) (G 7 1).toNat (by omega)
    have hm := t1 (G 7 2).toNat (by omega)
    have hm28 := hand_28 hP hv (q := (G 7 2).toNat) (by omega)
    have s30 := sp_30 (E := E) (d := d) (sz := sz) hG hH (n := (G 7 1).toNat) (by omega) (by omega) rfl rfl (by omega) (by omega) (WH_be P _) (WH_be P _) (w := G 7 2) rfl (by omega) (m := (G 1 (G 7 2).toNat).toNat) (by omega) hm28
    have key : ((G 7 1).toNat = 0 ∨ (G 1 (G 7 2).toNat).toNat &&& (bearT (P 0) (szN (P 0)) (G 2 0).toNat ||| bearT (P 0) (szN (P 0)) (G 2 (G 7 1).toNat).toNat) ≠ 0) ↔ canL P G := by
      constructor
      · rintro (q | q)
        · omega
        · obtain ⟨t, ht⟩ := bt_0.mp q
          rw [Nat.testBit_and, Nat.testBit_or, Bool.and_eq_true, Bool.or_eq_true] at ht
          refine Or.inr ⟨t, ?_, ht.1, ?_⟩
          · rcases ht.2 with h2 | h2
            · exact ((bearT_b _ _ _ _).mp h2).1
            · exact ((bearT_b _ _ _ _).mp h2).1
          · rcases ht.2 with h2 | h2
            · have h3 := ((bearT_b _ _ _ _).mp h2).1
              exact Or.inl (Or.inr (by unfold endV; rw [if_pos rfl]; exact (fit_b h3 c0.1).mp h2))
            · have h3 := ((bearT_b _ _ _ _).mp h2).1
              exact Or.inr (Or.inr (by unfold endV; rw [if_neg (by decide)]; exact (fit_b h3 cn.1).mp h2))
      · rintro (q | ⟨t, ht, hb, hf⟩)
        · exact absurd q h0
        · refine Or.inr (bt_0.mpr ⟨t, ?_⟩)
          rw [Nat.testBit_and, Nat.testBit_or, Bool.and_eq_true, Bool.or_eq_true]
          refine ⟨hb, ?_⟩
          rcases hf with hf | hf
          · rcases hf with hf | hf
            · exact absurd hf h0
            · unfold endV at hf
              rw [if_pos rfl] at hf
              exact Or.inl ((fit_b ht c0.1).mpr hf)
          · rcases hf with hf | hf
            · exact absurd hf h0
            · unfold endV at hf
              rw [if_neg (by decide)] at hf
              exact Or.inr ((fit_b ht cn.1).mpr hf)
    by_cases hc : canL P G
    · rw [if_pos hc]
      rw [if_pos (key.mpr hc)] at s30
      exact s30
    · rw [if_neg hc]
      rw [if_neg (fun q => hc (key.mp q))] at s30
      exact s30
/- does this tile fit -/
theorem sp_29c {t : Nat} {b1 : Int} (hP : hOK P) (hG : isG h g hs G) (hH : isH h hs (WH P)) (hv : gv P G) (hb : b1 = 0 ∨ b1 = 1) (ht : t < szN (P 0)) : Sp E (d + 3) 29 [.ref g, .int (z (t : Int)), .int (z b1)] h sz (rets (some (.int (z (@ite Int (fitQ (P 0) G t (decide (b1 = 1))) (Classical.propDecidable _) 1 0)))) h sz) := by
  obtain ⟨s, hB, t1, t2, t3, t4, t5, t6, t7⟩ := id hv
  obtain ⟨v0, v1, v2, v3, v4, v5, v6, v7, v8, v9, v10⟩ := s
  have hsz := szP_b hP
  have hp := hP.1
  have hp1 := hP.2.1
  by_cases h0 : G 7 1 = 0
  · have hc : fitQ (P 0) G t (decide (b1 = 1)) := Or.inl h0
    rw [if_pos hc]
    exact sp_29z hG h0
  · have ev : G 2 (if b1 = 0 then (G 7 1).toNat else 0) = endV G (decide (b1 = 1)) := by
      unfold endV
      rcases hb with q | q
      · rw [q]; rfl
      · rw [q]; rfl
    have hvr : 0 ≤ endV G (decide (b1 = 1)) ∧ endV G (decide (b1 = 1)) ≤ 6 := by
      unfold endV
      have c0 := t5 (by omega) 0 (by omega)
      have cn := t5 (by omega) (G 7 1).toNat (by omega)
      split <;> omega
    have s29 := sp_29 (E := E) (d := d) (sz := sz) hG hH (n := (G 7 1).toNat) (t := t) (by omega) (by omega) hb ev hvr (WH_be P _) (Nat.lt_of_lt_of_le (bearT_lt _ _ _) (Nat.pow_le_pow_right (by decide) hsz.1)) (by omega)
    by_cases hc : fitQ (P 0) G t (decide (b1 = 1))
    · rw [if_pos hc]
      have : (lowN (P 0) t : Int) = endV G (decide (b1 = 1)) ∨ (highN (P 0) t : Int) = endV G (decide (b1 = 1)) := by
        rcases hc with hc | hc
        · exact absurd hc h0
        · exact hc
      rw [if_pos (Or.inr ((fit_b ht hvr.1).mpr this))] at s29
      exact s29
    · rw [if_neg hc]
      rw [if_neg (fun q => hc (by
        rcases q with q | q
        · omega
        · exact Or.inr ((fit_b ht hvr.1).mp q)))] at s29
      exact s29
end EXT
