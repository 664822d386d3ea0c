/-! ===== the class crashes, and is sound ===== -/
section CRS
variable {E : EX} {d : Nat} {h : AH} {sz x base g t : Nat} {H : HT} {nh : Nat} {J : GS} {n fl : Nat} {cu : Nat → Nat} {nc : Nat} {rf uf ue : Int} {N T K : TT} {ha ea ca : Nat → Nat} {a1 a2 a3 : Nat} {A : TT} {C : Nat → TT}
/- the last entries are taken off -/
set_option maxRecDepth 16384 in
theorem crs_l {cnt : Int} (hn : n ≤ 400) (hX : h x = some (.inr (11, XF x (fl : Int) rf uf ue))) (hxx : x ≠ a2) : ∀ (m : Nat) (h0 : AH), fl + m ≤ 400 → isL E h0 (x + 2) a2 (fl + m) ea → (∀ q, q ≠ x + 2 → q ≠ a2 → h0 q = h q) → (∀ q, h q = none → h0 q = none) → ∃ h', isL E h' (x + 2) a2 fl ea ∧ (∀ q, q ≠ x + 2 → q ≠ a2 → h' q = h q) ∧ (∀ q, h q = none → h' q = none) ∧ ∀ Q, Rr E (mcsT mtab) (Sp E (d + 19)) (d + 19) mi_107 Q 56 [some (.ref x), some (.int (z cnt)), some (.int (z ((fl : Int) - 1)))] [.ref (x + 8), .int (z (-1)), .ref x] h' sz 0 0 → Rr E (mcsT mtab) (Sp E (d + 19)) (d + 19) mi_107 Q 23 [some (.ref x), some (.int (z cnt)), some (.int (z (((fl + m : Nat) : Int) - 1)))] [] h0 sz 0 0 := by
  intro m
  induction m with
  | zero =>
    intro h0 hm hL h1 h2
    refine ⟨h0, hL, h1, h2, fun Q k => ?_⟩
    have hX' : h0 x = some (.inr (11, XF x (fl : Int) rf uf ue)) := by rw [h1 x (by omega) hxx, hX]
    rw [Nat.add_zero]
    refine R_hd ix_107_23 60 ?_
    simp only [run_s, run_0, isc, Bool.or_false, Bool.false_or, Bool.or_true, Bool.true_or, Bool.or_self, cond_false, cond_true, gl, sl, stl, stl2, c2, isw, nf, pf, lnb, tk, true_and, and_true, nsg0, nsg1, Int.cast_ofNat_Int, Int.natCast_zero, Int.natCast_one, zero_z, z_add, z_sub, z_mul, z_neg, cnd_eq, cnd_ne, cnd_lt, cnd_ge, cnd_gt, cnd_le, vok_0, vok_3r, vok_3n, vok_4, Nat.add_zero, Nat.zero_add, Nat.reduceAdd, Nat.reduceSub, Nat.reduceMod, Nat.reduceDiv, Nat.reduceEqDiff, Nat.reduceLeDiff, Nat.reduceMul, Int.reduceNeg, if_true, if_false, ite_true, ite_false, reduceIte, hup_app, Nat.add_left_cancel_iff, Nat.left_eq_add, Nat.add_eq_left, reduceCtorEq, subc_0, subc_1, subc_2, subc_3, subc_4, subc_5, subc_6, subc_7, subc_8, subc_9, subc_10, subc_11, subc_12, sube_2, sube_3, sube_5, sube_8, sube_9, sube_10, rets_ok, va_rfs, true_or, or_true, or_false, false_or, sI_aload_n, sI_getfield, sI_goto, sI_iconst, sI_ifCond, sI_if_icmp, sI_iinc, sI_iload_n, sI_invokevirtual, sI_ireturn, sI_istore_n, sI_isub, sI_pop, ix_107_0, ix_107_1, ix_107_4, ix_107_7, ix_107_8, ix_107_11, ix_107_12, ix_107_13, ix_107_14, ix_107_17, ix_107_20, ix_107_21, ix_107_22, ix_107_23, ix_107_24, ix_107_27, ix_107_28, ix_107_29, ix_107_32, ix_107_35, ix_107_36, ix_107_39, ix_107_40, ix_107_43, ix_107_44, ix_107_47, ix_107_50, ix_107_51, ix_107_52, ix_107_53, ix_107_56, ix_107_59, ix_107_60, mC_107, mS_107, mH_107, hX', XF]
    try simp (disch := omega) only [z_lt, z_le, z_eq, z_in, z_nat, Int.toNat_natCast, upd_z, z_l, zl_0, zl_add, zl_sub, zl_mul, zl_i, zl_eq, zl_div, Int.reduceLT, Int.reduceLE, Int.reduceToNat, Nat.reduceAdd, Nat.reduceLeDiff, not_false_eq_true, true_and, and_true]
    repeat' (first | (with_reducible refine ⟨?_, ?_⟩) | (with_reducible intro _))
    all_goals try (first | exact True.intro | with_reducible rfl | exact absurd True.intro (by assumption) | omega | (exfalso; omega) | (rw [if_pos (by omega)]; done) | (rw [if_neg (by omega)]; done) | exact k)
  | succ m ih =>
    intro h0 hm hL h1 h2
    rw [show fl + (m + 1) = fl + m + 1 from rfl] at hL
    obtain ⟨h3, s204, L3, f3, n3⟩ := sp_204 (E := E) (d := d + 15) (sz := sz) hL
    obtain ⟨h', r1, r2, r3, r4⟩ := ih h3 (by omega) L3 (fun q q1 q2 => by rw [f3 q q1 q2, h1 q q1 q2]) (fun q q1 => n3 q (h2 q q1))
    refine ⟨h', r1, r2, r3, fun Q k => ?_⟩
    have k4 := r4 Q k
    have hX' : h0 x = some (.inr (11, XF x (fl : Int) rf uf ue)) := by rw [h1 x (by omega) hxx, hX]
    obtain ⟨fs2, l2⟩ := l_obj hL
    rw [show ((fl + (m + 1) : Nat) : Int) - 1 = ((fl + m : Nat) : Int) by omega]
    refine R_hd ix_107_23 60 ?_
    simp only [run_s, run_0, isc, Bool.or_false, Bool.false_or, Bool.or_true, Bool.true_or, Bool.or_self, cond_false, cond_true, gl, sl, stl, stl2, c2, isw, nf, pf, lnb, tk, true_and, and_true, nsg0, nsg1, Int.cast_ofNat_Int, Int.natCast_zero, Int.natCast_one, zero_z, z_add, z_sub, z_mul, z_neg, cnd_eq, cnd_ne, cnd_lt, cnd_ge, cnd_gt, cnd_le, vok_0, vok_3r, vok_3n, vok_4, Nat.add_zero, Nat.zero_add, Nat.reduceAdd, Nat.reduceSub, Nat.reduceMod, Nat.reduceDiv, Nat.reduceEqDiff, Nat.reduceLeDiff, Nat.reduceMul, Int.reduceNeg, if_true, if_false, ite_true, ite_false, reduceIte, hup_app, Nat.add_left_cancel_iff, Nat.left_eq_add, Nat.add_eq_left, reduceCtorEq, subc_0, subc_1, subc_2, subc_3, subc_4, subc_5, subc_6, subc_7, subc_8, subc_9, subc_10, subc_11, subc_12, sube_2, sube_3, sube_5, sube_8, sube_9, sube_10, rets_ok, va_rfs, true_or, or_true, or_false, false_or, sI_aload_n, sI_getfield, sI_goto, sI_iconst, sI_ifCond, sI_if_icmp, sI_iinc, sI_iload_n, sI_invokevirtual, sI_ireturn, sI_istore_n, sI_isub, sI_pop, ix_107_0, ix_107_1, ix_107_4, ix_107_7, ix_107_8, ix_107_11, ix_107_12, ix_107_13, ix_107_14, ix_107_17, ix_107_20, ix_107_21, ix_107_22, ix_107_23, ix_107_24, ix_107_27, ix_107_28, ix_107_29, ix_107_32, ix_107_35, ix_107_36, ix_107_39, ix_107_40, ix_107_43, ix_107_44, ix_107_47, ix_107_50, ix_107_51, ix_107_52, ix_107_53, ix_107_56, ix_107_59, ix_107_60, mC_107, mS_107, mH_107, hX', XF]
    try simp (disch := omega) only [z_lt, z_le, z_eq, z_in, z_nat, Int.toNat_natCast, upd_z, z_l, zl_0, zl_add, zl_sub, zl_mul, zl_i, zl_eq, zl_div, Int.reduceLT, Int.reduceLE, Int.reduceToNat, Nat.reduceAdd, Nat.reduceLeDiff, not_false_eq_true, true_and, and_true]
    repeat' (first | (with_reducible refine ⟨?_, ?_⟩) | (with_reducible intro _))
    all_goals try (first | exact True.intro | with_reducible rfl | exact absurd True.intro (by assumption) | omega | (exfalso; omega) | (rw [if_pos (by omega)]; done) | (rw [if_neg (by omega)]; done))
    refine R_cV ix_107_40 (by decide) (by decide) rfl (l2) rfl (s204) (Nat.le_of_ble_eq_true rfl) (by rw [mcs_204, mC_107]; omega) (by rw [mcs_204, mS_107]; omega) ?_
    simp only [mcs_204, vpu, Nat.add_zero, Nat.zero_add, Nat.reduceAdd]
    refine R_run 60 ?_
    simp only [run_s, run_0, isc, Bool.or_false, Bool.false_or, Bool.or_true, Bool.true_or, Bool.or_self, cond_false, cond_true, gl, sl, stl, stl2, c2, isw, nf, pf, lnb, tk, true_and, and_true, nsg0, nsg1, Int.cast_ofNat_Int, Int.natCast_zero, Int.natCast_one, zero_z, z_add, z_sub, z_mul, z_neg, cnd_eq, cnd_ne, cnd_lt, cnd_ge, cnd_gt, cnd_le, vok_0, vok_3r, vok_3n, vok_4, Nat.add_zero, Nat.zero_add, Nat.reduceAdd, Nat.reduceSub, Nat.reduceMod, Nat.reduceDiv, Nat.reduceEqDiff, Nat.reduceLeDiff, Nat.reduceMul, Int.reduceNeg, if_true, if_false, ite_true, ite_false, reduceIte, hup_app, Nat.add_left_cancel_iff, Nat.left_eq_add, Nat.add_eq_left, reduceCtorEq, subc_0, subc_1, subc_2, subc_3, subc_4, subc_5, subc_6, subc_7, subc_8, subc_9, subc_10, subc_11, subc_12, sube_2, sube_3, sube_5, sube_8, sube_9, sube_10, rets_ok, va_rfs, true_or, or_true, or_false, false_or, sI_aload_n, sI_getfield, sI_goto, sI_iconst, sI_ifCond, sI_if_icmp, sI_iinc, sI_iload_n, sI_invokevirtual, sI_ireturn, sI_istore_n, sI_isub, sI_pop, ix_107_0, ix_107_1, ix_107_4, ix_107_7, ix_107_8, ix_107_11, ix_107_12, ix_107_13, ix_107_14, ix_107_17, ix_107_20, ix_107_21, ix_107_22, ix_107_23, ix_107_24, ix_107_27, ix_107_28, ix_107_29, ix_107_32, ix_107_35, ix_107_36, ix_107_39, ix_107_40, ix_107_43, ix_107_44, ix_107_47, ix_107_50, ix_107_51, ix_107_52, ix_107_53, ix_107_56, ix_107_59, ix_107_60, mC_107, mS_107, mH_107]
    try simp (disch := omega) only [z_lt, z_le, z_eq, z_in, z_nat, Int.toNat_natCast, upd_z, z_l, zl_0, zl_add, zl_sub, zl_mul, zl_i, zl_eq, zl_div, Int.reduceLT, Int.reduceLE, Int.reduceToNat, Nat.reduceAdd, Nat.reduceLeDiff, not_false_eq_true, true_and, and_true]
    repeat' (first | (with_reducible refine ⟨?_, ?_⟩) | (with_reducible intro _))
    all_goals try (first | exact True.intro | with_reducible rfl | exact absurd True.intro (by assumption) | omega | (exfalso; omega) | (rw [if_pos (by omega)]; done) | (rw [if_neg (by omega)]; done) | exact k4)
theorem sC_cr (hS : sC H nh J n fl cu nc rf uf ue) : sC H nh J fl fl cu nc rf uf ue := by
  obtain ⟨s1, s2, s3, s4, s5⟩ := hS
  exact ⟨s1, vJ_le s2 s4, by omega, Nat.le_refl _, s5⟩
set_option maxRecDepth 16384 in
theorem sp_107y (hS : sC H nh J n fl cu nc rf uf ue) (hC : isC E h sz x base H nh J n fl cu nc rf uf ue N) : ∃ h' N', Sp E (d + 20) 107 [.ref x] h sz (rets (some (.int (z ((n : Int) - fl)))) h' sz) ∧ isC E h' sz x base H nh J fl fl cu nc rf uf ue N' ∧ frm h h' x base := by
  obtain ⟨ha, ea, ca, a1, a2, a3, A, C, hC⟩ := hC
  have hn := hS.2.2.1
  have hfl := hS.2.2.2.1
  have hnc := hS.2.2.2.2.1
  obtain ⟨c1, cb, c3, c4, ⟨c5, c5n, c5a⟩, c6, c7, c8, ⟨r1, r2, r3, r4, r5, r6⟩, ⟨t1, t2, t3⟩, ⟨z1, z2, z3, z4, z5⟩⟩ := id hC
  have hxx : x ≠ a2 := fun q => by
    rcases r2 with r2 | r2
    · rw [q, r2, z1] at c1; cases c1
    · omega
  have hL0 : isL E h (x + 2) a2 (fl + (n - fl)) ea := by rw [show fl + (n - fl) = n by omega]; exact c3
  obtain ⟨h1, L1, f1, n1, kk⟩ := crs_l (E := E) (d := d) (sz := sz) (cnt := (n : Int) - fl) hn c1 hxx (n - fl) h (by omega) hL0 (fun q _ _ => rfl) (fun q hq => hq)
  have hX1 : h1 x = some (.inr (11, XF x (fl : Int) rf uf ue)) := by rw [f1 x (by omega) hxx, c1]
  have lo : ∀ q, x + 2 < q → q < base → h1 q = h q := fun q q1 q2 => by
    rcases r2 with r2 | r2
    · by_cases hq : q = a2
      · rw [hq, r2, n1 _ z1, z1]
      · exact f1 q (by omega) hq
    · exact f1 q (by omega) (by omega)
  have ke1 : kee h h1 base := fun q c hb hc hu => by
    by_cases hq : q = a2
    · rcases arr_k c3 with ⟨k1, k2⟩ | ⟨u, k2⟩
      · rw [hq, k2] at hc; cases hc
      · rw [hq, k2] at hc
        exact absurd (Option.some.inj hc).symm (hu u)
    · rw [f1 q (by omega) hq, hc]
  have hE1 : h1 E.2.1 = none := n1 _ z1
  have N1 : isT h1 (x + 8) ha N := fun j hj => by rw [lo _ (by omega) (by omega)]; exact c5n j hj
  have A1 : isT h1 (x + 65) ha A := fun j hj => by rw [lo _ (by omega) (by omega)]; exact c5a j hj
  have l1 : h1 (x + 1) = h (x + 1) := by
    refine f1 _ (by omega) (fun q => ?_)
    rcases r2 with r2 | r2
    · obtain ⟨fs, k1⟩ := l_obj cb
      rw [q, r2, z1] at k1; cases k1
    · omega
  have l3 : h1 (x + 3) = h (x + 3) := lo _ (by omega) (by omega)
  have a1k : h1 a1 = h a1 := by
    rcases r1 with r1 | r1
    · rw [r1, hE1, z1]
    · by_cases q : a1 = a2
      · rw [r4 q, hE1, z1]
      · exact f1 _ (by omega) q
  have a3k : h1 a3 = h a3 := by
    rcases r3 with r3 | r3
    · rw [r3, hE1, z1]
    · by_cases q : a2 = a3
      · rw [← q, r6 q, hE1, z1]
      · exact f1 _ (by omega) (fun q2 => q q2.symm)
  have oE := isT_no N1 hE1
  have o2 := arr_T L1 N1
  have M1 : isL E h1 (x + 1) a1 nh ha := kL cb l1 a1k (fun i hi => (c6 i hi).2) ke1
  have M3 : isL E h1 (x + 3) a3 nc ca := kL c4 l3 a3k (fun i hi => (c8 i hi).2.2.2) ke1
  have o1 := arr_T M1 N1
  have o3 := arr_T M3 N1
  have hR : redo E h1 x (x + 8) H nh J fl cu nc ha ea ca a2 a3 C := ⟨L1, M3, by omega, fun i hi => ⟨kH (c6 i hi).1 (c6 i hi).2 ke1, Or.inr (by have := (c6 i hi).2; omega)⟩, fun i hi => ⟨kE (c7 i (by omega)).1 (c7 i (by omega)).2 ke1, by have := (c7 i (by omega)).2; omega⟩, fun c hc => ⟨kT (c8 c hc).1 (c8 c hc).2.2.2 ke1, (c8 c hc).2.1, (c8 c hc).2.2.1, by have := (c8 c hc).2.2.2; omega, hS.2.2.2.2.2.1 c hc⟩, o2, o3⟩
  obtain ⟨K', q1, q2, s123⟩ := sp_123v (E := E) (d := d + 10) (sz := sz) (k := -1) hS.1 (vJ_le hS.2.1 hfl) (by omega) hnc hX1 hR N1 t2 (by omega)
  have ke2 : kee h1 (blk h1 (x + 8) 57 (TB (x + 8) ha K')) base := kee_bk (by omega)
  have ke := kee_t ke1 ke2
  refine ⟨blk h1 (x + 8) 57 (TB (x + 8) ha K'), K', ?_, ⟨ha, ea, ca, a1, a2, a3, A, C, ?_⟩, ?_⟩
  · have s199 := sp_199 (E := E) (d := d + 18) (sz := sz) c3
    obtain ⟨fs2, l2⟩ := l_obj c3
    refine ⟨mi_107, mt_107, Nat.le_of_ble_eq_true rfl, ?_⟩
    change Rr _ _ _ _ mi_107 _ 0 [some (.ref x), none, none] [] _ _ 0 0
    refine R_run 60 ?_
    simp only [run_s, run_0, isc, Bool.or_false, Bool.false_or, Bool.or_true, Bool.true_or, Bool.or_self, cond_false, cond_true, gl, sl, stl, stl2, c2, isw, nf, pf, lnb, tk, true_and, and_true, nsg0, nsg1, Int.cast_ofNat_Int, Int.natCast_zero, Int.natCast_one, zero_z, z_add, z_sub, z_mul, z_neg, cnd_eq, cnd_ne, cnd_lt, cnd_ge, cnd_gt, cnd_le, vok_0, vok_3r, vok_3n, vok_4, Nat.add_zero, Nat.zero_add, Nat.reduceAdd, Nat.reduceSub, Nat.reduceMod, Nat.reduceDiv, Nat.reduceEqDiff, Nat.reduceLeDiff, Nat.reduceMul, Int.reduceNeg, if_true, if_false, ite_true, ite_false, reduceIte, hup_app, Nat.add_left_cancel_iff, Nat.left_eq_add, Nat.add_eq_left, reduceCtorEq, subc_0, subc_1, subc_2, subc_3, subc_4, subc_5, subc_6, subc_7, subc_8, subc_9, subc_10, subc_11, subc_12, sube_2, sube_3, sube_5, sube_8, sube_9, sube_10, rets_ok, va_rfs, true_or, or_true, or_false, false_or, sI_aload_n, sI_getfield, sI_goto, sI_iconst, sI_ifCond, sI_if_icmp, sI_iinc, sI_iload_n, sI_invokevirtual, sI_ireturn, sI_istore_n, sI_isub, sI_pop, ix_107_0, ix_107_1, ix_107_4, ix_107_7, ix_107_8, ix_107_11, ix_107_12, ix_107_13, ix_107_14, ix_107_17, ix_107_20, ix_107_21, ix_107_22, ix_107_23, ix_107_24, ix_107_27, ix_107_28, ix_107_29, ix_107_32, ix_107_35, ix_107_36, ix_107_39, ix_107_40, ix_107_43, ix_107_44, ix_107_47, ix_107_50, ix_107_51, ix_107_52, ix_107_53, ix_107_56, ix_107_59, ix_107_60, mC_107, mS_107, mH_107, c1, XF]
    refine R_cV ix_107_4 (by decide) (by decide) rfl (l2) rfl (s199) (Nat.le_of_ble_eq_true rfl) (by rw [mcs_199, mC_107]; omega) (by rw [mcs_199, mS_107]; omega) ?_
    simp only [mcs_199, vpu, Nat.add_zero, Nat.zero_add, Nat.reduceAdd]
    refine R_run 60 ?_
    simp only [run_s, run_0, isc, Bool.or_false, Bool.false_or, Bool.or_true, Bool.true_or, Bool.or_self, cond_false, cond_true, gl, sl, stl, stl2, c2, isw, nf, pf, lnb, tk, true_and, and_true, nsg0, nsg1, Int.cast_ofNat_Int, Int.natCast_zero, Int.natCast_one, zero_z, z_add, z_sub, z_mul, z_neg, cnd_eq, cnd_ne, cnd_lt, cnd_ge, cnd_gt, cnd_le, vok_0, vok_3r, vok_3n, vok_4, Nat.add_zero, Nat.zero_add, Nat.reduceAdd, Nat.reduceSub, Nat.reduceMod, Nat.reduceDiv, Nat.reduceEqDiff, Nat.reduceLeDiff, Nat.reduceMul, Int.reduceNeg, if_true, if_false, ite_true, ite_false, reduceIte, hup_app, Nat.add_left_cancel_iff, Nat.left_eq_add, Nat.add_eq_left, reduceCtorEq, subc_0, subc_1, subc_2, subc_3, subc_4, subc_5, subc_6, subc_7, subc_8, subc_9, subc_10, subc_11, subc_12, sube_2, sube_3, sube_5, sube_8, sube_9, sube_10, rets_ok, va_rfs, true_or, or_true, or_false, false_or, sI_aload_n, sI_getfield, sI_goto, sI_iconst, sI_ifCond, sI_if_icmp, sI_iinc, sI_iload_n, sI_invokevirtual, sI_ireturn, sI_istore_n, sI_isub, sI_pop, ix_107_0, ix_107_1, ix_107_4, ix_107_7, ix_107_8, ix_107_11, ix_107_12, ix_107_13, ix_107_14, ix_107_17, ix_107_20, ix_107_21, ix_107_22, ix_107_23, ix_107_24, ix_107_27, ix_107_28, ix_107_29, ix_107_32, ix_107_35, ix_107_36, ix_107_39, ix_107_40, ix_107_43, ix_107_44, ix_107_47, ix_107_50, ix_107_51, ix_107_52, ix_107_53, ix_107_56, ix_107_59, ix_107_60, mC_107, mS_107, mH_107, c1, XF]
    refine R_cV ix_107_17 (by decide) (by decide) rfl (l2) rfl (s199) (Nat.le_of_ble_eq_true rfl) (by rw [mcs_199, mC_107]; omega) (by rw [mcs_199, mS_107]; omega) ?_
    simp only [mcs_199, vpu, Nat.add_zero, Nat.zero_add, Nat.reduceAdd]
    refine R_run 60 ?_
    simp only [run_s, run_0, isc, Bool.or_false, Bool.false_or, Bool.or_true, Bool.true_or, Bool.or_self, cond_false, cond_true, gl, sl, stl, stl2, c2, isw, nf, pf, lnb, tk, true_and, and_true, nsg0, nsg1, Int.cast_ofNat_Int, Int.natCast_zero, Int.natCast_one, zero_z, z_add, z_sub, z_mul, z_neg, cnd_eq, cnd_ne, cnd_lt, cnd_ge, cnd_gt, cnd_le, vok_0, vok_3r, vok_3n, vok_4, Nat.add_zero, Nat.zero_add, Nat.reduceAdd, Nat.reduceSub, Nat.reduceMod, Nat.reduceDiv, Nat.reduceEqDiff, Nat.reduceLeDiff, Nat.reduceMul, Int.reduceNeg, if_true, if_false, ite_true, ite_false, reduceIte, hup_app, Nat.add_left_cancel_iff, Nat.left_eq_add, Nat.add_eq_left, reduceCtorEq, subc_0, subc_1, subc_2, subc_3, subc_4, subc_5, subc_6, subc_7, subc_8, subc_9, subc_10, subc_11, subc_12, sube_2, sube_3, sube_5, sube_8, sube_9, sube_10, rets_ok, va_rfs, true_or, or_true, or_false, false_or, sI_aload_n, sI_getfield, sI_goto, sI_iconst, sI_ifCond, sI_if_icmp, sI_iinc, sI_iload_n, sI_invokevirtual, sI_ireturn, sI_istore_n, sI_isub, sI_pop, ix_107_0, ix_107_1, ix_107_4, ix_107_7, ix_107_8, ix_107_11, ix_107_12, ix_107_13, ix_107_14, ix_107_17, ix_107_20, ix_107_21, ix_107_22, ix_107_23, ix_107_24, ix_107_27, ix_107_28, ix_107_29, ix_107_32, ix_107_35, ix_107_36, ix_107_39, ix_107_40, ix_107_43, ix_107_44, ix_107_47, ix_107_50, ix_107_51, ix_107_52, ix_107_53, ix_107_56, ix_107_59, ix_107_60, mC_107, mS_107, mH_107]
    try simp (disch := omega) only [z_lt, z_le, z_eq, z_in, z_nat, Int.toNat_natCast, upd_z, z_l, zl_0, zl_add, zl_sub, zl_mul, zl_i, zl_eq, zl_div, Int.reduceLT, Int.reduceLE, Int.reduceToNat, Nat.reduceAdd, Nat.reduceLeDiff, not_false_eq_true, true_and, and_true]
    have kq := kk (rets (some (.int (z ((n : Int) - fl)))) (blk h1 (x + 8) 57 (TB (x + 8) ha K')) sz)
    rw [show fl + (n - fl) = n by omega] at kq
    refine kq ?_
    refine R_cV ix_107_56 (by decide) (by decide) rfl (hX1) rfl (s123) (Nat.le_of_ble_eq_true rfl) (by rw [mcs_123, mC_107]; omega) (by rw [mcs_123, mS_107]; omega) ?_
    simp only [mcs_123, vpu, Nat.add_zero, Nat.zero_add, Nat.reduceAdd]
    refine R_run 60 ?_
    simp only [run_s, run_0, isc, Bool.or_false, Bool.false_or, Bool.or_true, Bool.true_or, Bool.or_self, cond_false, cond_true, gl, sl, stl, stl2, c2, isw, nf, pf, lnb, tk, true_and, and_true, nsg0, nsg1, Int.cast_ofNat_Int, Int.natCast_zero, Int.natCast_one, zero_z, z_add, z_sub, z_mul, z_neg, cnd_eq, cnd_ne, cnd_lt, cnd_ge, cnd_gt, cnd_le, vok_0, vok_3r, vok_3n, vok_4, Nat.add_zero, Nat.zero_add, Nat.reduceAdd, Nat.reduceSub, Nat.reduceMod, Nat.reduceDiv, Nat.reduceEqDiff, Nat.reduceLeDiff, Nat.reduceMul, Int.reduceNeg, if_true, if_false, ite_true, ite_false, reduceIte, hup_app, Nat.add_left_cancel_iff, Nat.left_eq_add, Nat.add_eq_left, reduceCtorEq, subc_0, subc_1, subc_2, subc_3, subc_4, subc_5, subc_6, subc_7, subc_8, subc_9, subc_10, subc_11, subc_12, sube_2, sube_3, sube_5, sube_8, sube_9, sube_10, rets_ok, va_rfs, true_or, or_true, or_false, false_or, sI_aload_n, sI_getfield, sI_goto, sI_iconst, sI_ifCond, sI_if_icmp, sI_iinc, sI_iload_n, sI_invokevirtual, sI_ireturn, sI_istore_n, sI_isub, sI_pop, ix_107_0, ix_107_1, ix_107_4, ix_107_7, ix_107_8, ix_107_11, ix_107_12, ix_107_13, ix_107_14, ix_107_17, ix_107_20, ix_107_21, ix_107_22, ix_107_23, ix_107_24, ix_107_27, ix_107_28, ix_107_29, ix_107_32, ix_107_35, ix_107_36, ix_107_39, ix_107_40, ix_107_43, ix_107_44, ix_107_47, ix_107_50, ix_107_51, ix_107_52, ix_107_53, ix_107_56, ix_107_59, ix_107_60, mC_107, mS_107, mH_107]
  · refine ⟨by rw [blk_out (by omega), hX1], kL M1 (blk_out (by omega)) (blk_out (by omega)) (fun i hi => (c6 i hi).2) ke2, kL L1 (blk_out (by omega)) (blk_out (by omega)) (fun i hi => (c7 i (by omega)).2) ke2, kL M3 (blk_out (by omega)) (blk_out (by omega)) (fun i hi => (c8 i hi).2.2.2) ke2, ⟨c5, isT_blk, isT_out A1 (by omega)⟩, fun i hi => ⟨kH (c6 i hi).1 (c6 i hi).2 ke, (c6 i hi).2⟩, fun i hi => ⟨kE (c7 i (by omega)).1 (c7 i (by omega)).2 ke, (c7 i (by omega)).2⟩, fun c hc => ⟨kT (c8 c hc).1 (c8 c hc).2.2.2 ke, (c8 c hc).2⟩, ⟨r1, r2, r3, r4, r5, r6⟩, ⟨q1, q2, t3⟩, ⟨by rw [blk_out (by omega), hE1], z2, fun q hq => ?_, z4, z5⟩⟩
    rw [blk_out (by omega), n1 q (z3 q hq)]
  · intro q hq hq2
    rw [blk_out (by omega)]
    by_cases q3 : q = a2
    · rcases r2 with r2 | r2
      · rw [q3, r2, hE1, z1]
      · omega
    · exact f1 q (by omega) q3
/- is it sound -/
theorem tile_lt : ∀ p, 2 ≤ p → p ≤ 6 → ∀ a, a ≤ p → ∀ b, b ≤ p → tileN p a b < szN p := by
  have key : ∀ p, p < 7 → ∀ a, a < 7 → ∀ b, b < 7 → a ≤ p → b ≤ p → tileN p a b < szN p := by decide +kernel
  intro p h1 h2 a ha b hb
  exact key p (by omega) a (by omega) b (by omega) ha hb
theorem sp_43v {P : Nat → Nat} {G : GS} {q hs : Nat} (hP : hOK P) (hv : gv P G) (hG : isG h q hs G) (hH : isH h hs (WH P)) : Sp E (d + 3) 43 [.ref q] h sz (rets (some (.int (z 1))) h sz) := by
  obtain ⟨s, hB, t1, t2, t3, t4, t5, t6, t7⟩ := id hv
  obtain ⟨v0, v1, v2, v3, v4, v5, v6, v7, v8, v9, v10⟩ := s
  have hsz := szP_b hP
  have hp := hP.1
  have hp1 := hP.2.1
  have c5 : ∀ k : Nat, 0 < G 7 1 → (k : Int) ≤ G 7 1 → 0 ≤ G 2 k ∧ G 2 k ≤ (P 0 : Int) := fun k a b => t5 a k b
  refine sp_43 (n := szN (P 0)) (np := P 1) (de := (G 7 0).toNat) (la := (G 7 1).toNat) (p := P 0) (m := fun k => (G 1 k).toNat) (o := fun k => (G 0 k).toNat) (c := fun k => (G 2 k).toNat) hG hH (WH_5 _) hsz.1 (WH_1 _) (by omega) (WH_0 _) (by omega) (by omega) (by omega) (by omega) (by omega) (fun k hk => ?_) (fun k hk hk2 => ?_) (fun hl k hk => ?_) t6 ?_
  · have h1 := hand_28 hP hv hk
    have h2 := (t1 k hk).1
    exact ⟨by omega, h1⟩
  · have := t2 k hk hk2
    exact ⟨by omega, by omega⟩
  · have := c5 k (by omega) (by omega)
    exact ⟨by omega, by omega⟩
  · apply Nat.eq_of_testBit_eq
    intro i
    rw [Nat.testBit_two_pow_sub_one, Bool.eq_iff_iff, Nat.testBit_or, Nat.testBit_or, Bool.or_eq_true, Bool.or_eq_true, orT_b, orT_b, orT_b, decide_eq_true_eq]
    constructor
    · rintro ((⟨k, hk, hb⟩ | ⟨k, hk, hb⟩) | ⟨k, hk, hb⟩)
      · have h1 := (t1 k hk).2.1
        rcases Nat.lt_or_ge i (szN (P 0)) with h2 | h2
        · exact h2
        · rw [Nat.testBit_lt_two_pow (Nat.lt_of_lt_of_le h1 (Nat.pow_le_pow_right (by decide) h2))] at hb
          cases hb
      · rw [Nat.testBit_two_pow, decide_eq_true_eq] at hb
        have := t2 ((G 7 0).toNat + k) (by omega) (by omega)
        omega
      · rw [Nat.testBit_two_pow, decide_eq_true_eq] at hb
        have b1 := c5 k (by omega) (by omega)
        have b2 := c5 (k + 1) (by omega) (by omega)
        rw [← hb]
        exact tile_lt _ hp.1 hp.2 _ (by omega) _ (by omega)
    · intro hi
      rcases t7 i hi with ⟨k, k1, k2⟩ | ⟨k, k1, k2, k3⟩ | ⟨k, k1, k2⟩
      · exact Or.inl (Or.inl ⟨k, k1, k2⟩)
      · refine Or.inl (Or.inr ⟨k - (G 7 0).toNat, by omega, ?_⟩)
        rw [Nat.testBit_two_pow, decide_eq_true_eq, show (G 7 0).toNat + (k - (G 7 0).toNat) = k by omega, k3]
        omega
      · refine Or.inr ⟨k, by omega, ?_⟩
        rw [Nat.testBit_two_pow, decide_eq_true_eq]
        exact k2
theorem sp_71v (hH : hsOK H nh) (hT : isT h t ha T) (hV : TV H nh T) (hk : ∀ i, i < nh → isH h (ha i) (WH (H i))) : Sp E (d + 4) 71 [.ref t] h sz (rets (some (.int (z 1))) h sz) := by
  have h6 := hV.1
  refine sp_71 (d := d + 2) (gc := (T 6 1 1).toNat) hT (by omega) (by omega) (fun i hi => ?_)
  obtain ⟨b1, b2, b3⟩ := hV.2 i (by omega)
  exact sp_43v (hH.2 (hxi T i) (by unfold hxi; omega)) b2 (isT_g hT (by omega)) (hk (hxi T i) (by unfold hxi; omega))
theorem sp_56v (hH : hsOK H nh) {u : Nat} (hT : isT h t ha T) (hK : isT h u ha K) (hV : TV H nh T) (q : tEq H T K) (hk : ∀ i, i < nh → isH h (ha i) (WH (H i))) : Sp E (d + 4) 56 [.ref t, .ref u] h sz (rets (some (.int (z 1))) h sz) := by
  have h6 := hV.1
  refine sp_56 (d := d + 1) (gc := (T 6 1 1).toNat) hT hK (by omega) (by omega) (fun i hi => ?_) (q.1 0 (by decide)) (q.1 1 (by decide)) (q.1 2 (by decide)) q.2.1
  obtain ⟨b1, b2, b3⟩ := hV.2 i (by omega)
  have hP := hH.2 (hxi T i) (by unfold hxi; omega)
  have hsz := szP_b hP
  have hp1 := hP.2.1
  obtain ⟨v0, v1, v2, v3, v4, v5, v6, v7, v8, v9, v10⟩ := id b2.1
  have qi := q.2.2 i (by omega)
  have hG := isT_g hT (i := i) (by omega)
  have hC := isT_g hK (i := i) (by omega)
  rw [qi.2] at hC
  exact sp_21 (d := d + 1) (n := szN (H (hxi T i) 0)) (np := H (hxi T i) 1) (de := (T i 7 0).toNat) (la := (T i 7 1).toNat) (nb := (T i 7 9).toNat) hG hC (hk (hxi T i) (by unfold hxi; omega)) (WH_5 _) hsz.1 (WH_1 _) (by omega) (by omega) (by omega) (by omega) (by omega) (by omega) (by omega) qi.1
set_option maxRecDepth 16384 in
theorem snd_l (hS : sC H nh J n fl cu nc rf uf ue) : ∀ (m : Nat) (k : Int) (h1 : AH) (A1 : TT), -1 ≤ k → k + m = nc → isCx E h1 sz x base H nh J n fl cu nc rf uf ue N ha ea ca a1 a2 a3 A1 C → ∃ h' A', isCx E h' sz x base H nh J n fl cu nc rf uf ue N ha ea ca a1 a2 a3 A' C ∧ frm h1 h' x base ∧ Rr E (mcsT mtab) (Sp E (d + 19)) (d + 19) mi_114 (rets (some (.int (z 1))) h' sz) 2 [some (.ref x), some (.int (z k))] [] h1 sz 0 0 := by
  have hnc := hS.2.2.2.2.1
  intro m
  induction m with
  | zero =>
    intro k h1 A1 hk1 hk2 hC
    refine ⟨h1, A1, hC, frm_r, ?_⟩
    obtain ⟨hX, hL, hT, hkk, hxz⟩ := cx hC
    obtain ⟨hV, hVa, hMa⟩ := cNV hS hC.2.2.2.2.2.2.2.2.2.1.1
    have hM := cNM hS hC.2.2.2.2.2.2.2.2.2.1.1
    have h6 := hV.1
    have s199 := sp_199 (E := E) (d := d + 18) (sz := sz) hC.2.2.2.1
    obtain ⟨fs2, l2⟩ := l_obj hC.2.2.2.1
    have s71 := sp_71v (E := E) (d := d + 15) (sz := sz) hS.1 hT hV hkk
    have s69 := sp_69 (E := E) (d := d + 16) (sz := sz) (gc := (N 6 1 1).toNat) hT (by omega) (by omega) (dn_r hS.1 hV)
    rw [show sumTo (N 6 0) 4 + N 6 1 2 + opC N (N 6 1 1).toNat = 400 from hM.1] at s69
    rw [show k = (nc : Int) by omega]
    refine R_hd ix_114_2 60 ?_
    simp only [run_s, run_0, isc, Bool.or_false, Bool.false_or, Bool.or_true, Bool.true_or, Bool.or_self, cond_false, cond_true, gl, sl, stl, stl2, c2, isw, nf, pf, lnb, tk, true_and, and_true, nsg0, nsg1, Int.cast_ofNat_Int, Int.natCast_zero, Int.natCast_one, zero_z, z_add, z_sub, z_mul, z_neg, cnd_eq, cnd_ne, cnd_lt, cnd_ge, cnd_gt, cnd_le, vok_0, vok_3r, vok_3n, vok_4, Nat.add_zero, Nat.zero_add, Nat.reduceAdd, Nat.reduceSub, Nat.reduceMod, Nat.reduceDiv, Nat.reduceEqDiff, Nat.reduceLeDiff, Nat.reduceMul, Int.reduceNeg, if_true, if_false, ite_true, ite_false, reduceIte, hup_app, Nat.add_left_cancel_iff, Nat.left_eq_add, Nat.add_eq_left, reduceCtorEq, subc_0, subc_1, subc_2, subc_3, subc_4, subc_5, subc_6, subc_7, subc_8, subc_9, subc_10, subc_11, subc_12, sube_2, sube_3, sube_5, sube_8, sube_9, sube_10, rets_ok, va_rfs, true_or, or_true, or_false, false_or, sI_aload_n, sI_getfield, sI_goto, sI_iconst, sI_ifCond, sI_if_icmp, sI_iinc, sI_iload_n, sI_invokevirtual, sI_ireturn, sI_istore_n, sI_sipush, ix_114_0, ix_114_1, ix_114_2, ix_114_3, ix_114_4, ix_114_7, ix_114_10, ix_114_13, ix_114_14, ix_114_15, ix_114_16, ix_114_19, ix_114_22, ix_114_23, ix_114_26, ix_114_27, ix_114_30, ix_114_33, ix_114_36, ix_114_37, ix_114_38, ix_114_41, ix_114_44, ix_114_45, ix_114_48, ix_114_51, ix_114_54, ix_114_55, ix_114_58, ix_114_61, ix_114_64, ix_114_67, ix_114_68, ix_114_71, ix_114_72, mC_114, mS_114, mH_114, hX, XF]
    refine R_cV ix_114_7 (by decide) (by decide) rfl (l2) rfl (s199) (Nat.le_of_ble_eq_true rfl) (by rw [mcs_199, mC_114]; omega) (by rw [mcs_199, mS_114]; omega) ?_
    simp only [mcs_199, vpu, Nat.add_zero, Nat.zero_add, Nat.reduceAdd]
    refine R_run 60 ?_
    simp only [run_s, run_0, isc, Bool.or_false, Bool.false_or, Bool.or_true, Bool.true_or, Bool.or_self, cond_false, cond_true, gl, sl, stl, stl2, c2, isw, nf, pf, lnb, tk, true_and, and_true, nsg0, nsg1, Int.cast_ofNat_Int, Int.natCast_zero, Int.natCast_one, zero_z, z_add, z_sub, z_mul, z_neg, cnd_eq, cnd_ne, cnd_lt, cnd_ge, cnd_gt, cnd_le, vok_0, vok_3r, vok_3n, vok_4, Nat.add_zero, Nat.zero_add, Nat.reduceAdd, Nat.reduceSub, Nat.reduceMod, Nat.reduceDiv, Nat.reduceEqDiff, Nat.reduceLeDiff, Nat.reduceMul, Int.reduceNeg, if_true, if_false, ite_true, ite_false, reduceIte, hup_app, Nat.add_left_cancel_iff, Nat.left_eq_add, Nat.add_eq_left, reduceCtorEq, subc_0, subc_1, subc_2, subc_3, subc_4, subc_5, subc_6, subc_7, subc_8, subc_9, subc_10, subc_11, subc_12, sube_2, sube_3, sube_5, sube_8, sube_9, sube_10, rets_ok, va_rfs, true_or, or_true, or_false, false_or, sI_aload_n, sI_getfield, sI_goto, sI_iconst, sI_ifCond, sI_if_icmp, sI_iinc, sI_iload_n, sI_invokevirtual, sI_ireturn, sI_istore_n, sI_sipush, ix_114_0, ix_114_1, ix_114_2, ix_114_3, ix_114_4, ix_114_7, ix_114_10, ix_114_13, ix_114_14, ix_114_15, ix_114_16, ix_114_19, ix_114_22, ix_114_23, ix_114_26, ix_114_27, ix_114_30, ix_114_33, ix_114_36, ix_114_37, ix_114_38, ix_114_41, ix_114_44, ix_114_45, ix_114_48, ix_114_51, ix_114_54, ix_114_55, ix_114_58, ix_114_61, ix_114_64, ix_114_67, ix_114_68, ix_114_71, ix_114_72, mC_114, mS_114, mH_114, hX, XF]
    try simp (disch := omega) only [z_lt, z_le, z_eq, z_in, z_nat, Int.toNat_natCast, upd_z, z_l, zl_0, zl_add, zl_sub, zl_mul, zl_i, zl_eq, zl_div, Int.reduceLT, Int.reduceLE, Int.reduceToNat, Nat.reduceAdd, Nat.reduceLeDiff, not_false_eq_true, true_and, and_true]
    repeat' (first | (with_reducible refine ⟨?_, ?_⟩) | (with_reducible intro _))
    all_goals try (first | exact True.intro | with_reducible rfl | exact absurd True.intro (by assumption) | omega | (exfalso; omega) | (rw [if_pos (by omega)]; done) | (rw [if_neg (by omega)]; done))
    refine R_cV ix_114_48 (by decide) (by decide) rfl (isT_0 hT) rfl (s71) (Nat.le_of_ble_eq_true rfl) (by rw [mcs_71, mC_114]; omega) (by rw [mcs_71, mS_114]; omega) ?_
    simp only [mcs_71, vpu, Nat.add_zero, Nat.zero_add, Nat.reduceAdd]
    refine R_run 60 ?_
    simp only [run_s, run_0, isc, Bool.or_false, Bool.false_or, Bool.or_true, Bool.true_or, Bool.or_self, cond_false, cond_true, gl, sl, stl, stl2, c2, isw, nf, pf, lnb, tk, true_and, and_true, nsg0, nsg1, Int.cast_ofNat_Int, Int.natCast_zero, Int.natCast_one, zero_z, z_add, z_sub, z_mul, z_neg, cnd_eq, cnd_ne, cnd_lt, cnd_ge, cnd_gt, cnd_le, vok_0, vok_3r, vok_3n, vok_4, Nat.add_zero, Nat.zero_add, Nat.reduceAdd, Nat.reduceSub, Nat.reduceMod, Nat.reduceDiv, Nat.reduceEqDiff, Nat.reduceLeDiff, Nat.reduceMul, Int.reduceNeg, if_true, if_false, ite_true, ite_false, reduceIte, hup_app, Nat.add_left_cancel_iff, Nat.left_eq_add, Nat.add_eq_left, reduceCtorEq, subc_0, subc_1, subc_2, subc_3, subc_4, subc_5, subc_6, subc_7, subc_8, subc_9, subc_10, subc_11, subc_12, sube_2, sube_3, sube_5, sube_8, sube_9, sube_10, rets_ok, va_rfs, true_or, or_true, or_false, false_or, sI_aload_n, sI_getfield, sI_goto, sI_iconst, sI_ifCond, sI_if_icmp, sI_iinc, sI_iload_n, sI_invokevirtual, sI_ireturn, sI_istore_n, sI_sipush, ix_114_0, ix_114_1, ix_114_2, ix_114_3, ix_114_4, ix_114_7, ix_114_10, ix_114_13, ix_114_14, ix_114_15, ix_114_16, ix_114_19, ix_114_22, ix_114_23, ix_114_26, ix_114_27, ix_114_30, ix_114_33, ix_114_36, ix_114_37, ix_114_38, ix_114_41, ix_114_44, ix_114_45, ix_114_48, ix_114_51, ix_114_54, ix_114_55, ix_114_58, ix_114_61, ix_114_64, ix_114_67, ix_114_68, ix_114_71, ix_114_72, mC_114, mS_114, mH_114, hX, XF]
    try simp (disch := omega) only [z_lt, z_le, z_eq, z_in, z_nat, Int.toNat_natCast, upd_z, z_l, zl_0, zl_add, zl_sub, zl_mul, zl_i, zl_eq, zl_div, Int.reduceLT, Int.reduceLE, Int.reduceToNat, Nat.reduceAdd, Nat.reduceLeDiff, not_false_eq_true, true_and, and_true]
    repeat' (first | (with_reducible refine ⟨?_, ?_⟩) | (with_reducible intro _))
    all_goals try (first | exact True.intro | with_reducible rfl | exact absurd True.intro (by assumption) | omega | (exfalso; omega) | (rw [if_pos (by omega)]; done) | (rw [if_neg (by omega)]; done))
    refine R_cV ix_114_58 (by decide) (by decide) rfl (isT_0 hT) rfl (s69) (Nat.le_of_ble_eq_true rfl) (by rw [mcs_69, mC_114]; omega) (by rw [mcs_69, mS_114]; omega) ?_
    simp only [mcs_69, vpu, Nat.add_zero, Nat.zero_add, Nat.reduceAdd]
    refine R_run 60 ?_
    simp only [run_s, run_0, isc, Bool.or_false, Bool.false_or, Bool.or_true, Bool.true_or, Bool.or_self, cond_false, cond_true, gl, sl, stl, stl2, c2, isw, nf, pf, lnb, tk, true_and, and_true, nsg0, nsg1, Int.cast_ofNat_Int, Int.natCast_zero, Int.natCast_one, zero_z, z_add, z_sub, z_mul, z_neg, cnd_eq, cnd_ne, cnd_lt, cnd_ge, cnd_gt, cnd_le, vok_0, vok_3r, vok_3n, vok_4, Nat.add_zero, Nat.zero_add, Nat.reduceAdd, Nat.reduceSub, Nat.reduceMod, Nat.reduceDiv, Nat.reduceEqDiff, Nat.reduceLeDiff, Nat.reduceMul, Int.reduceNeg, if_true, if_false, ite_true, ite_false, reduceIte, hup_app, Nat.add_left_cancel_iff, Nat.left_eq_add, Nat.add_eq_left, reduceCtorEq, subc_0, subc_1, subc_2, subc_3, subc_4, subc_5, subc_6, subc_7, subc_8, subc_9, subc_10, subc_11, subc_12, sube_2, sube_3, sube_5, sube_8, sube_9, sube_10, rets_ok, va_rfs, true_or, or_true, or_false, false_or, sI_aload_n, sI_getfield, sI_goto, sI_iconst, sI_ifCond, sI_if_icmp, sI_iinc, sI_iload_n, sI_invokevirtual, sI_ireturn, sI_istore_n, sI_sipush, ix_114_0, ix_114_1, ix_114_2, ix_114_3, ix_114_4, ix_114_7, ix_114_10, ix_114_13, ix_114_14, ix_114_15, ix_114_16, ix_114_19, ix_114_22, ix_114_23, ix_114_26, ix_114_27, ix_114_30, ix_114_33, ix_114_36, ix_114_37, ix_114_38, ix_114_41, ix_114_44, ix_114_45, ix_114_48, ix_114_51, ix_114_54, ix_114_55, ix_114_58, ix_114_61, ix_114_64, ix_114_67, ix_114_68, ix_114_71, ix_114_72, mC_114, mS_114, mH_114, vok_z1 (Or.inr rfl)]
    try simp (disch := omega) only [z_lt, z_le, z_eq, z_in, z_nat, Int.toNat_natCast, upd_z, z_l, zl_0, zl_add, zl_sub, zl_mul, zl_i, zl_eq, zl_div, Int.reduceLT, Int.reduceLE, Int.reduceToNat, Nat.reduceAdd, Nat.reduceLeDiff, not_false_eq_true, true_and, and_true]
    repeat' (first | (with_reducible refine ⟨?_, ?_⟩) | (with_reducible intro _))
    all_goals try (first | exact True.intro | with_reducible rfl | exact absurd True.intro (by assumption) | omega | (exfalso; omega) | (rw [if_pos (by omega)]; done) | (rw [if_neg (by omega)]; done))
  | succ m ih =>
    intro k h1 A1 hk1 hk2 hC
    obtain ⟨hX, hL, hT, hkk, hxz⟩ := cx hC
    obtain ⟨hV, hVa, hMa⟩ := cNV hS hC.2.2.2.2.2.2.2.2.2.1.1
    have tN := hC.2.2.2.2.2.2.2.2.2.1.1
    have tA := hC.2.2.2.2.2.2.2.2.2.1.2.2
    obtain ⟨K', r1, r2, s123⟩ := sp_123v (E := E) (d := d + 10) (sz := sz) (k := k) hS.1 hS.2.1 hS.2.2.1 hnc hX (redo_o hS hC (Or.inr rfl)) hC.2.2.2.2.1.2.2 tA (by omega)
    have hC' := isCx_A hC r2
    obtain ⟨hX', hL', hT', hkk', hxz'⟩ := cx hC'
    obtain ⟨h', A', w1, w2, w3⟩ := ih (k + 1) _ K' (by omega) (by omega) hC'
    refine ⟨h', A', w1, frm_t (frm_b (Or.inr rfl)) w2, ?_⟩
    have s199 := sp_199 (E := E) (d := d + 18) (sz := sz) hC.2.2.2.1
    obtain ⟨fs2, l2⟩ := l_obj hC.2.2.2.1
    have s56 := sp_56v (E := E) (d := d + 15) (sz := sz) hS.1 hC'.2.2.2.2.1.2.2 hT' (TV_e hS.1 hVa r1) (tEq_t (tEq_s r1) tN) hkk'
    refine R_hd ix_114_2 60 ?_
    simp only [run_s, run_0, isc, Bool.or_false, Bool.false_or, Bool.or_true, Bool.true_or, Bool.or_self, cond_false, cond_true, gl, sl, stl, stl2, c2, isw, nf, pf, lnb, tk, true_and, and_true, nsg0, nsg1, Int.cast_ofNat_Int, Int.natCast_zero, Int.natCast_one, zero_z, z_add, z_sub, z_mul, z_neg, cnd_eq, cnd_ne, cnd_lt, cnd_ge, cnd_gt, cnd_le, vok_0, vok_3r, vok_3n, vok_4, Nat.add_zero, Nat.zero_add, Nat.reduceAdd, Nat.reduceSub, Nat.reduceMod, Nat.reduceDiv, Nat.reduceEqDiff, Nat.reduceLeDiff, Nat.reduceMul, Int.reduceNeg, if_true, if_false, ite_true, ite_false, reduceIte, hup_app, Nat.add_left_cancel_iff, Nat.left_eq_add, Nat.add_eq_left, reduceCtorEq, subc_0, subc_1, subc_2, subc_3, subc_4, subc_5, subc_6, subc_7, subc_8, subc_9, subc_10, subc_11, subc_12, sube_2, sube_3, sube_5, sube_8, sube_9, sube_10, rets_ok, va_rfs, true_or, or_true, or_false, false_or, sI_aload_n, sI_getfield, sI_goto, sI_iconst, sI_ifCond, sI_if_icmp, sI_iinc, sI_iload_n, sI_invokevirtual, sI_ireturn, sI_istore_n, sI_sipush, ix_114_0, ix_114_1, ix_114_2, ix_114_3, ix_114_4, ix_114_7, ix_114_10, ix_114_13, ix_114_14, ix_114_15, ix_114_16, ix_114_19, ix_114_22, ix_114_23, ix_114_26, ix_114_27, ix_114_30, ix_114_33, ix_114_36, ix_114_37, ix_114_38, ix_114_41, ix_114_44, ix_114_45, ix_114_48, ix_114_51, ix_114_54, ix_114_55, ix_114_58, ix_114_61, ix_114_64, ix_114_67, ix_114_68, ix_114_71, ix_114_72, mC_114, mS_114, mH_114, hX, XF]
    refine R_cV ix_114_7 (by decide) (by decide) rfl (l2) rfl (s199) (Nat.le_of_ble_eq_true rfl) (by rw [mcs_199, mC_114]; omega) (by rw [mcs_199, mS_114]; omega) ?_
    simp only [mcs_199, vpu, Nat.add_zero, Nat.zero_add, Nat.reduceAdd]
    refine R_run 60 ?_
    simp only [run_s, run_0, isc, Bool.or_false, Bool.false_or, Bool.or_true, Bool.true_or, Bool.or_self, cond_false, cond_true, gl, sl, stl, stl2, c2, isw, nf, pf, lnb, tk, true_and, and_true, nsg0, nsg1, Int.cast_ofNat_Int, Int.natCast_zero, Int.natCast_one, zero_z, z_add, z_sub, z_mul, z_neg, cnd_eq, cnd_ne, cnd_lt, cnd_ge, cnd_gt, cnd_le, vok_0, vok_3r, vok_3n, vok_4, Nat.add_zero, Nat.zero_add, Nat.reduceAdd, Nat.reduceSub, Nat.reduceMod, Nat.reduceDiv, Nat.reduceEqDiff, Nat.reduceLeDiff, Nat.reduceMul, Int.reduceNeg, if_true, if_false, ite_true, ite_false, reduceIte, hup_app, Nat.add_left_cancel_iff, Nat.left_eq_add, Nat.add_eq_left, reduceCtorEq, subc_0, subc_1, subc_2, subc_3, subc_4, subc_5, subc_6, subc_7, subc_8, subc_9, subc_10, subc_11, subc_12, sube_2, sube_3, sube_5, sube_8, sube_9, sube_10, rets_ok, va_rfs, true_or, or_true, or_false, false_or, sI_aload_n, sI_getfield, sI_goto, sI_iconst, sI_ifCond, sI_if_icmp, sI_iinc, sI_iload_n, sI_invokevirtual, sI_ireturn, sI_istore_n, sI_sipush, ix_114_0, ix_114_1, ix_114_2, ix_114_3, ix_114_4, ix_114_7, ix_114_10, ix_114_13, ix_114_14, ix_114_15, ix_114_16, ix_114_19, ix_114_22, ix_114_23, ix_114_26, ix_114_27, ix_114_30, ix_114_33, ix_114_36, ix_114_37, ix_114_38, ix_114_41, ix_114_44, ix_114_45, ix_114_48, ix_114_51, ix_114_54, ix_114_55, ix_114_58, ix_114_61, ix_114_64, ix_114_67, ix_114_68, ix_114_71, ix_114_72, mC_114, mS_114, mH_114, hX, XF]
    try simp (disch := omega) only [z_lt, z_le, z_eq, z_in, z_nat, Int.toNat_natCast, upd_z, z_l, zl_0, zl_add, zl_sub, zl_mul, zl_i, zl_eq, zl_div, Int.reduceLT, Int.reduceLE, Int.reduceToNat, Nat.reduceAdd, Nat.reduceLeDiff, not_false_eq_true, true_and, and_true]
    repeat' (first | (with_reducible refine ⟨?_, ?_⟩) | (with_reducible intro _))
    all_goals try (first | exact True.intro | with_reducible rfl | exact absurd True.intro (by assumption) | omega | (exfalso; omega) | (rw [if_pos (by omega)]; done) | (rw [if_neg (by omega)]; done))
    refine R_cV ix_114_19 (by decide) (by decide) rfl (hX) rfl (s123) (Nat.le_of_ble_eq_true rfl) (by rw [mcs_123, mC_114]; omega) (by rw [mcs_123, mS_114]; omega) ?_
    simp only [mcs_123, vpu, Nat.add_zero, Nat.zero_add, Nat.reduceAdd]
    refine R_run 60 ?_
    simp only [run_s, run_0, isc, Bool.or_false, Bool.false_or, Bool.or_true, Bool.true_or, Bool.or_self, cond_false, cond_true, gl, sl, stl, stl2, c2, isw, nf, pf, lnb, tk, true_and, and_true, nsg0, nsg1, Int.cast_ofNat_Int, Int.natCast_zero, Int.natCast_one, zero_z, z_add, z_sub, z_mul, z_neg, cnd_eq, cnd_ne, cnd_lt, cnd_ge, cnd_gt, cnd_le, vok_0, vok_3r, vok_3n, vok_4, Nat.add_zero, Nat.zero_add, Nat.reduceAdd, Nat.reduceSub, Nat.reduceMod, Nat.reduceDiv, Nat.reduceEqDiff, Nat.reduceLeDiff, Nat.reduceMul, Int.reduceNeg, if_true, if_false, ite_true, ite_false, reduceIte, hup_app, Nat.add_left_cancel_iff, Nat.left_eq_add, Nat.add_eq_left, reduceCtorEq, subc_0, subc_1, subc_2, subc_3, subc_4, subc_5, subc_6, subc_7, subc_8, subc_9, subc_10, subc_11, subc_12, sube_2, sube_3, sube_5, sube_8, sube_9, sube_10, rets_ok, va_rfs, true_or, or_true, or_false, false_or, sI_aload_n, sI_getfield, sI_goto, sI_iconst, sI_ifCond, sI_if_icmp, sI_iinc, sI_iload_n, sI_invokevirtual, sI_ireturn, sI_istore_n, sI_sipush, ix_114_0, ix_114_1, ix_114_2, ix_114_3, ix_114_4, ix_114_7, ix_114_10, ix_114_13, ix_114_14, ix_114_15, ix_114_16, ix_114_19, ix_114_22, ix_114_23, ix_114_26, ix_114_27, ix_114_30, ix_114_33, ix_114_36, ix_114_37, ix_114_38, ix_114_41, ix_114_44, ix_114_45, ix_114_48, ix_114_51, ix_114_54, ix_114_55, ix_114_58, ix_114_61, ix_114_64, ix_114_67, ix_114_68, ix_114_71, ix_114_72, mC_114, mS_114, mH_114, hX', XF]
    refine R_cV ix_114_30 (by decide) (by decide) rfl (isT_0 hC'.2.2.2.2.1.2.2) rfl (s56) (Nat.le_of_ble_eq_true rfl) (by rw [mcs_56, mC_114]; omega) (by rw [mcs_56, mS_114]; omega) ?_
    simp only [mcs_56, vpu, Nat.add_zero, Nat.zero_add, Nat.reduceAdd]
    refine R_run 60 ?_
    simp only [run_s, run_0, isc, Bool.or_false, Bool.false_or, Bool.or_true, Bool.true_or, Bool.or_self, cond_false, cond_true, gl, sl, stl, stl2, c2, isw, nf, pf, lnb, tk, true_and, and_true, nsg0, nsg1, Int.cast_ofNat_Int, Int.natCast_zero, Int.natCast_one, zero_z, z_add, z_sub, z_mul, z_neg, cnd_eq, cnd_ne, cnd_lt, cnd_ge, cnd_gt, cnd_le, vok_0, vok_3r, vok_3n, vok_4, Nat.add_zero, Nat.zero_add, Nat.reduceAdd, Nat.reduceSub, Nat.reduceMod, Nat.reduceDiv, Nat.reduceEqDiff, Nat.reduceLeDiff, Nat.reduceMul, Int.reduceNeg, if_true, if_false, ite_true, ite_false, reduceIte, hup_app, Nat.add_left_cancel_iff, Nat.left_eq_add, Nat.add_eq_left, reduceCtorEq, subc_0, subc_1, subc_2, subc_3, subc_4, subc_5, subc_6, subc_7, subc_8, subc_9, subc_10, subc_11, subc_12, sube_2, sube_3, sube_5, sube_8, sube_9, sube_10, rets_ok, va_rfs, true_or, or_true, or_false, false_or, sI_aload_n, sI_getfield, sI_goto, sI_iconst, sI_ifCond, sI_if_icmp, sI_iinc, sI_iload_n, sI_invokevirtual, sI_ireturn, sI_istore_n, sI_sipush, ix_114_0, ix_114_1, ix_114_2, ix_114_3, ix_114_4, ix_114_7, ix_114_10, ix_114_13, ix_114_14, ix_114_15, ix_114_16, ix_114_19, ix_114_22, ix_114_23, ix_114_26, ix_114_27, ix_114_30, ix_114_33, ix_114_36, ix_114_37, ix_114_38, ix_114_41, ix_114_44, ix_114_45, ix_114_48, ix_114_51, ix_114_54, ix_114_55, ix_114_58, ix_114_61, ix_114_64, ix_114_67, ix_114_68, ix_114_71, ix_114_72, mC_114, mS_114, mH_114]
    try simp (disch := omega) only [z_lt, z_le, z_eq, z_in, z_nat, Int.toNat_natCast, upd_z, z_l, zl_0, zl_add, zl_sub, zl_mul, zl_i, zl_eq, zl_div, Int.reduceLT, Int.reduceLE, Int.reduceToNat, Nat.reduceAdd, Nat.reduceLeDiff, not_false_eq_true, true_and, and_true]
    repeat' (first | (with_reducible refine ⟨?_, ?_⟩) | (with_reducible intro _))
    all_goals try (first | exact True.intro | with_reducible rfl | exact absurd True.intro (by assumption) | omega | (exfalso; omega) | (rw [if_pos (by omega)]; done) | (rw [if_neg (by omega)]; done) | exact w3)
set_option maxRecDepth 16384 in
theorem sp_114y (hS : sC H nh J n fl cu nc rf uf ue) (hC : isC E h sz x base H nh J n fl cu nc rf uf ue N) : ∃ h', Sp E (d + 20) 114 [.ref x] h sz (rets (some (.int (z 1))) h' sz) ∧ isC E h' sz x base H nh J n fl cu nc rf uf ue N ∧ frm h h' x base := by
  obtain ⟨ha, ea, ca, a1, a2, a3, A, C, hC⟩ := hC
  obtain ⟨h', A', w1, w2, w3⟩ := snd_l (E := E) (d := d) (sz := sz) hS (nc + 1) (-1) h A (by omega) (by omega) hC
  refine ⟨h', ?_, ⟨ha, ea, ca, a1, a2, a3, A', C, w1⟩, w2⟩
  refine ⟨mi_114, mt_114, Nat.le_of_ble_eq_true rfl, ?_⟩
  change Rr _ _ _ _ mi_114 _ 0 [some (.ref x), none] [] _ _ 0 0
  refine R_run 60 ?_
  simp only [run_s, run_0, isc, Bool.or_false, Bool.false_or, Bool.or_true, Bool.true_or, Bool.or_self, cond_false, cond_true, gl, sl, stl, stl2, c2, isw, nf, pf, lnb, tk, true_and, and_true, nsg0, nsg1, Int.cast_ofNat_Int, Int.natCast_zero, Int.natCast_one, zero_z, z_add, z_sub, z_mul, z_neg, cnd_eq, cnd_ne, cnd_lt, cnd_ge, cnd_gt, cnd_le, vok_0, vok_3r, vok_3n, vok_4, Nat.add_zero, Nat.zero_add, Nat.reduceAdd, Nat.reduceSub, Nat.reduceMod, Nat.reduceDiv, Nat.reduceEqDiff, Nat.reduceLeDiff, Nat.reduceMul, Int.reduceNeg, if_true, if_false, ite_true, ite_false, reduceIte, hup_app, Nat.add_left_cancel_iff, Nat.left_eq_add, Nat.add_eq_left, reduceCtorEq, subc_0, subc_1, subc_2, subc_3, subc_4, subc_5, subc_6, subc_7, subc_8, subc_9, subc_10, subc_11, subc_12, sube_2, sube_3, sube_5, sube_8, sube_9, sube_10, rets_ok, va_rfs, true_or, or_true, or_false, false_or, sI_aload_n, sI_getfield, sI_goto, sI_iconst, sI_ifCond, sI_if_icmp, sI_iinc, sI_iload_n, sI_invokevirtual, sI_ireturn, sI_istore_n, sI_sipush, ix_114_0, ix_114_1, ix_114_2, ix_114_3, ix_114_4, ix_114_7, ix_114_10, ix_114_13, ix_114_14, ix_114_15, ix_114_16, ix_114_19, ix_114_22, ix_114_23, ix_114_26, ix_114_27, ix_114_30, ix_114_33, ix_114_36, ix_114_37, ix_114_38, ix_114_41, ix_114_44, ix_114_45, ix_114_48, ix_114_51, ix_114_54, ix_114_55, ix_114_58, ix_114_61, ix_114_64, ix_114_67, ix_114_68, ix_114_71, ix_114_72, mC_114, mS_114, mH_114]
  exact w3
end CRS
