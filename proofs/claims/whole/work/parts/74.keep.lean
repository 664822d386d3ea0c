/-! ===== the class keeps a checkpoint, notes a house, is made ===== -/
section CKP
variable {E : EX} {d : Nat} {h : AH} {sz x base g t w : Nat} {H : HT} {nh : Nat} {J : GS} {n fl : Nat} {cu : Nat → Nat} {nc : Nat} {rf uf ue : Int} {N T K : TT} {ha ea ca : Nat → Nat} {a1 a2 a3 : Nat} {A : TT} {C : Nat → TT}
theorem grow3 (hC : isCx E h sz x base H nh J n fl cu nc rf uf ue N ha ea ca a1 a2 a3 A C) (hnc : nc ≤ 400) (hw : isT h w ha K) (hb : base ≤ w) (k : Nat) (hq : tEq H (At H J k) K) (hx : tix nh K) : ∃ h' sz' a3', Sp E (d + 8) 203 [.ref (x + 3), .ref w] h sz (rets (some (.int (z 1))) h' sz') ∧ isCx E h' sz' x base H nh J n fl (fun c => if c = nc then k else cu c) (nc + 1) rf uf ue N ha ea (fun c => if c = nc then w else ca c) a1 a2 a3' A (fun c => if c = nc then K else C c) ∧ frm h h' x base ∧ sz ≤ sz' := by
  obtain ⟨c1, cb, c3, c4, ⟨c5, c5n, c5a⟩, c6, c7, c8, ⟨r1, r2, r3, r4, r5, r6⟩, ⟨t1, t2, t3⟩, ⟨z1, z2, z3, z4, z5⟩⟩ := hC
  obtain ⟨h1, sz1, a3', s203, L2, sz1a, sz1b, ar, fr, z3', z2'⟩ := sp_203 (E := E) (d := d) c4 hnc (isT_0 hw) (by decide) z3 z2 z1
  have f1 : ∀ q, q < base → q ≠ x + 3 → h1 q = h q := fun q hq1 hq2 => fr q (by omega) hq2 (fun q3 => by rcases r3 with r3 | r3 <;> omega)
  have ke1 : kee h h1 base := fun q c hb hc hu => by
    have hqz : q < sz := isL_lt (hz := z3) hc
    rw [fr q hqz (by omega) (fun q3 => ?_), hc]
    rcases arr_k c4 with ⟨k1, -⟩ | ⟨u, k1⟩
    · exact k1
    · rw [← q3, hc] at k1
      exact absurd (Option.some.inj k1) (hu u)
  have hE1 : h1 E.2.1 = none := by
    rw [fr E.2.1 z2 (fun q => by obtain ⟨fs, q2⟩ := l_obj c4; rw [← q, z1] at q2; cases q2) (fun q => q.symm), z1]
  have a1k : h1 a1 = h a1 := by
    rcases r1 with r1 | r1
    · rw [r1, hE1, z1]
    · rcases arr_k cb with ⟨k1, -⟩ | ⟨u, k1⟩
      · rw [k1, hE1, z1]
      · exact fr a1 (isL_lt (hz := z3) k1) (by omega) (fun q => by have := r5 q; omega)
  have a2k : h1 a2 = h a2 := by
    rcases r2 with r2 | r2
    · rw [r2, hE1, z1]
    · rcases arr_k c3 with ⟨k1, -⟩ | ⟨u, k1⟩
      · rw [k1, hE1, z1]
      · exact fr a2 (isL_lt (hz := z3) k1) (by omega) (fun q => by have := r6 q; omega)
  refine ⟨h1, sz1, a3', s203, ⟨by rw [f1 x (by omega) (by omega), c1], kL cb (f1 _ (by omega) (by omega)) a1k (fun i hi => (c6 i hi).2) ke1, kL c3 (f1 _ (by omega) (by omega)) a2k (fun i hi => (c7 i hi).2) ke1, L2, ⟨c5, fun j hj => by rw [f1 _ (by omega) (by omega)]; exact c5n j hj, fun j hj => by rw [f1 _ (by omega) (by omega)]; exact c5a j hj⟩, fun i hi => ⟨kH (c6 i hi).1 (c6 i hi).2 ke1, (c6 i hi).2⟩, fun i hi => ⟨kE (c7 i hi).1 (c7 i hi).2 ke1, (c7 i hi).2⟩, fun c hc => ?_, ⟨r1, r2, ?_, r4, ?_, ?_⟩, ⟨t1, t2, t3⟩, ⟨hE1, z2', z3', z4, by omega⟩⟩, fun q hq1 hq2 => f1 q hq1 (by omega), sz1a⟩
  · try dsimp only
    by_cases hcn : c = nc
    · rw [if_pos hcn, if_pos hcn, if_pos hcn]
      exact ⟨kT hw hb ke1, hq, hx, hb⟩
    · rw [if_neg hcn, if_neg hcn, if_neg hcn]
      have := c8 c (by omega)
      exact ⟨kT this.1 this.2.2.2 ke1, this.2⟩
  · rcases ar with ar | ar
    · rw [ar]; exact r3
    · exact Or.inr (by omega)
  · intro q
    rcases ar with ar | ar
    · rw [ar] at q; exact r5 q
    · rcases r1 with r1 | r1
      · exact r1
      · rcases arr_k cb with ⟨k1, -⟩ | ⟨u, k1⟩
        · exact k1
        · have := isL_lt (hz := z3) k1
          omega
  · intro q
    rcases ar with ar | ar
    · rw [ar] at q; exact r6 q
    · rcases r2 with r2 | r2
      · exact r2
      · rcases arr_k c3 with ⟨k1, -⟩ | ⟨u, k1⟩
        · exact k1
        · have := isL_lt (hz := z3) k1
          omega
def cuA (cu : Nat → Nat) (nc n : Nat) : Nat → Nat := fun c => if c = nc then n else cu c
theorem sC_k (hS : sC H nh J n fl cu nc rf uf ue) (hnc : nc < 5) : sC H nh J n n (cuA cu nc n) (nc + 1) rf uf ue := by
  obtain ⟨s1, s2, s3, s4, s5, s6, s7, s8⟩ := hS
  refine ⟨s1, s2, s3, Nat.le_refl _, by omega, fun c hc => ?_, fun c hc => ?_, s8⟩
  · unfold cuA
    by_cases hcn : c = nc
    · rw [if_pos hcn]; omega
    · rw [if_neg hcn]
      have := s6 c (by omega)
      omega
  · unfold cuA
    rw [if_neg (by omega)]
    by_cases hcn : c + 1 = nc
    · rw [if_pos hcn]
      have := s6 c (by omega)
      omega
    · rw [if_neg hcn]
      exact s7 c (by omega)
set_option maxRecDepth 16384 in
theorem sp_108u (hS : sC H nh J n fl cu nc rf uf ue) (hC : isC E h sz x base H nh J n fl cu nc rf uf ue N) (ho : 0 < opC N (N 6 1 1).toNat) : Sp E (d + 20) 108 [.ref x] h sz (thrs eUOE h sz) := by
  obtain ⟨ha, ea, ca, a1, a2, a3, A, C, hC⟩ := hC
  obtain ⟨hX, hL, hT, hkk, hxz⟩ := cx hC
  obtain ⟨hV, -, -⟩ := cNV hS hC.2.2.2.2.2.2.2.2.2.1.1
  have hM := cNM hS hC.2.2.2.2.2.2.2.2.2.1.1
  have h6 := hV.1
  obtain ⟨F1, F2, F3, F4, -⟩ := TM_f hS.1 hV hM
  have e1 : opC N (N 6 1 1).toNat = sumTo (fun i => oC (N i)) (N 6 1 1).toNat := rfl
  have s66 := sp_66 (E := E) (d := d + 16) (sz := sz) (gc := (N 6 1 1).toNat) hT (by omega) (by omega) (dn_r hS.1 hV) (by omega)
  rw [if_pos ho] at s66
  refine ⟨mi_108, mt_108, Nat.le_of_ble_eq_true rfl, ?_⟩
  change Rr _ _ _ _ mi_108 _ 0 [some (.ref x), none] [] _ _ 0 0
  refine R_run 60 ?_
  simp only [run_s, run_0, isc, Bool.or_false, Bool.false_or, Bool.or_true, Bool.true_or, Bool.or_self, cond_false, cond_true, gl, sl, stl, stl2, c2, isw, nf, pf, lnb, tk, true_and, and_true, nsg0, nsg1, Int.cast_ofNat_Int, Int.natCast_zero, Int.natCast_one, zero_z, z_add, z_sub, z_mul, z_neg, cnd_eq, cnd_ne, cnd_lt, cnd_ge, cnd_gt, cnd_le, vok_0, vok_3r, vok_3n, vok_4, Nat.add_zero, Nat.zero_add, Nat.reduceAdd, Nat.reduceSub, Nat.reduceMod, Nat.reduceDiv, Nat.reduceEqDiff, Nat.reduceLeDiff, Nat.reduceMul, Int.reduceNeg, if_true, if_false, ite_true, ite_false, reduceIte, hup_app, Nat.add_left_cancel_iff, Nat.left_eq_add, Nat.add_eq_left, reduceCtorEq, subc_0, subc_1, subc_2, subc_3, subc_4, subc_5, subc_6, subc_7, subc_8, subc_9, subc_10, subc_11, subc_12, sube_2, sube_3, sube_5, sube_8, sube_9, sube_10, rets_ok, va_rfs, true_or, or_true, or_false, false_or, sI_aload_n, sI_astore_n, sI_dup, sI_getfield, sI_iconst, sI_ifCond, sI_if_icmp, sI_invokespecial, sI_invokevirtual, sI_ireturn, sI_isub, sI_new, sI_pop, sI_putfield, ix_108_0, ix_108_1, ix_108_4, ix_108_7, ix_108_10, ix_108_21, ix_108_22, ix_108_25, ix_108_28, ix_108_29, ix_108_32, ix_108_43, ix_108_44, ix_108_45, ix_108_48, ix_108_51, ix_108_54, ix_108_57, ix_108_58, ix_108_59, ix_108_62, ix_108_65, ix_108_66, ix_108_67, ix_108_68, ix_108_71, ix_108_74, ix_108_75, ix_108_78, ix_108_79, ix_108_82, ix_108_83, ix_108_84, ix_108_87, ix_108_90, ix_108_91, ix_108_92, mC_108, mS_108, mH_108, hX, XF]
  refine R_cV ix_108_4 (by decide) (by decide) rfl (isT_0 hT) rfl (s66) (Nat.le_of_ble_eq_true rfl) (by rw [mcs_66, mC_108]; omega) (by rw [mcs_66, mS_108]; omega) ?_
  simp only [mcs_66, vpu, Nat.add_zero, Nat.zero_add, Nat.reduceAdd]
  refine R_run 60 ?_
  simp only [run_s, run_0, isc, Bool.or_false, Bool.false_or, Bool.or_true, Bool.true_or, Bool.or_self, cond_false, cond_true, gl, sl, stl, stl2, c2, isw, nf, pf, lnb, tk, true_and, and_true, nsg0, nsg1, Int.cast_ofNat_Int, Int.natCast_zero, Int.natCast_one, zero_z, z_add, z_sub, z_mul, z_neg, cnd_eq, cnd_ne, cnd_lt, cnd_ge, cnd_gt, cnd_le, vok_0, vok_3r, vok_3n, vok_4, Nat.add_zero, Nat.zero_add, Nat.reduceAdd, Nat.reduceSub, Nat.reduceMod, Nat.reduceDiv, Nat.reduceEqDiff, Nat.reduceLeDiff, Nat.reduceMul, Int.reduceNeg, if_true, if_false, ite_true, ite_false, reduceIte, hup_app, Nat.add_left_cancel_iff, Nat.left_eq_add, Nat.add_eq_left, reduceCtorEq, subc_0, subc_1, subc_2, subc_3, subc_4, subc_5, subc_6, subc_7, subc_8, subc_9, subc_10, subc_11, subc_12, sube_2, sube_3, sube_5, sube_8, sube_9, sube_10, rets_ok, va_rfs, true_or, or_true, or_false, false_or, sI_aload_n, sI_astore_n, sI_dup, sI_getfield, sI_iconst, sI_ifCond, sI_if_icmp, sI_invokespecial, sI_invokevirtual, sI_ireturn, sI_isub, sI_new, sI_pop, sI_putfield, ix_108_0, ix_108_1, ix_108_4, ix_108_7, ix_108_10, ix_108_21, ix_108_22, ix_108_25, ix_108_28, ix_108_29, ix_108_32, ix_108_43, ix_108_44, ix_108_45, ix_108_48, ix_108_51, ix_108_54, ix_108_57, ix_108_58, ix_108_59, ix_108_62, ix_108_65, ix_108_66, ix_108_67, ix_108_68, ix_108_71, ix_108_74, ix_108_75, ix_108_78, ix_108_79, ix_108_82, ix_108_83, ix_108_84, ix_108_87, ix_108_90, ix_108_91, ix_108_92, mC_108, mS_108, mH_108]
  try simp (disch := omega) only [z_lt, z_le, z_eq, z_in, z_nat, Int.toNat_natCast, upd_z, z_l, zl_0, zl_add, zl_sub, zl_mul, zl_i, zl_eq, zl_div, Int.reduceLT, Int.reduceLE, Int.reduceToNat, Nat.reduceAdd, Nat.reduceLeDiff, not_false_eq_true, true_and, and_true]
  repeat' (first | (with_reducible refine ⟨?_, ?_⟩) | (with_reducible intro _))
  all_goals try (first | exact True.intro | with_reducible rfl | exact absurd True.intro (by assumption) | omega | (exfalso; omega) | (rw [if_pos (by omega)]; done) | (rw [if_neg (by omega)]; done) | exact ⟨rfl, rfl, by omega⟩ | exact Nat.le_of_ble_eq_true rfl)
set_option maxRecDepth 16384 in
theorem sp_108s (hS : sC H nh J n fl cu nc rf uf ue) (hC : isC E h sz x base H nh J n fl cu nc rf uf ue N) (ho : ¬ 0 < opC N (N 6 1 1).toNat) (h5 : nc = 5) : Sp E (d + 20) 108 [.ref x] h sz (thrs eISE h sz) := by
  obtain ⟨ha, ea, ca, a1, a2, a3, A, C, hC⟩ := hC
  obtain ⟨hX, hL, hT, hkk, hxz⟩ := cx hC
  obtain ⟨hV, -, -⟩ := cNV hS hC.2.2.2.2.2.2.2.2.2.1.1
  have hM := cNM hS hC.2.2.2.2.2.2.2.2.2.1.1
  have h6 := hV.1
  obtain ⟨F1, F2, F3, F4, -⟩ := TM_f hS.1 hV hM
  have e1 : opC N (N 6 1 1).toNat = sumTo (fun i => oC (N i)) (N 6 1 1).toNat := rfl
  have s66 := sp_66 (E := E) (d := d + 16) (sz := sz) (gc := (N 6 1 1).toNat) hT (by omega) (by omega) (dn_r hS.1 hV) (by omega)
  rw [if_neg ho] at s66
  have s199 := sp_199 (E := E) (d := d + 18) (sz := sz) hC.2.2.2.1
  obtain ⟨fs2, l2⟩ := l_obj hC.2.2.2.1
  refine ⟨mi_108, mt_108, Nat.le_of_ble_eq_true rfl, ?_⟩
  change Rr _ _ _ _ mi_108 _ 0 [some (.ref x), none] [] _ _ 0 0
  refine R_run 60 ?_
  simp only [run_s, run_0, isc, Bool.or_false, Bool.false_or, Bool.or_true, Bool.true_or, Bool.or_self, cond_false, cond_true, gl, sl, stl, stl2, c2, isw, nf, pf, lnb, tk, true_and, and_true, nsg0, nsg1, Int.cast_ofNat_Int, Int.natCast_zero, Int.natCast_one, zero_z, z_add, z_sub, z_mul, z_neg, cnd_eq, cnd_ne, cnd_lt, cnd_ge, cnd_gt, cnd_le, vok_0, vok_3r, vok_3n, vok_4, Nat.add_zero, Nat.zero_add, Nat.reduceAdd, Nat.reduceSub, Nat.reduceMod, Nat.reduceDiv, Nat.reduceEqDiff, Nat.reduceLeDiff, Nat.reduceMul, Int.reduceNeg, if_true, if_false, ite_true, ite_false, reduceIte, hup_app, Nat.add_left_cancel_iff, Nat.left_eq_add, Nat.add_eq_left, reduceCtorEq, subc_0, subc_1, subc_2, subc_3, subc_4, subc_5, subc_6, subc_7, subc_8, subc_9, subc_10, subc_11, subc_12, sube_2, sube_3, sube_5, sube_8, sube_9, sube_10, rets_ok, va_rfs, true_or, or_true, or_false, false_or, sI_aload_n, sI_astore_n, sI_dup, sI_getfield, sI_iconst, sI_ifCond, sI_if_icmp, sI_invokespecial, sI_invokevirtual, sI_ireturn, sI_isub, sI_new, sI_pop, sI_putfield, ix_108_0, ix_108_1, ix_108_4, ix_108_7, ix_108_10, ix_108_21, ix_108_22, ix_108_25, ix_108_28, ix_108_29, ix_108_32, ix_108_43, ix_108_44, ix_108_45, ix_108_48, ix_108_51, ix_108_54, ix_108_57, ix_108_58, ix_108_59, ix_108_62, ix_108_65, ix_108_66, ix_108_67, ix_108_68, ix_108_71, ix_108_74, ix_108_75, ix_108_78, ix_108_79, ix_108_82, ix_108_83, ix_108_84, ix_108_87, ix_108_90, ix_108_91, ix_108_92, mC_108, mS_108, mH_108, hX, XF]
  refine R_cV ix_108_4 (by decide) (by decide) rfl (isT_0 hT) rfl (s66) (Nat.le_of_ble_eq_true rfl) (by rw [mcs_66, mC_108]; omega) (by rw [mcs_66, mS_108]; omega) ?_
  simp only [mcs_66, vpu, Nat.add_zero, Nat.zero_add, Nat.reduceAdd]
  refine R_run 60 ?_
  simp only [run_s, run_0, isc, Bool.or_false, Bool.false_or, Bool.or_true, Bool.true_or, Bool.or_self, cond_false, cond_true, gl, sl, stl, stl2, c2, isw, nf, pf, lnb, tk, true_and, and_true, nsg0, nsg1, Int.cast_ofNat_Int, Int.natCast_zero, Int.natCast_one, zero_z, z_add, z_sub, z_mul, z_neg, cnd_eq, cnd_ne, cnd_lt, cnd_ge, cnd_gt, cnd_le, vok_0, vok_3r, vok_3n, vok_4, Nat.add_zero, Nat.zero_add, Nat.reduceAdd, Nat.reduceSub, Nat.reduceMod, Nat.reduceDiv, Nat.reduceEqDiff, Nat.reduceLeDiff, Nat.reduceMul, Int.reduceNeg, if_true, if_false, ite_true, ite_false, reduceIte, hup_app, Nat.add_left_cancel_iff, Nat.left_eq_add, Nat.add_eq_left, reduceCtorEq, subc_0, subc_1, subc_2, subc_3, subc_4, subc_5, subc_6, subc_7, subc_8, subc_9, subc_10, subc_11, subc_12, sube_2, sube_3, sube_5, sube_8, sube_9, sube_10, rets_ok, va_rfs, true_or, or_true, or_false, false_or, sI_aload_n, sI_astore_n, sI_dup, sI_getfield, sI_iconst, sI_ifCond, sI_if_icmp, sI_invokespecial, sI_invokevirtual, sI_ireturn, sI_isub, sI_new, sI_pop, sI_putfield, ix_108_0, ix_108_1, ix_108_4, ix_108_7, ix_108_10, ix_108_21, ix_108_22, ix_108_25, ix_108_28, ix_108_29, ix_108_32, ix_108_43, ix_108_44, ix_108_45, ix_108_48, ix_108_51, ix_108_54, ix_108_57, ix_108_58, ix_108_59, ix_108_62, ix_108_65, ix_108_66, ix_108_67, ix_108_68, ix_108_71, ix_108_74, ix_108_75, ix_108_78, ix_108_79, ix_108_82, ix_108_83, ix_108_84, ix_108_87, ix_108_90, ix_108_91, ix_108_92, mC_108, mS_108, mH_108, hX, XF]
  try simp (disch := omega) only [z_lt, z_le, z_eq, z_in, z_nat, Int.toNat_natCast, upd_z, z_l, zl_0, zl_add, zl_sub, zl_mul, zl_i, zl_eq, zl_div, Int.reduceLT, Int.reduceLE, Int.reduceToNat, Nat.reduceAdd, Nat.reduceLeDiff, not_false_eq_true, true_and, and_true]
  repeat' (first | (with_reducible refine ⟨?_, ?_⟩) | (with_reducible intro _))
  all_goals try (first | exact True.intro | with_reducible rfl | exact absurd True.intro (by assumption) | omega | (exfalso; omega) | (rw [if_pos (by omega)]; done) | (rw [if_neg (by omega)]; done))
  refine R_cV ix_108_25 (by decide) (by decide) rfl (l2) rfl (s199) (Nat.le_of_ble_eq_true rfl) (by rw [mcs_199, mC_108]; omega) (by rw [mcs_199, mS_108]; omega) ?_
  simp only [mcs_199, vpu, Nat.add_zero, Nat.zero_add, Nat.reduceAdd]
  refine R_run 60 ?_
  simp only [run_s, run_0, isc, Bool.or_false, Bool.false_or, Bool.or_true, Bool.true_or, Bool.or_self, cond_false, cond_true, gl, sl, stl, stl2, c2, isw, nf, pf, lnb, tk, true_and, and_true, nsg0, nsg1, Int.cast_ofNat_Int, Int.natCast_zero, Int.natCast_one, zero_z, z_add, z_sub, z_mul, z_neg, cnd_eq, cnd_ne, cnd_lt, cnd_ge, cnd_gt, cnd_le, vok_0, vok_3r, vok_3n, vok_4, Nat.add_zero, Nat.zero_add, Nat.reduceAdd, Nat.reduceSub, Nat.reduceMod, Nat.reduceDiv, Nat.reduceEqDiff, Nat.reduceLeDiff, Nat.reduceMul, Int.reduceNeg, if_true, if_false, ite_true, ite_false, reduceIte, hup_app, Nat.add_left_cancel_iff, Nat.left_eq_add, Nat.add_eq_left, reduceCtorEq, subc_0, subc_1, subc_2, subc_3, subc_4, subc_5, subc_6, subc_7, subc_8, subc_9, subc_10, subc_11, subc_12, sube_2, sube_3, sube_5, sube_8, sube_9, sube_10, rets_ok, va_rfs, true_or, or_true, or_false, false_or, sI_aload_n, sI_astore_n, sI_dup, sI_getfield, sI_iconst, sI_ifCond, sI_if_icmp, sI_invokespecial, sI_invokevirtual, sI_ireturn, sI_isub, sI_new, sI_pop, sI_putfield, ix_108_0, ix_108_1, ix_108_4, ix_108_7, ix_108_10, ix_108_21, ix_108_22, ix_108_25, ix_108_28, ix_108_29, ix_108_32, ix_108_43, ix_108_44, ix_108_45, ix_108_48, ix_108_51, ix_108_54, ix_108_57, ix_108_58, ix_108_59, ix_108_62, ix_108_65, ix_108_66, ix_108_67, ix_108_68, ix_108_71, ix_108_74, ix_108_75, ix_108_78, ix_108_79, ix_108_82, ix_108_83, ix_108_84, ix_108_87, ix_108_90, ix_108_91, ix_108_92, mC_108, mS_108, mH_108]
  try simp (disch := omega) only [z_lt, z_le, z_eq, z_in, z_nat, Int.toNat_natCast, upd_z, z_l, zl_0, zl_add, zl_sub, zl_mul, zl_i, zl_eq, zl_div, Int.reduceLT, Int.reduceLE, Int.reduceToNat, Nat.reduceAdd, Nat.reduceLeDiff, not_false_eq_true, true_and, and_true]
  repeat' (first | (with_reducible refine ⟨?_, ?_⟩) | (with_reducible intro _))
  all_goals try (first | exact True.intro | with_reducible rfl | exact absurd True.intro (by assumption) | omega | (exfalso; omega) | (rw [if_pos (by omega)]; done) | (rw [if_neg (by omega)]; done) | exact ⟨rfl, rfl, by omega⟩ | exact Nat.le_of_ble_eq_true rfl)
set_option maxRecDepth 16384 in
theorem sp_108y (hS : sC H nh J n fl cu nc rf uf ue) (hC : isC E h sz x base H nh J n fl cu nc rf uf ue N) (ho : ¬ 0 < opC N (N 6 1 1).toNat) (h5 : nc < 5) : ∃ h' sz', Sp E (d + 20) 108 [.ref x] h sz (rets (some (.int (z (nc : Int)))) h' sz') ∧ isC E h' sz' x base H nh J n n (cuA cu nc n) (nc + 1) rf uf ue N ∧ frm h h' x base ∧ sz ≤ sz' := by
  obtain ⟨ha, ea, ca, a1, a2, a3, A, C, hC⟩ := hC
  obtain ⟨hX, hL, hT, hkk, hxz⟩ := cx hC
  obtain ⟨hV, hVa, hMa⟩ := cNV hS hC.2.2.2.2.2.2.2.2.2.1.1
  have hM := cNM hS hC.2.2.2.2.2.2.2.2.2.1.1
  have h6 := hV.1
  obtain ⟨F1, F2, F3, F4, -⟩ := TM_f hS.1 hV hM
  have e1 : opC N (N 6 1 1).toNat = sumTo (fun i => oC (N i)) (N 6 1 1).toNat := rfl
  have s66 := sp_66 (E := E) (d := d + 16) (sz := sz) (gc := (N 6 1 1).toNat) hT (by omega) (by omega) (dn_r hS.1 hV) (by omega)
  rw [if_neg ho] at s66
  have s199 := sp_199 (E := E) (d := d + 18) (sz := sz) hC.2.2.2.1
  obtain ⟨fs2, l2⟩ := l_obj hC.2.2.2.1
  have s199j := sp_199 (E := E) (d := d + 18) (sz := sz) hL
  obtain ⟨fs3, l3⟩ := l_obj hL
  have hC1 := isCx_x (fl' := n) (rf' := rf) (uf' := uf) (ue' := ue) hC
  have hb := hC.2.2.2.2.2.2.2.2.2.2.2.2.2.2
  have hb4 := hC.2.2.2.2.2.2.2.2.2.2.2.2.2.1
  have h4 := hC.2.2.2.2.1.1
  have z3 := hC1.2.2.2.2.2.2.2.2.2.2.2.2.1
  have gvc : ∀ i, i < (N 6 1 1).toNat → gv (H (hxi N i)) (N i) := fun i hi => (hV.2 i (by omega)).2.1
  have g6 : N 6 1 1 = ((N 6 1 1).toNat : Nat) := by omega
  have hC3 : isCx E (blk (hup (hup h x (.inr (11, XF x (n : Int) rf uf ue))) sz (.inr (7, dfl 7))) sz 57 (TB sz ha (t_bec T0 N (N 6 1 1).toNat))) (sz + 57) x base H nh J n n cu nc rf uf ue N ha ea ca a1 a2 a3 A C := isCx_ext hC1 (fun q hq => by rw [blk_out (by omega), hup_ne _ _ (by omega)]) (fun q hq => by rw [blk_out (by omega), hup_ne _ _ (by omega)]; exact z3 q (by omega)) (by omega)
  have s53 := sp_53 (E := E) (d := d + 15) (h := hup (hup h x (.inr (11, XF x (n : Int) rf uf ue))) sz (.inr (7, dfl 7))) (t := sz) (ha := ha) (hz := x + 4) (hup_eq _ _ _) h4
  have hTn : isT (blk (hup (hup h x (.inr (11, XF x (n : Int) rf uf ue))) sz (.inr (7, dfl 7))) sz 57 (TB sz ha T0)) (x + 8) ha N := fun j hj => by rw [blk_out (by omega), hup_ne _ _ (by omega), hup_ne _ _ (by omega)]; exact hT j hj
  have s55 := sp_55 (E := E) (d := d + 15) (sz := sz + 57) (isT_blk (h := hup (hup h x (.inr (11, XF x (n : Int) rf uf ue))) sz (.inr (7, dfl 7))) (t := sz) (ha := ha) (T := T0)) hTn (Or.inr (by omega)) g6 (by omega) (fun i hi => (gvc i hi).1.2.2.2.2.2.1) (fun i hi => by have := (gvc i hi).1.2.2.2.2.2.2.2.2.1; omega)
  rw [blk_blk] at s55
  have tN := hC.2.2.2.2.2.2.2.2.2.1
  obtain ⟨h', sz', a3', s203, c', f', l'⟩ := grow3 (E := E) (d := d + 11) hC3 (by omega) (isT_blk (h := hup (hup h x (.inr (11, XF x (n : Int) rf uf ue))) sz (.inr (7, dfl 7))) (t := sz) (ha := ha) (T := t_bec T0 N (N 6 1 1).toNat)) (by omega) n (tEq_t tN.1 (tEq_be hS.1 hV g6)) (tix_be tix_0 tN.2.1)
  refine ⟨h', sz', ?_, ⟨ha, ea, _, a1, a2, a3', A, _, c'⟩, fun q q1 q2 => ?_, by omega⟩
  · have hxs : (x = sz) = False := eq_false (by omega)
    have e199 := sp_199 (E := E) (d := d + 18) (sz := sz') c'.2.2.2.1
    obtain ⟨fs4, l4⟩ := l_obj c'.2.2.2.1
    obtain ⟨fs5, l5⟩ := l_obj hC3.2.2.2.1
    have X3 := hC3.1
    have X4 := c'.1
    have XT : blk (hup (hup h x (.inr (11, XF x (n : Int) rf uf ue))) sz (.inr (7, dfl 7))) sz 57 (TB sz ha T0) x = some (.inr (11, XF x (n : Int) rf uf ue)) := by rw [blk_out (by omega), hup_ne _ _ (by omega), hup_eq]
    have s0 : (hup (hup h x (.inr (11, XF x (n : Int) rf uf ue))) sz (.inr (7, dfl 7))) sz = some (.inr (7, dfl 7)) := hup_eq _ _ _
    rw [show ((nc + 1 : Nat) : Int) = (nc : Int) + 1 by omega] at e199
    simp only [XF] at XT X3
    refine ⟨mi_108, mt_108, Nat.le_of_ble_eq_true rfl, ?_⟩
    change Rr _ _ _ _ mi_108 _ 0 [some (.ref x), none] [] _ _ 0 0
    refine R_run 60 ?_
    simp only [run_s, run_0, isc, Bool.or_false, Bool.false_or, Bool.or_true, Bool.true_or, Bool.or_self, cond_false, cond_true, gl, sl, stl, stl2, c2, isw, nf, pf, lnb, tk, true_and, and_true, nsg0, nsg1, Int.cast_ofNat_Int, Int.natCast_zero, Int.natCast_one, zero_z, z_add, z_sub, z_mul, z_neg, cnd_eq, cnd_ne, cnd_lt, cnd_ge, cnd_gt, cnd_le, vok_0, vok_3r, vok_3n, vok_4, Nat.add_zero, Nat.zero_add, Nat.reduceAdd, Nat.reduceSub, Nat.reduceMod, Nat.reduceDiv, Nat.reduceEqDiff, Nat.reduceLeDiff, Nat.reduceMul, Int.reduceNeg, if_true, if_false, ite_true, ite_false, reduceIte, hup_app, Nat.add_left_cancel_iff, Nat.left_eq_add, Nat.add_eq_left, reduceCtorEq, subc_0, subc_1, subc_2, subc_3, subc_4, subc_5, subc_6, subc_7, subc_8, subc_9, subc_10, subc_11, subc_12, sube_2, sube_3, sube_5, sube_8, sube_9, sube_10, rets_ok, va_rfs, true_or, or_true, or_false, false_or, sI_aload_n, sI_astore_n, sI_dup, sI_getfield, sI_iconst, sI_ifCond, sI_if_icmp, sI_invokespecial, sI_invokevirtual, sI_ireturn, sI_isub, sI_new, sI_pop, sI_putfield, ix_108_0, ix_108_1, ix_108_4, ix_108_7, ix_108_10, ix_108_21, ix_108_22, ix_108_25, ix_108_28, ix_108_29, ix_108_32, ix_108_43, ix_108_44, ix_108_45, ix_108_48, ix_108_51, ix_108_54, ix_108_57, ix_108_58, ix_108_59, ix_108_62, ix_108_65, ix_108_66, ix_108_67, ix_108_68, ix_108_71, ix_108_74, ix_108_75, ix_108_78, ix_108_79, ix_108_82, ix_108_83, ix_108_84, ix_108_87, ix_108_90, ix_108_91, ix_108_92, mC_108, mS_108, mH_108, hX, XF]
    refine R_cV ix_108_4 (by decide) (by decide) rfl (isT_0 hT) rfl (s66) (Nat.le_of_ble_eq_true rfl) (by rw [mcs_66, mC_108]; omega) (by rw [mcs_66, mS_108]; omega) ?_
    simp only [mcs_66, vpu, Nat.add_zero, Nat.zero_add, Nat.reduceAdd]
    refine R_run 60 ?_
    simp only [run_s, run_0, isc, Bool.or_false, Bool.false_or, Bool.or_true, Bool.true_or, Bool.or_self, cond_false, cond_true, gl, sl, stl, stl2, c2, isw, nf, pf, lnb, tk, true_and, and_true, nsg0, nsg1, Int.cast_ofNat_Int, Int.natCast_zero, Int.natCast_one, zero_z, z_add, z_sub, z_mul, z_neg, cnd_eq, cnd_ne, cnd_lt, cnd_ge, cnd_gt, cnd_le, vok_0, vok_3r, vok_3n, vok_4, Nat.add_zero, Nat.zero_add, Nat.reduceAdd, Nat.reduceSub, Nat.reduceMod, Nat.reduceDiv, Nat.reduceEqDiff, Nat.reduceLeDiff, Nat.reduceMul, Int.reduceNeg, if_true, if_false, ite_true, ite_false, reduceIte, hup_app, Nat.add_left_cancel_iff, Nat.left_eq_add, Nat.add_eq_left, reduceCtorEq, subc_0, subc_1, subc_2, subc_3, subc_4, subc_5, subc_6, subc_7, subc_8, subc_9, subc_10, subc_11, subc_12, sube_2, sube_3, sube_5, sube_8, sube_9, sube_10, rets_ok, va_rfs, true_or, or_true, or_false, false_or, sI_aload_n, sI_astore_n, sI_dup, sI_getfield, sI_iconst, sI_ifCond, sI_if_icmp, sI_invokespecial, sI_invokevirtual, sI_ireturn, sI_isub, sI_new, sI_pop, sI_putfield, ix_108_0, ix_108_1, ix_108_4, ix_108_7, ix_108_10, ix_108_21, ix_108_22, ix_108_25, ix_108_28, ix_108_29, ix_108_32, ix_108_43, ix_108_44, ix_108_45, ix_108_48, ix_108_51, ix_108_54, ix_108_57, ix_108_58, ix_108_59, ix_108_62, ix_108_65, ix_108_66, ix_108_67, ix_108_68, ix_108_71, ix_108_74, ix_108_75, ix_108_78, ix_108_79, ix_108_82, ix_108_83, ix_108_84, ix_108_87, ix_108_90, ix_108_91, ix_108_92, mC_108, mS_108, mH_108, hX, XF]
    try simp (disch := omega) only [z_lt, z_le, z_eq, z_in, z_nat, Int.toNat_natCast, upd_z, z_l, zl_0, zl_add, zl_sub, zl_mul, zl_i, zl_eq, zl_div, Int.reduceLT, Int.reduceLE, Int.reduceToNat, Nat.reduceAdd, Nat.reduceLeDiff, not_false_eq_true, true_and, and_true]
    repeat' (first | (with_reducible refine ⟨?_, ?_⟩) | (with_reducible intro _))
    all_goals try (first | exact True.intro | with_reducible rfl | exact absurd True.intro (by assumption) | omega | (exfalso; omega) | (rw [if_pos (by omega)]; done) | (rw [if_neg (by omega)]; done))
    refine R_cV ix_108_25 (by decide) (by decide) rfl (l2) rfl (s199) (Nat.le_of_ble_eq_true rfl) (by rw [mcs_199, mC_108]; omega) (by rw [mcs_199, mS_108]; omega) ?_
    simp only [mcs_199, vpu, Nat.add_zero, Nat.zero_add, Nat.reduceAdd]
    refine R_run 60 ?_
    simp only [run_s, run_0, isc, Bool.or_false, Bool.false_or, Bool.or_true, Bool.true_or, Bool.or_self, cond_false, cond_true, gl, sl, stl, stl2, c2, isw, nf, pf, lnb, tk, true_and, and_true, nsg0, nsg1, Int.cast_ofNat_Int, Int.natCast_zero, Int.natCast_one, zero_z, z_add, z_sub, z_mul, z_neg, cnd_eq, cnd_ne, cnd_lt, cnd_ge, cnd_gt, cnd_le, vok_0, vok_3r, vok_3n, vok_4, Nat.add_zero, Nat.zero_add, Nat.reduceAdd, Nat.reduceSub, Nat.reduceMod, Nat.reduceDiv, Nat.reduceEqDiff, Nat.reduceLeDiff, Nat.reduceMul, Int.reduceNeg, if_true, if_false, ite_true, ite_false, reduceIte, hup_app, Nat.add_left_cancel_iff, Nat.left_eq_add, Nat.add_eq_left, reduceCtorEq, subc_0, subc_1, subc_2, subc_3, subc_4, subc_5, subc_6, subc_7, subc_8, subc_9, subc_10, subc_11, subc_12, sube_2, sube_3, sube_5, sube_8, sube_9, sube_10, rets_ok, va_rfs, true_or, or_true, or_false, false_or, sI_aload_n, sI_astore_n, sI_dup, sI_getfield, sI_iconst, sI_ifCond, sI_if_icmp, sI_invokespecial, sI_invokevirtual, sI_ireturn, sI_isub, sI_new, sI_pop, sI_putfield, ix_108_0, ix_108_1, ix_108_4, ix_108_7, ix_108_10, ix_108_21, ix_108_22, ix_108_25, ix_108_28, ix_108_29, ix_108_32, ix_108_43, ix_108_44, ix_108_45, ix_108_48, ix_108_51, ix_108_54, ix_108_57, ix_108_58, ix_108_59, ix_108_62, ix_108_65, ix_108_66, ix_108_67, ix_108_68, ix_108_71, ix_108_74, ix_108_75, ix_108_78, ix_108_79, ix_108_82, ix_108_83, ix_108_84, ix_108_87, ix_108_90, ix_108_91, ix_108_92, mC_108, mS_108, mH_108, hX, XF]
    try simp (disch := omega) only [z_lt, z_le, z_eq, z_in, z_nat, Int.toNat_natCast, upd_z, z_l, zl_0, zl_add, zl_sub, zl_mul, zl_i, zl_eq, zl_div, Int.reduceLT, Int.reduceLE, Int.reduceToNat, Nat.reduceAdd, Nat.reduceLeDiff, not_false_eq_true, true_and, and_true]
    repeat' (first | (with_reducible refine ⟨?_, ?_⟩) | (with_reducible intro _))
    all_goals try (first | exact True.intro | with_reducible rfl | exact absurd True.intro (by assumption) | omega | (exfalso; omega) | (rw [if_pos (by omega)]; done) | (rw [if_neg (by omega)]; done))
    refine R_cV ix_108_48 (by decide) (by decide) rfl (l3) rfl (s199j) (Nat.le_of_ble_eq_true rfl) (by rw [mcs_199, mC_108]; omega) (by rw [mcs_199, mS_108]; omega) ?_
    simp only [mcs_199, vpu, Nat.add_zero, Nat.zero_add, Nat.reduceAdd]
    refine R_run 60 ?_
    simp only [run_s, run_0, isc, Bool.or_false, Bool.false_or, Bool.or_true, Bool.true_or, Bool.or_self, cond_false, cond_true, gl, sl, stl, stl2, c2, isw, nf, pf, lnb, tk, true_and, and_true, nsg0, nsg1, Int.cast_ofNat_Int, Int.natCast_zero, Int.natCast_one, zero_z, z_add, z_sub, z_mul, z_neg, cnd_eq, cnd_ne, cnd_lt, cnd_ge, cnd_gt, cnd_le, vok_0, vok_3r, vok_3n, vok_4, Nat.add_zero, Nat.zero_add, Nat.reduceAdd, Nat.reduceSub, Nat.reduceMod, Nat.reduceDiv, Nat.reduceEqDiff, Nat.reduceLeDiff, Nat.reduceMul, Int.reduceNeg, if_true, if_false, ite_true, ite_false, reduceIte, hup_app, Nat.add_left_cancel_iff, Nat.left_eq_add, Nat.add_eq_left, reduceCtorEq, subc_0, subc_1, subc_2, subc_3, subc_4, subc_5, subc_6, subc_7, subc_8, subc_9, subc_10, subc_11, subc_12, sube_2, sube_3, sube_5, sube_8, sube_9, sube_10, rets_ok, va_rfs, true_or, or_true, or_false, false_or, sI_aload_n, sI_astore_n, sI_dup, sI_getfield, sI_iconst, sI_ifCond, sI_if_icmp, sI_invokespecial, sI_invokevirtual, sI_ireturn, sI_isub, sI_new, sI_pop, sI_putfield, ix_108_0, ix_108_1, ix_108_4, ix_108_7, ix_108_10, ix_108_21, ix_108_22, ix_108_25, ix_108_28, ix_108_29, ix_108_32, ix_108_43, ix_108_44, ix_108_45, ix_108_48, ix_108_51, ix_108_54, ix_108_57, ix_108_58, ix_108_59, ix_108_62, ix_108_65, ix_108_66, ix_108_67, ix_108_68, ix_108_71, ix_108_74, ix_108_75, ix_108_78, ix_108_79, ix_108_82, ix_108_83, ix_108_84, ix_108_87, ix_108_90, ix_108_91, ix_108_92, mC_108, mS_108, mH_108, hX, XF, hxs]
    refine R_cI ix_108_62 (by decide) rfl (s53) (Nat.le_of_ble_eq_true rfl) (by rw [mcs_53, mC_108]; omega) (by rw [mcs_53, mS_108]; omega) ?_
    simp only [mcs_53, vpu, Nat.add_zero, Nat.zero_add, Nat.reduceAdd]
    refine R_run 60 ?_
    simp only [run_s, run_0, isc, Bool.or_false, Bool.false_or, Bool.or_true, Bool.true_or, Bool.or_self, cond_false, cond_true, gl, sl, stl, stl2, c2, isw, nf, pf, lnb, tk, true_and, and_true, nsg0, nsg1, Int.cast_ofNat_Int, Int.natCast_zero, Int.natCast_one, zero_z, z_add, z_sub, z_mul, z_neg, cnd_eq, cnd_ne, cnd_lt, cnd_ge, cnd_gt, cnd_le, vok_0, vok_3r, vok_3n, vok_4, Nat.add_zero, Nat.zero_add, Nat.reduceAdd, Nat.reduceSub, Nat.reduceMod, Nat.reduceDiv, Nat.reduceEqDiff, Nat.reduceLeDiff, Nat.reduceMul, Int.reduceNeg, if_true, if_false, ite_true, ite_false, reduceIte, hup_app, Nat.add_left_cancel_iff, Nat.left_eq_add, Nat.add_eq_left, reduceCtorEq, subc_0, subc_1, subc_2, subc_3, subc_4, subc_5, subc_6, subc_7, subc_8, subc_9, subc_10, subc_11, subc_12, sube_2, sube_3, sube_5, sube_8, sube_9, sube_10, rets_ok, va_rfs, true_or, or_true, or_false, false_or, sI_aload_n, sI_astore_n, sI_dup, sI_getfield, sI_iconst, sI_ifCond, sI_if_icmp, sI_invokespecial, sI_invokevirtual, sI_ireturn, sI_isub, sI_new, sI_pop, sI_putfield, ix_108_0, ix_108_1, ix_108_4, ix_108_7, ix_108_10, ix_108_21, ix_108_22, ix_108_25, ix_108_28, ix_108_29, ix_108_32, ix_108_43, ix_108_44, ix_108_45, ix_108_48, ix_108_51, ix_108_54, ix_108_57, ix_108_58, ix_108_59, ix_108_62, ix_108_65, ix_108_66, ix_108_67, ix_108_68, ix_108_71, ix_108_74, ix_108_75, ix_108_78, ix_108_79, ix_108_82, ix_108_83, ix_108_84, ix_108_87, ix_108_90, ix_108_91, ix_108_92, mC_108, mS_108, mH_108, XT, XF]
    refine R_cV ix_108_71 (by decide) (by decide) rfl (isT_0 isT_blk) rfl (s55) (Nat.le_of_ble_eq_true rfl) (by rw [mcs_55, mC_108]; omega) (by rw [mcs_55, mS_108]; omega) ?_
    simp only [mcs_55, vpu, Nat.add_zero, Nat.zero_add, Nat.reduceAdd]
    refine R_run 60 ?_
    simp only [run_s, run_0, isc, Bool.or_false, Bool.false_or, Bool.or_true, Bool.true_or, Bool.or_self, cond_false, cond_true, gl, sl, stl, stl2, c2, isw, nf, pf, lnb, tk, true_and, and_true, nsg0, nsg1, Int.cast_ofNat_Int, Int.natCast_zero, Int.natCast_one, zero_z, z_add, z_sub, z_mul, z_neg, cnd_eq, cnd_ne, cnd_lt, cnd_ge, cnd_gt, cnd_le, vok_0, vok_3r, vok_3n, vok_4, Nat.add_zero, Nat.zero_add, Nat.reduceAdd, Nat.reduceSub, Nat.reduceMod, Nat.reduceDiv, Nat.reduceEqDiff, Nat.reduceLeDiff, Nat.reduceMul, Int.reduceNeg, if_true, if_false, ite_true, ite_false, reduceIte, hup_app, Nat.add_left_cancel_iff, Nat.left_eq_add, Nat.add_eq_left, reduceCtorEq, subc_0, subc_1, subc_2, subc_3, subc_4, subc_5, subc_6, subc_7, subc_8, subc_9, subc_10, subc_11, subc_12, sube_2, sube_3, sube_5, sube_8, sube_9, sube_10, rets_ok, va_rfs, true_or, or_true, or_false, false_or, sI_aload_n, sI_astore_n, sI_dup, sI_getfield, sI_iconst, sI_ifCond, sI_if_icmp, sI_invokespecial, sI_invokevirtual, sI_ireturn, sI_isub, sI_new, sI_pop, sI_putfield, ix_108_0, ix_108_1, ix_108_4, ix_108_7, ix_108_10, ix_108_21, ix_108_22, ix_108_25, ix_108_28, ix_108_29, ix_108_32, ix_108_43, ix_108_44, ix_108_45, ix_108_48, ix_108_51, ix_108_54, ix_108_57, ix_108_58, ix_108_59, ix_108_62, ix_108_65, ix_108_66, ix_108_67, ix_108_68, ix_108_71, ix_108_74, ix_108_75, ix_108_78, ix_108_79, ix_108_82, ix_108_83, ix_108_84, ix_108_87, ix_108_90, ix_108_91, ix_108_92, mC_108, mS_108, mH_108, X3, XF]
    refine R_cV ix_108_79 (by decide) (by decide) rfl (l5) rfl (s203) (Nat.le_of_ble_eq_true rfl) (by rw [mcs_203, mC_108]; omega) (by rw [mcs_203, mS_108]; omega) ?_
    simp only [mcs_203, vpu, Nat.add_zero, Nat.zero_add, Nat.reduceAdd]
    refine R_run 60 ?_
    simp only [run_s, run_0, isc, Bool.or_false, Bool.false_or, Bool.or_true, Bool.true_or, Bool.or_self, cond_false, cond_true, gl, sl, stl, stl2, c2, isw, nf, pf, lnb, tk, true_and, and_true, nsg0, nsg1, Int.cast_ofNat_Int, Int.natCast_zero, Int.natCast_one, zero_z, z_add, z_sub, z_mul, z_neg, cnd_eq, cnd_ne, cnd_lt, cnd_ge, cnd_gt, cnd_le, vok_0, vok_3r, vok_3n, vok_4, Nat.add_zero, Nat.zero_add, Nat.reduceAdd, Nat.reduceSub, Nat.reduceMod, Nat.reduceDiv, Nat.reduceEqDiff, Nat.reduceLeDiff, Nat.reduceMul, Int.reduceNeg, if_true, if_false, ite_true, ite_false, reduceIte, hup_app, Nat.add_left_cancel_iff, Nat.left_eq_add, Nat.add_eq_left, reduceCtorEq, subc_0, subc_1, subc_2, subc_3, subc_4, subc_5, subc_6, subc_7, subc_8, subc_9, subc_10, subc_11, subc_12, sube_2, sube_3, sube_5, sube_8, sube_9, sube_10, rets_ok, va_rfs, true_or, or_true, or_false, false_or, sI_aload_n, sI_astore_n, sI_dup, sI_getfield, sI_iconst, sI_ifCond, sI_if_icmp, sI_invokespecial, sI_invokevirtual, sI_ireturn, sI_isub, sI_new, sI_pop, sI_putfield, ix_108_0, ix_108_1, ix_108_4, ix_108_7, ix_108_10, ix_108_21, ix_108_22, ix_108_25, ix_108_28, ix_108_29, ix_108_32, ix_108_43, ix_108_44, ix_108_45, ix_108_48, ix_108_51, ix_108_54, ix_108_57, ix_108_58, ix_108_59, ix_108_62, ix_108_65, ix_108_66, ix_108_67, ix_108_68, ix_108_71, ix_108_74, ix_108_75, ix_108_78, ix_108_79, ix_108_82, ix_108_83, ix_108_84, ix_108_87, ix_108_90, ix_108_91, ix_108_92, mC_108, mS_108, mH_108, X4, XF]
    refine R_cV ix_108_87 (by decide) (by decide) rfl (l4) rfl (e199) (Nat.le_of_ble_eq_true rfl) (by rw [mcs_199, mC_108]; omega) (by rw [mcs_199, mS_108]; omega) ?_
    simp only [mcs_199, vpu, Nat.add_zero, Nat.zero_add, Nat.reduceAdd]
    refine R_run 60 ?_
    simp only [run_s, run_0, isc, Bool.or_false, Bool.false_or, Bool.or_true, Bool.true_or, Bool.or_self, cond_false, cond_true, gl, sl, stl, stl2, c2, isw, nf, pf, lnb, tk, true_and, and_true, nsg0, nsg1, Int.cast_ofNat_Int, Int.natCast_zero, Int.natCast_one, zero_z, z_add, z_sub, z_mul, z_neg, cnd_eq, cnd_ne, cnd_lt, cnd_ge, cnd_gt, cnd_le, vok_0, vok_3r, vok_3n, vok_4, Nat.add_zero, Nat.zero_add, Nat.reduceAdd, Nat.reduceSub, Nat.reduceMod, Nat.reduceDiv, Nat.reduceEqDiff, Nat.reduceLeDiff, Nat.reduceMul, Int.reduceNeg, if_true, if_false, ite_true, ite_false, reduceIte, hup_app, Nat.add_left_cancel_iff, Nat.left_eq_add, Nat.add_eq_left, reduceCtorEq, subc_0, subc_1, subc_2, subc_3, subc_4, subc_5, subc_6, subc_7, subc_8, subc_9, subc_10, subc_11, subc_12, sube_2, sube_3, sube_5, sube_8, sube_9, sube_10, rets_ok, va_rfs, true_or, or_true, or_false, false_or, sI_aload_n, sI_astore_n, sI_dup, sI_getfield, sI_iconst, sI_ifCond, sI_if_icmp, sI_invokespecial, sI_invokevirtual, sI_ireturn, sI_isub, sI_new, sI_pop, sI_putfield, ix_108_0, ix_108_1, ix_108_4, ix_108_7, ix_108_10, ix_108_21, ix_108_22, ix_108_25, ix_108_28, ix_108_29, ix_108_32, ix_108_43, ix_108_44, ix_108_45, ix_108_48, ix_108_51, ix_108_54, ix_108_57, ix_108_58, ix_108_59, ix_108_62, ix_108_65, ix_108_66, ix_108_67, ix_108_68, ix_108_71, ix_108_74, ix_108_75, ix_108_78, ix_108_79, ix_108_82, ix_108_83, ix_108_84, ix_108_87, ix_108_90, ix_108_91, ix_108_92, mC_108, mS_108, mH_108]
    try simp (disch := omega) only [z_lt, z_le, z_eq, z_in, z_nat, Int.toNat_natCast, upd_z, z_l, zl_0, zl_add, zl_sub, zl_mul, zl_i, zl_eq, zl_div, Int.reduceLT, Int.reduceLE, Int.reduceToNat, Nat.reduceAdd, Nat.reduceLeDiff, not_false_eq_true, true_and, and_true]
    repeat' (first | (with_reducible refine ⟨?_, ?_⟩) | (with_reducible intro _))
    all_goals try (first | exact True.intro | with_reducible rfl | exact absurd True.intro (by assumption) | omega | (exfalso; omega) | (rw [if_pos (by omega)]; done) | (rw [if_neg (by omega)]; done))
    rw [Int.add_sub_cancel]
  · rw [f' q q1 q2, blk_out (by omega), hup_ne _ _ (by omega), hup_ne _ _ (by omega)]
end CKP
