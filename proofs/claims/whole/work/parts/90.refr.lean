/-! ===== the reference crashes ===== -/
section REN8
variable {E : EX} {d : Nat} {h : AH} {sz m g : Nat} {H : HT} {nh : Nat} {J : GS} {n fl : Nat} {cu : Nat → Nat} {nc : Nat} {rf uf ue : Int} {N : TT} {M M' : GS}
/- what the entries don't touch -/
def keeR (M M' : GS) : Prop := (∀ r, 1 ≤ r → r ≤ 11 → M' r = M r) ∧ (∀ k, k ≠ 16 → k ≠ 38 → M' 0 k = M 0 k)
set_option maxRecDepth 16384 in
theorem crs_r {cnt : Int} (hH : hsOK H nh) (hJ : vJ H nh J fl) (hf : fl ≤ 400) (hr : rHs H nh M) (h07 : M 0 7 = fl) (hj : ∀ k, k < fl → M 6 k = J k 0 ∧ M 7 k = J k 1 ∧ M 8 k = J k 2 ∧ M 9 k = J k 3 ∧ M 10 k = J k 4) : ∀ (mm k : Nat) (Mk : GS), k + mm = fl → rTs H (At H J k) Mk → oJ H J k Mk → keeR M Mk → ∃ M', rTs H (At H J fl) M' ∧ oJ H J fl M' ∧ keeR M M' ∧ Rr E (mcsT mtab) (Sp E (d + 20)) (d + 20) mi_181 (rets (some (.int (z cnt))) (mh h m M') sz) 56 [some (.ref m), some (.int (z cnt)), some (.int (z (k : Int)))] [] (mh h m Mk) sz 0 0 := by
  intro mm
  induction mm with
  | zero =>
    intro k Mk hk hT ho hs
    have hkf : k = fl := by omega
    subst hkf
    refine ⟨Mk, hT, ho, hs, ?_⟩
    have e7 : Mk 0 7 = k := by rw [hs.2 7 (by decide) (by decide), h07]
    refine R_hd ix_181_56 60 ?_
    simp only [run_s, run_0, isc, Bool.or_false, Bool.false_or, Bool.or_true, Bool.true_or, Bool.or_self, cond_false, cond_true, gl, sl, stl, stl2, c2, isw, nf, pf, lnb, tk, true_and, and_true, nsg0, nsg1, Int.cast_ofNat_Int, Int.natCast_zero, Int.natCast_one, zero_z, z_add, z_sub, z_mul, z_neg, cnd_eq, cnd_ne, cnd_lt, cnd_ge, cnd_gt, cnd_le, vok_0, vok_3r, vok_3n, vok_4, Nat.add_zero, Nat.zero_add, Nat.reduceAdd, Nat.reduceSub, Nat.reduceMod, Nat.reduceDiv, Nat.reduceEqDiff, Nat.reduceLeDiff, Nat.reduceMul, Int.reduceNeg, if_true, if_false, ite_true, ite_false, reduceIte, hup_app, Nat.add_left_cancel_iff, Nat.left_eq_add, Nat.add_eq_left, reduceCtorEq, subc_0, subc_1, subc_2, subc_3, subc_4, subc_5, subc_6, subc_7, subc_8, subc_9, subc_10, subc_11, subc_12, sube_2, sube_3, sube_5, sube_8, sube_9, sube_10, rets_ok, va_rfs, true_or, or_true, or_false, false_or, sI_aload_n, sI_bipush, sI_getfield, sI_goto, sI_iastore, sI_iconst, sI_if_icmp, sI_iinc, sI_iload_n, sI_invokevirtual, sI_ireturn, sI_istore_n, sI_isub, sI_putfield, ix_181_0, ix_181_1, ix_181_2, ix_181_5, ix_181_6, ix_181_9, ix_181_10, ix_181_13, ix_181_14, ix_181_15, ix_181_16, ix_181_17, ix_181_20, ix_181_23, ix_181_24, ix_181_25, ix_181_28, ix_181_29, ix_181_30, ix_181_33, ix_181_34, ix_181_35, ix_181_36, ix_181_37, ix_181_40, ix_181_41, ix_181_44, ix_181_45, ix_181_47, ix_181_48, ix_181_51, ix_181_54, ix_181_55, ix_181_56, ix_181_57, ix_181_58, ix_181_61, ix_181_64, ix_181_65, ix_181_66, ix_181_69, ix_181_72, ix_181_75, ix_181_76, mC_181, mS_181, mH_181, sr_at, mr_0, mn_7, mn_8, mn_37, mr_32, mp_0, ml_0, mp_7, ml_7, mp_16, ml_16, mp_38, ml_38, mw_0, mw_32, upd_z, e7]
    try simp (disch := omega) only [z_lt, z_le, z_eq, z_in, z_nat, Int.toNat_natCast, upd_z, z_l, zl_0, zl_add, zl_sub, zl_mul, zl_i, zl_eq, zl_div, Int.reduceLT, Int.reduceLE, Int.reduceToNat, Nat.reduceAdd, Nat.reduceLeDiff, not_false_eq_true, true_and, and_true]
    repeat' (first | (with_reducible refine ⟨?_, ?_⟩) | (with_reducible intro _))
    all_goals try (first | exact True.intro | with_reducible rfl | exact absurd True.intro (by assumption) | omega | (exfalso; omega) | (rw [if_pos (by omega)]; done) | (rw [if_neg (by omega)]; done))
  | succ mm ih =>
    intro k Mk hk hT ho hs
    have hAv := At_v hH k (vJ_le hJ (by omega))
    have hv := hJ k (by omega)
    have e7 : Mk 0 7 = fl := by rw [hs.2 7 (by decide) (by decide), h07]
    have hjk := hj k (by omega)
    obtain ⟨M2, s136, st⟩ := does_v (E := E) (d := d + 13) (h := h) (sz := sz) (m := m) (M := Mk) (k := k) hH hAv.1 hAv.2 hv (fun i hi => by
      rw [hs.1 1 (by omega) (by omega), hs.1 2 (by omega) (by omega), hs.1 3 (by omega) (by omega), hs.1 4 (by omega) (by omega), hs.1 5 (by omega) (by omega)]
      exact hr i hi) hT (by omega) (by
      rw [hs.1 6 (by omega) (by omega), hs.1 7 (by omega) (by omega), hs.1 8 (by omega) (by omega), hs.1 9 (by omega) (by omega), hs.1 10 (by omega) (by omega)]
      exact hjk)
    have hs2 : keeR M M2 := ⟨fun r a b => by rw [st.1.2.1 r a b, hs.1 r a b], fun j a b => by rw [st.1.2.2.1 j a b, hs.2 j a b]⟩
    obtain ⟨M', r1, r2, r3, r4⟩ := ih (k + 1) M2 (by omega) (stp_T hH hAv.1 hv hT st) (oJ_s hH (vJ_le hJ (by omega)) tEq_r st ho) hs2
    refine ⟨M', r1, r2, r3, ?_⟩
    rw [show ((k + 1 : Nat) : Int) = (k : Int) + 1 by omega] at r4
    refine R_hd ix_181_56 60 ?_
    simp only [run_s, run_0, isc, Bool.or_false, Bool.false_or, Bool.or_true, Bool.true_or, Bool.or_self, cond_false, cond_true, gl, sl, stl, stl2, c2, isw, nf, pf, lnb, tk, true_and, and_true, nsg0, nsg1, Int.cast_ofNat_Int, Int.natCast_zero, Int.natCast_one, zero_z, z_add, z_sub, z_mul, z_neg, cnd_eq, cnd_ne, cnd_lt, cnd_ge, cnd_gt, cnd_le, vok_0, vok_3r, vok_3n, vok_4, Nat.add_zero, Nat.zero_add, Nat.reduceAdd, Nat.reduceSub, Nat.reduceMod, Nat.reduceDiv, Nat.reduceEqDiff, Nat.reduceLeDiff, Nat.reduceMul, Int.reduceNeg, if_true, if_false, ite_true, ite_false, reduceIte, hup_app, Nat.add_left_cancel_iff, Nat.left_eq_add, Nat.add_eq_left, reduceCtorEq, subc_0, subc_1, subc_2, subc_3, subc_4, subc_5, subc_6, subc_7, subc_8, subc_9, subc_10, subc_11, subc_12, sube_2, sube_3, sube_5, sube_8, sube_9, sube_10, rets_ok, va_rfs, true_or, or_true, or_false, false_or, sI_aload_n, sI_bipush, sI_getfield, sI_goto, sI_iastore, sI_iconst, sI_if_icmp, sI_iinc, sI_iload_n, sI_invokevirtual, sI_ireturn, sI_istore_n, sI_isub, sI_putfield, ix_181_0, ix_181_1, ix_181_2, ix_181_5, ix_181_6, ix_181_9, ix_181_10, ix_181_13, ix_181_14, ix_181_15, ix_181_16, ix_181_17, ix_181_20, ix_181_23, ix_181_24, ix_181_25, ix_181_28, ix_181_29, ix_181_30, ix_181_33, ix_181_34, ix_181_35, ix_181_36, ix_181_37, ix_181_40, ix_181_41, ix_181_44, ix_181_45, ix_181_47, ix_181_48, ix_181_51, ix_181_54, ix_181_55, ix_181_56, ix_181_57, ix_181_58, ix_181_61, ix_181_64, ix_181_65, ix_181_66, ix_181_69, ix_181_72, ix_181_75, ix_181_76, mC_181, mS_181, mH_181, sr_at, mr_0, mn_7, mn_8, mn_37, mr_32, mp_0, ml_0, mp_7, ml_7, mp_16, ml_16, mp_38, ml_38, mw_0, mw_32, upd_z, e7]
    try simp (disch := omega) only [z_lt, z_le, z_eq, z_in, z_nat, Int.toNat_natCast, upd_z, z_l, zl_0, zl_add, zl_sub, zl_mul, zl_i, zl_eq, zl_div, Int.reduceLT, Int.reduceLE, Int.reduceToNat, Nat.reduceAdd, Nat.reduceLeDiff, not_false_eq_true, true_and, and_true]
    repeat' (first | (with_reducible refine ⟨?_, ?_⟩) | (with_reducible intro _))
    all_goals try (first | exact True.intro | with_reducible rfl | exact absurd True.intro (by assumption) | omega | (exfalso; omega) | (rw [if_pos (by omega)]; done) | (rw [if_neg (by omega)]; done))
    refine R_cV ix_181_66 (by decide) (by decide) rfl (mr_0) rfl (s136) (Nat.le_of_ble_eq_true rfl) (by rw [mcs_136, mC_181]; omega) (by rw [mcs_136, mS_181]; omega) ?_
    simp only [mcs_136, vpu, Nat.add_zero, Nat.zero_add, Nat.reduceAdd]
    refine R_run 60 ?_
    simp only [run_s, run_0, isc, Bool.or_false, Bool.false_or, Bool.or_true, Bool.true_or, Bool.or_self, cond_false, cond_true, gl, sl, stl, stl2, c2, isw, nf, pf, lnb, tk, true_and, and_true, nsg0, nsg1, Int.cast_ofNat_Int, Int.natCast_zero, Int.natCast_one, zero_z, z_add, z_sub, z_mul, z_neg, cnd_eq, cnd_ne, cnd_lt, cnd_ge, cnd_gt, cnd_le, vok_0, vok_3r, vok_3n, vok_4, Nat.add_zero, Nat.zero_add, Nat.reduceAdd, Nat.reduceSub, Nat.reduceMod, Nat.reduceDiv, Nat.reduceEqDiff, Nat.reduceLeDiff, Nat.reduceMul, Int.reduceNeg, if_true, if_false, ite_true, ite_false, reduceIte, hup_app, Nat.add_left_cancel_iff, Nat.left_eq_add, Nat.add_eq_left, reduceCtorEq, subc_0, subc_1, subc_2, subc_3, subc_4, subc_5, subc_6, subc_7, subc_8, subc_9, subc_10, subc_11, subc_12, sube_2, sube_3, sube_5, sube_8, sube_9, sube_10, rets_ok, va_rfs, true_or, or_true, or_false, false_or, sI_aload_n, sI_bipush, sI_getfield, sI_goto, sI_iastore, sI_iconst, sI_if_icmp, sI_iinc, sI_iload_n, sI_invokevirtual, sI_ireturn, sI_istore_n, sI_isub, sI_putfield, ix_181_0, ix_181_1, ix_181_2, ix_181_5, ix_181_6, ix_181_9, ix_181_10, ix_181_13, ix_181_14, ix_181_15, ix_181_16, ix_181_17, ix_181_20, ix_181_23, ix_181_24, ix_181_25, ix_181_28, ix_181_29, ix_181_30, ix_181_33, ix_181_34, ix_181_35, ix_181_36, ix_181_37, ix_181_40, ix_181_41, ix_181_44, ix_181_45, ix_181_47, ix_181_48, ix_181_51, ix_181_54, ix_181_55, ix_181_56, ix_181_57, ix_181_58, ix_181_61, ix_181_64, ix_181_65, ix_181_66, ix_181_69, ix_181_72, ix_181_75, ix_181_76, mC_181, mS_181, mH_181, sr_at, mr_0, mn_7, mn_8, mn_37, mr_32, mp_0, ml_0, mp_7, ml_7, mp_16, ml_16, mp_38, ml_38, mw_0, mw_32, upd_z]
    try simp (disch := omega) only [z_lt, z_le, z_eq, z_in, z_nat, Int.toNat_natCast, upd_z, z_l, zl_0, zl_add, zl_sub, zl_mul, zl_i, zl_eq, zl_div, Int.reduceLT, Int.reduceLE, Int.reduceToNat, Nat.reduceAdd, Nat.reduceLeDiff, not_false_eq_true, true_and, and_true]
    repeat' (first | (with_reducible refine ⟨?_, ?_⟩) | (with_reducible intro _))
    all_goals try (first | exact True.intro | with_reducible rfl | exact absurd True.intro (by assumption) | omega | (exfalso; omega) | (rw [if_pos (by omega)]; done) | (rw [if_neg (by omega)]; done) | exact r4)
set_option maxRecDepth 16384 in
theorem m_181 {N' : TT} (hS : sC H nh J n fl cu nc rf uf ue) (k : rC H nh J n fl cu nc rf uf ue N M) (q' : tEq H (At H J fl) N') : ∃ M', Sp E (d + 21) 181 [.ref m] (mh h m M) sz (rets (some (.int (z ((n : Int) - fl)))) (mh h m M') sz) ∧ rC H nh J fl fl cu nc rf uf ue N' M' ∧ M' 0 0 = 0 := by
  obtain ⟨⟨k1, k2, k3, k4⟩, ⟨w1, w2, w3⟩, k5, k6, k7, k8, k9⟩ := k
  have hn := hS.2.2.1
  have hfl := hS.2.2.2.1
  have hJ := vJ_le hS.2.1 hfl
  obtain ⟨MA, eA⟩ : ∃ MA, MA = sr M 0 (st1 (st1 (st1 (st1 (M 0) 0 0) 7 fl) 16 0) 38 0) := ⟨_, rfl⟩
  obtain ⟨MB', eB⟩ : ∃ MB', MB' = sr MA 32 (cp 4 (fun _ => 100) (M 32)) := ⟨_, rfl⟩
  have a32 : MA 32 = M 32 := by rw [eA]; rfl
  have b0 : MB' 0 = MA 0 := by rw [eB]; rfl
  have br : ∀ r, r ≠ 0 → r ≠ 32 → MB' r = M r := fun r x y => by rw [eB, eA, sr_ne y, sr_ne x]
  have c7 : MB' 0 7 = fl := by rw [b0, eA]; show st1 (st1 (st1 (st1 (M 0) 0 0) 7 (fl : Int)) 16 0) 38 0 7 = _; rfl
  have co : ∀ j, j ≠ 0 → j ≠ 7 → j ≠ 16 → j ≠ 38 → MB' 0 j = M 0 j := fun j x1 x2 x3 x4 => by
    rw [b0, eA]
    show st1 (st1 (st1 (st1 (M 0) 0 0) 7 (fl : Int)) 16 0) 38 0 j = _
    unfold st1
    rw [if_neg x4, if_neg x3, if_neg x2, if_neg x1]
  have T0' : rTs H (At H J 0) MB' := by
    refine ⟨by rw [b0, eA]; rfl, by rw [b0, eA]; rfl, fun b hb => ?_, fun i hi => absurd (show (i : Int) < 0 from hi) (by omega)⟩
    rw [eB]
    show cp 4 (fun _ => 100) (M 32) b = cp 4 (fun _ => 100) (fun _ => 0) b
    unfold cp
    rw [if_pos hb, if_pos hb]
  obtain ⟨M', r1, r2, r3, r4⟩ := crs_r (E := E) (d := d) (h := h) (sz := sz) (m := m) (M := MB') (cnt := (n : Int) - fl) hS.1 hJ (by omega) (fun i hi => by
    rw [br 1 (by decide) (by decide), br 2 (by decide) (by decide), br 3 (by decide) (by decide), br 4 (by decide) (by decide), br 5 (by decide) (by decide)]
    exact k5 i hi) c7 (fun j hj => by
    rw [br 6 (by decide) (by decide), br 7 (by decide) (by decide), br 8 (by decide) (by decide), br 9 (by decide) (by decide), br 10 (by decide) (by decide)]
    exact k6 j (by omega)) fl 0 MB' (by omega) T0' oJ_0 ⟨fun _ _ _ => rfl, fun _ _ _ => rfl⟩
  have z0 : ∀ j, j ≠ 0 → j ≠ 7 → j ≠ 16 → j ≠ 38 → M' 0 j = M 0 j := fun j x1 x2 x3 x4 => by rw [r3.2 j x3 x4, co j x1 x2 x3 x4]
  have zr : ∀ r, 1 ≤ r → r ≤ 11 → M' r = M r := fun r x1 x2 => by rw [r3.1 r x1 x2, br r (by omega) (by omega)]
  refine ⟨M', ?_, ⟨⟨by rw [z0 1 (by decide) (by decide) (by decide) (by decide), k1], by rw [r3.2 7 (by decide) (by decide), c7], by rw [z0 8 (by decide) (by decide) (by decide) (by decide), k3], by rw [z0 14 (by decide) (by decide) (by decide) (by decide), k4]⟩, ?_, fun i hi => ?_, fun j hj => ?_, fun c hc => ?_, rT_e hS.1 (At_v hS.1 fl hJ).1 q' r1, r2⟩, ?_⟩
  · have e32 : ∀ j, sr MA 32 (cp j (fun _ => 100) (M 32)) 0 = MA 0 := fun j => rfl
    refine ⟨mi_181, mt_181, Nat.le_of_ble_eq_true rfl, ?_⟩
    change Rr _ _ _ _ mi_181 _ 0 [some (.ref m), none, none] [] _ _ 0 0
    refine R_run 60 ?_
    simp only [run_s, run_0, isc, Bool.or_false, Bool.false_or, Bool.or_true, Bool.true_or, Bool.or_self, cond_false, cond_true, gl, sl, stl, stl2, c2, isw, nf, pf, lnb, tk, true_and, and_true, nsg0, nsg1, Int.cast_ofNat_Int, Int.natCast_zero, Int.natCast_one, zero_z, z_add, z_sub, z_mul, z_neg, cnd_eq, cnd_ne, cnd_lt, cnd_ge, cnd_gt, cnd_le, vok_0, vok_3r, vok_3n, vok_4, Nat.add_zero, Nat.zero_add, Nat.reduceAdd, Nat.reduceSub, Nat.reduceMod, Nat.reduceDiv, Nat.reduceEqDiff, Nat.reduceLeDiff, Nat.reduceMul, Int.reduceNeg, if_true, if_false, ite_true, ite_false, reduceIte, hup_app, Nat.add_left_cancel_iff, Nat.left_eq_add, Nat.add_eq_left, reduceCtorEq, subc_0, subc_1, subc_2, subc_3, subc_4, subc_5, subc_6, subc_7, subc_8, subc_9, subc_10, subc_11, subc_12, sube_2, sube_3, sube_5, sube_8, sube_9, sube_10, rets_ok, va_rfs, true_or, or_true, or_false, false_or, sI_aload_n, sI_bipush, sI_getfield, sI_goto, sI_iastore, sI_iconst, sI_if_icmp, sI_iinc, sI_iload_n, sI_invokevirtual, sI_ireturn, sI_istore_n, sI_isub, sI_putfield, ix_181_0, ix_181_1, ix_181_2, ix_181_5, ix_181_6, ix_181_9, ix_181_10, ix_181_13, ix_181_14, ix_181_15, ix_181_16, ix_181_17, ix_181_20, ix_181_23, ix_181_24, ix_181_25, ix_181_28, ix_181_29, ix_181_30, ix_181_33, ix_181_34, ix_181_35, ix_181_36, ix_181_37, ix_181_40, ix_181_41, ix_181_44, ix_181_45, ix_181_47, ix_181_48, ix_181_51, ix_181_54, ix_181_55, ix_181_56, ix_181_57, ix_181_58, ix_181_61, ix_181_64, ix_181_65, ix_181_66, ix_181_69, ix_181_72, ix_181_75, ix_181_76, mC_181, mS_181, mH_181, sr_at, mr_0, mn_7, mn_8, mn_37, mr_32, mp_0, ml_0, mp_7, ml_7, mp_16, ml_16, mp_38, ml_38, mw_0, mw_32, upd_z, st1_at, k2, k3]
    try simp (disch := omega) only [z_lt, z_le, z_eq, z_in, z_nat, Int.toNat_natCast, upd_z, z_l, zl_0, zl_add, zl_sub, zl_mul, zl_i, zl_eq, zl_div, Int.reduceLT, Int.reduceLE, Int.reduceToNat, Nat.reduceAdd, Nat.reduceLeDiff, not_false_eq_true, true_and, and_true]
    refine R_heap (h := mh h m (sr MA 32 (cp 0 (fun _ => 100) (M 32)))) ?_ ?_
    · have : sr MA 32 (cp 0 (fun _ => 100) (M 32)) = MA := by
        rw [show cp 0 (fun _ => 100) (M 32) = MA 32 from by rw [a32]; funext j; exact if_neg (by omega)]
        exact sr_self MA 32
      rw [this, eA]
      rfl
    refine loop_up (P := fun j => Rr E (mcsT mtab) (Sp E (d + 20)) (d + 20) mi_181 (rets (some (.int (z ((n : Int) - fl)))) (mh h m M') sz) 35 [some (.ref m), some (.int (z ((n : Int) - fl))), some (.int (z (j : Int)))] [] (mh h m (sr MA 32 (cp j (fun _ => 100) (M 32)))) sz 0 0) (n := 4) ?_ (fun j hj ih => ?_) 0 (Nat.zero_le _)
    · rw [eB] at r4
      refine R_hd ix_181_35 60 ?_
      simp only [run_s, run_0, isc, Bool.or_false, Bool.false_or, Bool.or_true, Bool.true_or, Bool.or_self, cond_false, cond_true, gl, sl, stl, stl2, c2, isw, nf, pf, lnb, tk, true_and, and_true, nsg0, nsg1, Int.cast_ofNat_Int, Int.natCast_zero, Int.natCast_one, zero_z, z_add, z_sub, z_mul, z_neg, cnd_eq, cnd_ne, cnd_lt, cnd_ge, cnd_gt, cnd_le, vok_0, vok_3r, vok_3n, vok_4, Nat.add_zero, Nat.zero_add, Nat.reduceAdd, Nat.reduceSub, Nat.reduceMod, Nat.reduceDiv, Nat.reduceEqDiff, Nat.reduceLeDiff, Nat.reduceMul, Int.reduceNeg, if_true, if_false, ite_true, ite_false, reduceIte, hup_app, Nat.add_left_cancel_iff, Nat.left_eq_add, Nat.add_eq_left, reduceCtorEq, subc_0, subc_1, subc_2, subc_3, subc_4, subc_5, subc_6, subc_7, subc_8, subc_9, subc_10, subc_11, subc_12, sube_2, sube_3, sube_5, sube_8, sube_9, sube_10, rets_ok, va_rfs, true_or, or_true, or_false, false_or, sI_aload_n, sI_bipush, sI_getfield, sI_goto, sI_iastore, sI_iconst, sI_if_icmp, sI_iinc, sI_iload_n, sI_invokevirtual, sI_ireturn, sI_istore_n, sI_isub, sI_putfield, ix_181_0, ix_181_1, ix_181_2, ix_181_5, ix_181_6, ix_181_9, ix_181_10, ix_181_13, ix_181_14, ix_181_15, ix_181_16, ix_181_17, ix_181_20, ix_181_23, ix_181_24, ix_181_25, ix_181_28, ix_181_29, ix_181_30, ix_181_33, ix_181_34, ix_181_35, ix_181_36, ix_181_37, ix_181_40, ix_181_41, ix_181_44, ix_181_45, ix_181_47, ix_181_48, ix_181_51, ix_181_54, ix_181_55, ix_181_56, ix_181_57, ix_181_58, ix_181_61, ix_181_64, ix_181_65, ix_181_66, ix_181_69, ix_181_72, ix_181_75, ix_181_76, mC_181, mS_181, mH_181, sr_at, mr_0, mn_7, mn_8, mn_37, mr_32, mp_0, ml_0, mp_7, ml_7, mp_16, ml_16, mp_38, ml_38, mw_0, mw_32, upd_z]
      try simp (disch := omega) only [z_lt, z_le, z_eq, z_in, z_nat, Int.toNat_natCast, upd_z, z_l, zl_0, zl_add, zl_sub, zl_mul, zl_i, zl_eq, zl_div, Int.reduceLT, Int.reduceLE, Int.reduceToNat, Nat.reduceAdd, Nat.reduceLeDiff, not_false_eq_true, true_and, and_true]
      repeat' (first | (with_reducible refine ⟨?_, ?_⟩) | (with_reducible intro _))
      all_goals try (first | exact True.intro | with_reducible rfl | exact absurd True.intro (by assumption) | omega | (exfalso; omega) | (rw [if_pos (by omega)]; done) | (rw [if_neg (by omega)]; done) | exact r4)
    · rw [show ((j + 1 : Nat) : Int) = (j : Int) + 1 by omega, ← cp_s] at ih
      refine R_hd ix_181_35 60 ?_
      simp only [run_s, run_0, isc, Bool.or_false, Bool.false_or, Bool.or_true, Bool.true_or, Bool.or_self, cond_false, cond_true, gl, sl, stl, stl2, c2, isw, nf, pf, lnb, tk, true_and, and_true, nsg0, nsg1, Int.cast_ofNat_Int, Int.natCast_zero, Int.natCast_one, zero_z, z_add, z_sub, z_mul, z_neg, cnd_eq, cnd_ne, cnd_lt, cnd_ge, cnd_gt, cnd_le, vok_0, vok_3r, vok_3n, vok_4, Nat.add_zero, Nat.zero_add, Nat.reduceAdd, Nat.reduceSub, Nat.reduceMod, Nat.reduceDiv, Nat.reduceEqDiff, Nat.reduceLeDiff, Nat.reduceMul, Int.reduceNeg, if_true, if_false, ite_true, ite_false, reduceIte, hup_app, Nat.add_left_cancel_iff, Nat.left_eq_add, Nat.add_eq_left, reduceCtorEq, subc_0, subc_1, subc_2, subc_3, subc_4, subc_5, subc_6, subc_7, subc_8, subc_9, subc_10, subc_11, subc_12, sube_2, sube_3, sube_5, sube_8, sube_9, sube_10, rets_ok, va_rfs, true_or, or_true, or_false, false_or, sI_aload_n, sI_bipush, sI_getfield, sI_goto, sI_iastore, sI_iconst, sI_if_icmp, sI_iinc, sI_iload_n, sI_invokevirtual, sI_ireturn, sI_istore_n, sI_isub, sI_putfield, ix_181_0, ix_181_1, ix_181_2, ix_181_5, ix_181_6, ix_181_9, ix_181_10, ix_181_13, ix_181_14, ix_181_15, ix_181_16, ix_181_17, ix_181_20, ix_181_23, ix_181_24, ix_181_25, ix_181_28, ix_181_29, ix_181_30, ix_181_33, ix_181_34, ix_181_35, ix_181_36, ix_181_37, ix_181_40, ix_181_41, ix_181_44, ix_181_45, ix_181_47, ix_181_48, ix_181_51, ix_181_54, ix_181_55, ix_181_56, ix_181_57, ix_181_58, ix_181_61, ix_181_64, ix_181_65, ix_181_66, ix_181_69, ix_181_72, ix_181_75, ix_181_76, mC_181, mS_181, mH_181, sr_at, mr_0, mn_7, mn_8, mn_37, mr_32, mp_0, ml_0, mp_7, ml_7, mp_16, ml_16, mp_38, ml_38, mw_0, mw_32, upd_z, mw_0, mw_1, mw_2, mw_3, mw_4, mw_5, mw_6, mw_7, mw_8, mw_9, mw_10, mw_11, mw_12, mw_13, mw_14, mw_15, mw_16, mw_17, mw_18, mw_19, mw_20, mw_21, mw_22, mw_23, mw_24, mw_25, mw_26, mw_27, mw_28, mw_29, mw_30, mw_31, mw_32, sr_at, Nat.reduceEqDiff, if_false, if_true, st1_eq]
      try simp (disch := omega) only [z_lt, z_le, z_eq, z_in, z_nat, Int.toNat_natCast, upd_z, z_l, zl_0, zl_add, zl_sub, zl_mul, zl_i, zl_eq, zl_div, Int.reduceLT, Int.reduceLE, Int.reduceToNat, Nat.reduceAdd, Nat.reduceLeDiff, not_false_eq_true, true_and, and_true, mw_0, mw_1, mw_2, mw_3, mw_4, mw_5, mw_6, mw_7, mw_8, mw_9, mw_10, mw_11, mw_12, mw_13, mw_14, mw_15, mw_16, mw_17, mw_18, mw_19, mw_20, mw_21, mw_22, mw_23, mw_24, mw_25, mw_26, mw_27, mw_28, mw_29, mw_30, mw_31, mw_32, sr_at, Nat.reduceEqDiff, if_false, if_true, st1_eq]
      repeat' (first | (with_reducible refine ⟨?_, ?_⟩) | (with_reducible intro _))
      all_goals try (first | exact True.intro | with_reducible rfl | exact absurd True.intro (by assumption) | omega | (exfalso; omega) | (rw [if_pos (by omega)]; done) | (rw [if_neg (by omega)]; done) | exact ih)
  · rw [show whyR rf uf ue M' ↔ _ from Iff.rfl]
    refine ⟨?_, ?_, ?_⟩
    · rw [z0 39 (by decide) (by decide) (by decide) (by decide), z0 40 (by decide) (by decide) (by decide) (by decide)]; exact w1
    · rw [z0 39 (by decide) (by decide) (by decide) (by decide), z0 40 (by decide) (by decide) (by decide) (by decide)]; exact w2
    · rw [z0 39 (by decide) (by decide) (by decide) (by decide), z0 40 (by decide) (by decide) (by decide) (by decide)]; exact w3
  · rw [zr 1 (by decide) (by decide), zr 2 (by decide) (by decide), zr 3 (by decide) (by decide), zr 4 (by decide) (by decide), zr 5 (by decide) (by decide)]
    exact k5 i hi
  · rw [zr 6 (by decide) (by decide), zr 7 (by decide) (by decide), zr 8 (by decide) (by decide), zr 9 (by decide) (by decide), zr 10 (by decide) (by decide)]
    exact k6 j (by omega)
  · rw [zr 11 (by decide) (by decide)]
    exact k7 c hc
  · rw [r3.2 0 (by decide) (by decide), b0, eA]
    rfl
end REN8
