/-! ===== the reference: rulings, payments, what can be laid ===== -/
theorem sumTo_c {f g : Nat → Int} : ∀ n : Nat, (∀ k, k < n → f k = g k) → sumTo f n = sumTo g n := by
  intro n
  induction n with
  | zero => intro _; rfl
  | succ n ih =>
    intro h
    show sumTo f n + f n = sumTo g n + g n
    rw [ih (fun k hk => h k (by omega)), h n (by omega)]
theorem sumTo_nn {f : Nat → Int} : ∀ n : Nat, (∀ k, k < n → 0 ≤ f k) → 0 ≤ sumTo f n := by
  intro n
  induction n with
  | zero => intro _; exact Int.le_refl _
  | succ n ih =>
    intro h
    have h1 := ih (fun k hk => h k (by omega))
    have h2 := h n (by omega)
    show 0 ≤ sumTo f n + f n
    omega
theorem sumTo_le {f g : Nat → Int} : ∀ n : Nat, (∀ k, k < n → f k ≤ g k) → sumTo f n ≤ sumTo g n := by
  intro n
  induction n with
  | zero => intro _; exact Int.le_refl _
  | succ n ih =>
    intro h
    have h1 := ih (fun k hk => h k (by omega))
    have h2 := h n (by omega)
    show sumTo f n + f n ≤ sumTo g n + g n
    omega
theorem sumTo_one {f : Nat → Int} {n k : Nat} (hk : k < n) (h : ∀ k, k < n → 0 ≤ f k) : f k ≤ sumTo f n := by
  induction n with
  | zero => omega
  | succ n ih =>
    show f k ≤ sumTo f n + f n
    have h2 := h n (by omega)
    have h3 := sumTo_nn n (fun k hk => h k (by omega))
    by_cases hkn : k = n
    · subst hkn; omega
    · have := ih (by omega) (fun k hk => h k (by omega)); omega
theorem high_le {p t : Nat} (hp : p < 7) (ht : t < szN p) : lowN p t ≤ p ∧ highN p t ≤ p := by
  obtain ⟨a1, a3, a4, a5⟩ := low_ok2 p hp t ht
  omega
theorem pipQ_b {p m : Nat} (hp : p < 7) : ∀ n, n ≤ szN p → 0 ≤ pipQ p m n ∧ pipQ p m n ≤ 12 * n := by
  intro n
  induction n with
  | zero => intro _; exact ⟨Int.le_refl _, Int.le_refl _⟩
  | succ n ih =>
    intro hn
    have h1 := ih (by omega)
    have h2 := high_le (t := n) hp (by omega)
    show 0 ≤ pipQ p m n + (if m.testBit n = true then ((lowN p n : Nat) : Int) + ((highN p n : Nat) : Int) else 0) ∧ pipQ p m n + (if m.testBit n = true then ((lowN p n : Nat) : Int) + ((highN p n : Nat) : Int) else 0) ≤ _
    split <;> omega
/- the fewest pips, as the reference counts them -/
def mb (p n : Nat) (a : Nat → Nat) : Nat → Int × Int
  | 0 => (-1, 1000)
  | k + 1 => (if pipQ p (a k) n < (mb p n a k).2 then (k : Int) else if pipQ p (a k) n = (mb p n a k).2 then -1 else (mb p n a k).1, if pipQ p (a k) n < (mb p n a k).2 then pipQ p (a k) n else (mb p n a k).2)
theorem mb_2 {p : Nat} (hp : p < 7) (a : Nat → Nat) : ∀ k, 0 ≤ (mb p (szN p) a k).2 ∧ (mb p (szN p) a k).2 ≤ 1000 := by
  intro k
  induction k with
  | zero => exact ⟨show (0 : Int) ≤ 1000 by decide, show (1000 : Int) ≤ 1000 by decide⟩
  | succ k ih =>
    have h1 := pipQ_b (m := a k) hp (szN p) (Nat.le_refl _)
    show 0 ≤ (if pipQ p (a k) (szN p) < (mb p (szN p) a k).2 then pipQ p (a k) (szN p) else (mb p (szN p) a k).2) ∧ _ ≤ _
    have h2 : (mb p (szN p) a (k + 1)).2 = (if pipQ p (a k) (szN p) < (mb p (szN p) a k).2 then pipQ p (a k) (szN p) else (mb p (szN p) a k).2) := rfl
    rw [h2]
    split <;> omega
def ruQ (ru ll : Int) (p : Nat) (a : Nat → Nat) (np : Nat) : Int := if ru = 110 then -1 else if ru = 115 then ll else (mb p (szN p) a np).1
section MODEL2
variable {E : EX} {d : Nat} {h : AH} {sz m : Nat} {M : GS}
set_option maxRecDepth 16384 in
theorem sp_142 {g w p np : Nat} {ru ll : Int} {a : Nat → Nat} (hg : g < 6) (hw : M 12 g = w) (hw2 : w < 4) (hp : M 1 w = p) (hp2 : p < 7) (hn : M 2 w = np) (hn2 : np ≤ 4) (hr : M 24 g = ru) (hr2 : 0 ≤ ru ∧ ru ≤ 65535) (hl : M 18 g = ll) (ha : ∀ q, q < np → M 14 (4 * g + q) = a q ∧ a q < 2 ^ 28) : Sp E (d + 4) 142 [.ref m, .int (z (g : Int))] (mh h m M) sz (rets (some (.int (z (ruQ ru ll p a np)))) (mh h m M) sz) := by
  have s131 := sp_131 (E := E) (d := d + 2) (h := h) (m := m) (sz := sz) hg hw hw2
  rw [hn] at s131
  refine ⟨mi_142, mt_142, Nat.le_of_ble_eq_true rfl, ?_⟩
  change Rr _ _ _ _ mi_142 _ 0 [some (.ref m), some (.int (z (g : Int))), none, none, none, none] [] _ _ 0 0
  refine R_run 60 ?_
  simp only [run_s, run_0, isc, Bool.or_false, Bool.false_or, Bool.or_true, Bool.true_or, Bool.or_self, cond_false, cond_true, gl, sl, stl, stl2, c2, isw, nf, pf, lnb, tk, true_and, and_true, nsg0, nsg1, Int.cast_ofNat_Int, Int.natCast_zero, Int.natCast_one, zero_z, z_add, z_sub, z_mul, z_neg, cnd_eq, cnd_ne, cnd_lt, cnd_ge, cnd_gt, cnd_le, vok_0, vok_3r, vok_3n, vok_4, Nat.add_zero, Nat.zero_add, Nat.reduceAdd, Nat.reduceSub, Nat.reduceMod, Nat.reduceDiv, Nat.reduceEqDiff, Nat.reduceLeDiff, Nat.reduceMul, Int.reduceNeg, if_true, if_false, ite_true, ite_false, reduceIte, hup_app, Nat.add_left_cancel_iff, Nat.left_eq_add, Nat.add_eq_left, reduceCtorEq, subc_0, subc_1, subc_2, subc_3, subc_4, subc_5, subc_6, subc_7, subc_8, subc_9, subc_10, subc_11, subc_12, sube_2, sube_3, sube_5, sube_8, sube_9, sube_10, rets_ok, va_rfs, true_or, or_true, or_false, false_or, sI_aload_n, sI_bipush, sI_getfield, sI_goto, sI_iaload, sI_iconst, sI_if_icmp, sI_iinc, sI_iload, sI_iload_n, sI_invokevirtual, sI_ireturn, sI_istore, sI_istore_n, sI_sipush, ix_142_0, ix_142_1, ix_142_4, ix_142_5, ix_142_6, ix_142_8, ix_142_11, ix_142_12, ix_142_13, ix_142_14, ix_142_17, ix_142_18, ix_142_19, ix_142_21, ix_142_24, ix_142_25, ix_142_28, ix_142_29, ix_142_30, ix_142_31, ix_142_32, ix_142_33, ix_142_36, ix_142_37, ix_142_38, ix_142_40, ix_142_42, ix_142_43, ix_142_44, ix_142_47, ix_142_50, ix_142_51, ix_142_52, ix_142_54, ix_142_57, ix_142_59, ix_142_61, ix_142_62, ix_142_65, ix_142_67, ix_142_70, ix_142_72, ix_142_73, ix_142_76, ix_142_77, ix_142_80, ix_142_81, ix_142_82, ix_142_84, ix_142_85, ix_142_88, ix_142_90, ix_142_93, ix_142_94, ix_142_95, ix_142_98, ix_142_101, ix_142_102, mC_142, mS_142, mH_142, sr_at, mr_0, mn_23, mn_29, mr_18, mr_24]
  try simp (disch := omega) only [z_lt, z_le, z_eq, z_in, z_nat, Int.toNat_natCast, upd_z, z_l, zl_0, zl_add, zl_sub, zl_mul, zl_i, zl_eq, zl_div, Int.reduceLT, Int.reduceLE, Int.reduceToNat, Nat.reduceAdd, Nat.reduceLeDiff, not_false_eq_true, true_and, and_true, hr, hl]
  unfold ruQ
  refine ⟨by omega, fun q => ⟨by omega, fun q2 => ?_, fun q2 => ⟨by omega, ?_⟩⟩, fun q => ?_⟩
  · rw [if_neg q, if_neg q2]
    refine loop_up (P := fun k => Rr E (mcsT mtab) (Sp E (d + 3)) (d + 3) mi_142 (rets (some (.int (z (mb p (szN p) a np).1))) (mh h m M) sz) 40 [some (.ref m), some (.int (z (g : Int))), some (.int (z (mb p (szN p) a k).1)), some (.int (z (mb p (szN p) a k).2)), some (.int (z (k : Int))), none] [] (mh h m M) sz 0 0) (n := np) ?_ (fun k hk ih => ?_) 0 (Nat.zero_le _)
    · refine R_hd ix_142_40 60 ?_
      simp only [run_s, run_0, isc, Bool.or_false, Bool.false_or, Bool.or_true, Bool.true_or, Bool.or_self, cond_false, cond_true, gl, sl, stl, stl2, c2, isw, nf, pf, lnb, tk, true_and, and_true, nsg0, nsg1, Int.cast_ofNat_Int, Int.natCast_zero, Int.natCast_one, zero_z, z_add, z_sub, z_mul, z_neg, cnd_eq, cnd_ne, cnd_lt, cnd_ge, cnd_gt, cnd_le, vok_0, vok_3r, vok_3n, vok_4, Nat.add_zero, Nat.zero_add, Nat.reduceAdd, Nat.reduceSub, Nat.reduceMod, Nat.reduceDiv, Nat.reduceEqDiff, Nat.reduceLeDiff, Nat.reduceMul, Int.reduceNeg, if_true, if_false, ite_true, ite_false, reduceIte, hup_app, Nat.add_left_cancel_iff, Nat.left_eq_add, Nat.add_eq_left, reduceCtorEq, subc_0, subc_1, subc_2, subc_3, subc_4, subc_5, subc_6, subc_7, subc_8, subc_9, subc_10, subc_11, subc_12, sube_2, sube_3, sube_5, sube_8, sube_9, sube_10, rets_ok, va_rfs, true_or, or_true, or_false, false_or, sI_aload_n, sI_bipush, sI_getfield, sI_goto, sI_iaload, sI_iconst, sI_if_icmp, sI_iinc, sI_iload, sI_iload_n, sI_invokevirtual, sI_ireturn, sI_istore, sI_istore_n, sI_sipush, ix_142_0, ix_142_1, ix_142_4, ix_142_5, ix_142_6, ix_142_8, ix_142_11, ix_142_12, ix_142_13, ix_142_14, ix_142_17, ix_142_18, ix_142_19, ix_142_21, ix_142_24, ix_142_25, ix_142_28, ix_142_29, ix_142_30, ix_142_31, ix_142_32, ix_142_33, ix_142_36, ix_142_37, ix_142_38, ix_142_40, ix_142_42, ix_142_43, ix_142_44, ix_142_47, ix_142_50, ix_142_51, ix_142_52, ix_142_54, ix_142_57, ix_142_59, ix_142_61, ix_142_62, ix_142_65, ix_142_67, ix_142_70, ix_142_72, ix_142_73, ix_142_76, ix_142_77, ix_142_80, ix_142_81, ix_142_82, ix_142_84, ix_142_85, ix_142_88, ix_142_90, ix_142_93, ix_142_94, ix_142_95, ix_142_98, ix_142_101, ix_142_102, mC_142, mS_142, mH_142, sr_at, mr_0, mn_23, mn_29, mr_18, mr_24]
      refine R_cV ix_142_44 (by decide) (by decide) rfl mr_0 rfl (s131) (Nat.le_of_ble_eq_true rfl) (by rw [mcs_131, mC_142]; omega) (by rw [mcs_131, mS_142]; omega) ?_
      simp only [mcs_131, vpu, Nat.add_zero, Nat.zero_add, Nat.reduceAdd]
      refine R_run 60 ?_
      simp only [run_s, run_0, isc, Bool.or_false, Bool.false_or, Bool.or_true, Bool.true_or, Bool.or_self, cond_false, cond_true, gl, sl, stl, stl2, c2, isw, nf, pf, lnb, tk, true_and, and_true, nsg0, nsg1, Int.cast_ofNat_Int, Int.natCast_zero, Int.natCast_one, zero_z, z_add, z_sub, z_mul, z_neg, cnd_eq, cnd_ne, cnd_lt, cnd_ge, cnd_gt, cnd_le, vok_0, vok_3r, vok_3n, vok_4, Nat.add_zero, Nat.zero_add, Nat.reduceAdd, Nat.reduceSub, Nat.reduceMod, Nat.reduceDiv, Nat.reduceEqDiff, Nat.reduceLeDiff, Nat.reduceMul, Int.reduceNeg, if_true, if_false, ite_true, ite_false, reduceIte, hup_app, Nat.add_left_cancel_iff, Nat.left_eq_add, Nat.add_eq_left, reduceCtorEq, subc_0, subc_1, subc_2, subc_3, subc_4, subc_5, subc_6, subc_7, subc_8, subc_9, subc_10, subc_11, subc_12, sube_2, sube_3, sube_5, sube_8, sube_9, sube_10, rets_ok, va_rfs, true_or, or_true, or_false, false_or, sI_aload_n, sI_bipush, sI_getfield, sI_goto, sI_iaload, sI_iconst, sI_if_icmp, sI_iinc, sI_iload, sI_iload_n, sI_invokevirtual, sI_ireturn, sI_istore, sI_istore_n, sI_sipush, ix_142_0, ix_142_1, ix_142_4, ix_142_5, ix_142_6, ix_142_8, ix_142_11, ix_142_12, ix_142_13, ix_142_14, ix_142_17, ix_142_18, ix_142_19, ix_142_21, ix_142_24, ix_142_25, ix_142_28, ix_142_29, ix_142_30, ix_142_31, ix_142_32, ix_142_33, ix_142_36, ix_142_37, ix_142_38, ix_142_40, ix_142_42, ix_142_43, ix_142_44, ix_142_47, ix_142_50, ix_142_51, ix_142_52, ix_142_54, ix_142_57, ix_142_59, ix_142_61, ix_142_62, ix_142_65, ix_142_67, ix_142_70, ix_142_72, ix_142_73, ix_142_76, ix_142_77, ix_142_80, ix_142_81, ix_142_82, ix_142_84, ix_142_85, ix_142_88, ix_142_90, ix_142_93, ix_142_94, ix_142_95, ix_142_98, ix_142_101, ix_142_102, mC_142, mS_142, mH_142, sr_at, mr_0, mn_23, mn_29, mr_18, mr_24]
      try simp (disch := omega) only [z_lt, z_le, z_eq, z_in, z_nat, Int.toNat_natCast, upd_z, z_l, zl_0, zl_add, zl_sub, zl_mul, zl_i, zl_eq, zl_div, Int.reduceLT, Int.reduceLE, Int.reduceToNat, Nat.reduceAdd, Nat.reduceLeDiff, not_false_eq_true, true_and, and_true]
      repeat' (first | (with_reducible refine ⟨?_, ?_⟩) | (with_reducible intro _))
      all_goals try (first | exact True.intro | with_reducible rfl | exact absurd True.intro (by assumption) | omega | (exfalso; omega) | (rw [if_pos (by omega)]; done) | (rw [if_neg (by omega)]; done))
    · have s141 := sp_141 (E := E) (d := d) (h := h) (m := m) (sz := sz) hg (show k < 4 by omega) hw hw2 hp hp2 (ha k hk).1 (ha k hk).2
      have b1 := pipQ_b (m := a k) hp2 (szN p) (Nat.le_refl _)
      have b2 := mb_2 hp2 a k
      have b3 := szN_b p hp2
      rw [show mb p (szN p) a (k + 1) = (if pipQ p (a k) (szN p) < (mb p (szN p) a k).2 then (k : Int) else if pipQ p (a k) (szN p) = (mb p (szN p) a k).2 then -1 else (mb p (szN p) a k).1, if pipQ p (a k) (szN p) < (mb p (szN p) a k).2 then pipQ p (a k) (szN p) else (mb p (szN p) a k).2) from rfl, show ((k + 1 : Nat) : Int) = (k : Int) + 1 by omega] at ih
      dsimp only at ih
      refine R_hd ix_142_40 60 ?_
      simp only [run_s, run_0, isc, Bool.or_false, Bool.false_or, Bool.or_true, Bool.true_or, Bool.or_self, cond_false, cond_true, gl, sl, stl, stl2, c2, isw, nf, pf, lnb, tk, true_and, and_true, nsg0, nsg1, Int.cast_ofNat_Int, Int.natCast_zero, Int.natCast_one, zero_z, z_add, z_sub, z_mul, z_neg, cnd_eq, cnd_ne, cnd_lt, cnd_ge, cnd_gt, cnd_le, vok_0, vok_3r, vok_3n, vok_4, Nat.add_zero, Nat.zero_add, Nat.reduceAdd, Nat.reduceSub, Nat.reduceMod, Nat.reduceDiv, Nat.reduceEqDiff, Nat.reduceLeDiff, Nat.reduceMul, Int.reduceNeg, if_true, if_false, ite_true, ite_false, reduceIte, hup_app, Nat.add_left_cancel_iff, Nat.left_eq_add, Nat.add_eq_left, reduceCtorEq, subc_0, subc_1, subc_2, subc_3, subc_4, subc_5, subc_6, subc_7, subc_8, subc_9, subc_10, subc_11, subc_12, sube_2, sube_3, sube_5, sube_8, sube_9, sube_10, rets_ok, va_rfs, true_or, or_true, or_false, false_or, sI_aload_n, sI_bipush, sI_getfield, sI_goto, sI_iaload, sI_iconst, sI_if_icmp, sI_iinc, sI_iload, sI_iload_n, sI_invokevirtual, sI_ireturn, sI_istore, sI_istore_n, sI_sipush, ix_142_0, ix_142_1, ix_142_4, ix_142_5, ix_142_6, ix_142_8, ix_142_11, ix_142_12, ix_142_13, ix_142_14, ix_142_17, ix_142_18, ix_142_19, ix_142_21, ix_142_24, ix_142_25, ix_142_28, ix_142_29, ix_142_30, ix_142_31, ix_142_32, ix_142_33, ix_142_36, ix_142_37, ix_142_38, ix_142_40, ix_142_42, ix_142_43, ix_142_44, ix_142_47, ix_142_50, ix_142_51, ix_142_52, ix_142_54, ix_142_57, ix_142_59, ix_142_61, ix_142_62, ix_142_65, ix_142_67, ix_142_70, ix_142_72, ix_142_73, ix_142_76, ix_142_77, ix_142_80, ix_142_81, ix_142_82, ix_142_84, ix_142_85, ix_142_88, ix_142_90, ix_142_93, ix_142_94, ix_142_95, ix_142_98, ix_142_101, ix_142_102, mC_142, mS_142, mH_142, sr_at, mr_0, mn_23, mn_29, mr_18, mr_24]
      refine R_cV ix_142_44 (by decide) (by decide) rfl mr_0 rfl (s131) (Nat.le_of_ble_eq_true rfl) (by rw [mcs_131, mC_142]; omega) (by rw [mcs_131, mS_142]; omega) ?_
      simp only [mcs_131, vpu, Nat.add_zero, Nat.zero_add, Nat.reduceAdd]
      refine R_run 60 ?_
      simp only [run_s, run_0, isc, Bool.or_false, Bool.false_or, Bool.or_true, Bool.true_or, Bool.or_self, cond_false, cond_true, gl, sl, stl, stl2, c2, isw, nf, pf, lnb, tk, true_and, and_true, nsg0, nsg1, Int.cast_ofNat_Int, Int.natCast_zero, Int.natCast_one, zero_z, z_add, z_sub, z_mul, z_neg, cnd_eq, cnd_ne, cnd_lt, cnd_ge, cnd_gt, cnd_le, vok_0, vok_3r, vok_3n, vok_4, Nat.add_zero, Nat.zero_add, Nat.reduceAdd, Nat.reduceSub, Nat.reduceMod, Nat.reduceDiv, Nat.reduceEqDiff, Nat.reduceLeDiff, Nat.reduceMul, Int.reduceNeg, if_true, if_false, ite_true, ite_false, reduceIte, hup_app, Nat.add_left_cancel_iff, Nat.left_eq_add, Nat.add_eq_left, reduceCtorEq, subc_0, subc_1, subc_2, subc_3, subc_4, subc_5, subc_6, subc_7, subc_8, subc_9, subc_10, subc_11, subc_12, sube_2, sube_3, sube_5, sube_8, sube_9, sube_10, rets_ok, va_rfs, true_or, or_true, or_false, false_or, sI_aload_n, sI_bipush, sI_getfield, sI_goto, sI_iaload, sI_iconst, sI_if_icmp, sI_iinc, sI_iload, sI_iload_n, sI_invokevirtual, sI_ireturn, sI_istore, sI_istore_n, sI_sipush, ix_142_0, ix_142_1, ix_142_4, ix_142_5, ix_142_6, ix_142_8, ix_142_11, ix_142_12, ix_142_13, ix_142_14, ix_142_17, ix_142_18, ix_142_19, ix_142_21, ix_142_24, ix_142_25, ix_142_28, ix_142_29, ix_142_30, ix_142_31, ix_142_32, ix_142_33, ix_142_36, ix_142_37, ix_142_38, ix_142_40, ix_142_42, ix_142_43, ix_142_44, ix_142_47, ix_142_50, ix_142_51, ix_142_52, ix_142_54, ix_142_57, ix_142_59, ix_142_61, ix_142_62, ix_142_65, ix_142_67, ix_142_70, ix_142_72, ix_142_73, ix_142_76, ix_142_77, ix_142_80, ix_142_81, ix_142_82, ix_142_84, ix_142_85, ix_142_88, ix_142_90, ix_142_93, ix_142_94, ix_142_95, ix_142_98, ix_142_101, ix_142_102, mC_142, mS_142, mH_142, sr_at, mr_0, mn_23, mn_29, mr_18, mr_24]
      try simp (disch := omega) only [z_lt, z_le, z_eq, z_in, z_nat, Int.toNat_natCast, upd_z, z_l, zl_0, zl_add, zl_sub, zl_mul, zl_i, zl_eq, zl_div, Int.reduceLT, Int.reduceLE, Int.reduceToNat, Nat.reduceAdd, Nat.reduceLeDiff, not_false_eq_true, true_and, and_true]
      refine ⟨fun q => absurd q (by omega), fun _ => ?_⟩
      refine R_cV ix_142_54 (by decide) (by decide) rfl mr_0 rfl (s141) (Nat.le_of_ble_eq_true rfl) (by rw [mcs_141, mC_142]; omega) (by rw [mcs_141, mS_142]; omega) ?_
      simp only [mcs_141, vpu, Nat.add_zero, Nat.zero_add, Nat.reduceAdd]
      generalize pipQ p (a k) (szN p) = x at *
      refine R_run 60 ?_
      simp only [run_s, run_0, isc, Bool.or_false, Bool.false_or, Bool.or_true, Bool.true_or, Bool.or_self, cond_false, cond_true, gl, sl, stl, stl2, c2, isw, nf, pf, lnb, tk, true_and, and_true, nsg0, nsg1, Int.cast_ofNat_Int, Int.natCast_zero, Int.natCast_one, zero_z, z_add, z_sub, z_mul, z_neg, cnd_eq, cnd_ne, cnd_lt, cnd_ge, cnd_gt, cnd_le, vok_0, vok_3r, vok_3n, vok_4, Nat.add_zero, Nat.zero_add, Nat.reduceAdd, Nat.reduceSub, Nat.reduceMod, Nat.reduceDiv, Nat.reduceEqDiff, Nat.reduceLeDiff, Nat.reduceMul, Int.reduceNeg, if_true, if_false, ite_true, ite_false, reduceIte, hup_app, Nat.add_left_cancel_iff, Nat.left_eq_add, Nat.add_eq_left, reduceCtorEq, subc_0, subc_1, subc_2, subc_3, subc_4, subc_5, subc_6, subc_7, subc_8, subc_9, subc_10, subc_11, subc_12, sube_2, sube_3, sube_5, sube_8, sube_9, sube_10, rets_ok, va_rfs, true_or, or_true, or_false, false_or, sI_aload_n, sI_bipush, sI_getfield, sI_goto, sI_iaload, sI_iconst, sI_if_icmp, sI_iinc, sI_iload, sI_iload_n, sI_invokevirtual, sI_ireturn, sI_istore, sI_istore_n, sI_sipush, ix_142_0, ix_142_1, ix_142_4, ix_142_5, ix_142_6, ix_142_8, ix_142_11, ix_142_12, ix_142_13, ix_142_14, ix_142_17, ix_142_18, ix_142_19, ix_142_21, ix_142_24, ix_142_25, ix_142_28, ix_142_29, ix_142_30, ix_142_31, ix_142_32, ix_142_33, ix_142_36, ix_142_37, ix_142_38, ix_142_40, ix_142_42, ix_142_43, ix_142_44, ix_142_47, ix_142_50, ix_142_51, ix_142_52, ix_142_54, ix_142_57, ix_142_59, ix_142_61, ix_142_62, ix_142_65, ix_142_67, ix_142_70, ix_142_72, ix_142_73, ix_142_76, ix_142_77, ix_142_80, ix_142_81, ix_142_82, ix_142_84, ix_142_85, ix_142_88, ix_142_90, ix_142_93, ix_142_94, ix_142_95, ix_142_98, ix_142_101, ix_142_102, mC_142, mS_142, mH_142, sr_at, mr_0, mn_23, mn_29, mr_18, mr_24]
      try simp (disch := omega) only [z_lt, z_le, z_eq, z_in, z_nat, Int.toNat_natCast, upd_z, z_l, zl_0, zl_add, zl_sub, zl_mul, zl_i, zl_eq, zl_div, Int.reduceLT, Int.reduceLE, Int.reduceToNat, Nat.reduceAdd, Nat.reduceLeDiff, not_false_eq_true, true_and, and_true]
      by_cases q3 : x < (mb p (szN p) a k).2
      · rw [if_pos q3, if_pos q3] at ih
        refine ⟨fun q4 => absurd q4 (by omega), fun _ => ⟨fun q4 => absurd q4 (by omega), fun _ => ?_⟩⟩
        refine R_forget ?_ ih
        repeat first | exact wkl_nil | apply wkl_c | apply wkl_n
      · rw [if_neg q3, if_neg q3] at ih
        refine ⟨fun _ => ⟨fun q4 => ⟨fun _ => ?_, fun q5 => absurd q5 (by omega)⟩, fun q4 => ⟨fun _ => ?_, fun q5 => absurd q5 (by omega)⟩⟩, fun q4 => absurd q4 (by omega)⟩
        · rw [if_neg q4] at ih
          refine R_forget ?_ ih
          repeat first | exact wkl_nil | apply wkl_c | apply wkl_n
        · rw [if_pos (by omega)] at ih
          refine R_forget ?_ ih
          repeat first | exact wkl_nil | apply wkl_c | apply wkl_n
  · rw [if_neg q, if_pos (by omega)]
  · rw [if_pos (by omega)]
/- a part of a row -/
def emb (o n : Nat) (f b : Nat → Int) : Nat → Int := fun j => if o ≤ j ∧ j < o + n then f (j - o) else b j
theorem emb_0 (o : Nat) (f b : Nat → Int) : emb o 0 f b = b := by
  funext j
  unfold emb
  rw [if_neg (by omega)]
theorem emb_at {o n k : Nat} {f b : Nat → Int} (hk : k < n) : emb o n f b (o + k) = f k := by
  unfold emb
  rw [if_pos ⟨by omega, by omega⟩, Nat.add_sub_cancel_left]
theorem emb_out {o n j : Nat} {f b : Nat → Int} (hj : j < o ∨ o + n ≤ j) : emb o n f b j = b j := by
  unfold emb
  rw [if_neg (by omega)]
theorem emb_s {o n : Nat} {f b : Nat → Int} : st1 (emb o n f b) (o + n) (f n) = emb o (n + 1) f b := by
  funext j
  unfold st1 emb
  by_cases h : j = o + n
  · rw [if_pos h, if_pos ⟨by omega, by omega⟩, h, Nat.add_sub_cancel_left]
  · rw [if_neg h]
    by_cases h2 : o ≤ j ∧ j < o + n
    · rw [if_pos h2, if_pos ⟨by omega, by omega⟩]
    · rw [if_neg h2, if_neg (by omega)]
theorem emb_u {o n k : Nat} {v : Int} {f b : Nat → Int} (hk : k < n) : st1 (emb o n f b) (o + k) v = emb o n (st1 f k v) b := by
  funext j
  unfold st1 emb
  dsimp only
  by_cases h : j = o + k
  · rw [if_pos h, if_pos ⟨by omega, by omega⟩, if_pos (by omega)]
  · rw [if_neg h]
    by_cases h2 : o ≤ j ∧ j < o + n
    · rw [if_pos h2, if_pos h2, if_neg (by omega)]
    · rw [if_neg h2, if_neg h2]
theorem sr_4 (M : GS) {a b : Nat} (hab : a ≠ b) (f g f' g' : Nat → Int) : sr (sr (sr (sr M a f) b g) a f') b g' = sr (sr M a f') b g' := by
  funext r
  unfold sr
  by_cases h1 : r = b
  · rw [if_pos h1, if_pos h1]
  · rw [if_neg h1, if_neg h1]
    by_cases h2 : r = a
    · rw [if_pos h2, if_neg h1, if_pos h2]
    · rw [if_neg h2, if_neg h1, if_neg h2, if_neg h2]
theorem sr_self (M : GS) (a : Nat) : sr M a (M a) = M := by
  funext r
  unfold sr
  by_cases h1 : r = a
  · rw [if_pos h1, h1]
  · rw [if_neg h1]
/- what a game pays, or takes back -/
def mPay (M : GS) (g n : Nat) (G : GS) (w s : Int) : GS := sr (sr (sr M 31 (emb (10 * g) n (fun k => if s = 1 then payF G w n k else 0) (M 31))) 32 (mvP (M 32) (G 3) (payF G w n) s n)) 0 (st1 (M 0) 38 (M 0 38 + s * (G 7 10 - sumTo (payF G w n) n)))
set_option maxRecDepth 16384 in
theorem sp_144 {g n : Nat} {w s : Int} {G : GS} (hg : g < 6) (hn : M 27 g = n) (hn2 : n ≤ 10) (hw : M 23 g = w) (hw2 : -2 ≤ w ∧ w ≤ 4) (hs : s = 1 ∨ s = -1) (h28 : ∀ k, k < n → M 28 (10 * g + k) = G 3 k ∧ 0 ≤ G 3 k ∧ G 3 k < 4) (h29 : ∀ k, k < n → M 29 (10 * g + k) = G 4 k ∧ -10 ≤ G 4 k ∧ G 4 k ≤ 10) (h30 : ∀ k, k < n → M 30 (10 * g + k) = G 5 k ∧ 1 ≤ G 5 k) (hall : G 7 10 = sumTo (G 5) n) (hb : G 7 10 ≤ 30000) : Sp E (d + 2) 144 [.ref m, .int (z (g : Int)), .int (z s)] (mh h m M) sz (rets none (mh h m (mPay M g n G w s)) sz) := by
  have s143 := sp_143 (E := E) (d := d) (h := h) (m := m) (sz := sz) hg hn hn2
  rw [sumTo_c (g := G 5) n (fun k hk => (h30 k hk).1), ← hall] at s143
  have hco : ∀ k, k < n → 1 ≤ G 5 k ∧ G 5 k ≤ 30000 := by
    intro k hk
    have := sumTo_one (f := G 5) hk (fun k hk => by have := (h30 k hk).2; omega)
    exact ⟨(h30 k hk).2, by omega⟩
  have hall0 : 0 ≤ G 7 10 := by rw [hall]; exact sumTo_nn n (fun k hk => by have := (h30 k hk).2; omega)
  have hwon : ∀ j, j ≤ n → 0 ≤ onW G w j ∧ onW G w j ≤ 30000 := by
    intro j hj
    have b1 : 0 ≤ onW G w j := sumTo_nn j (fun k hk => by have := (h30 k (by omega)).2; split <;> omega)
    have b2 : onW G w j ≤ sumTo (G 5) j := sumTo_le j (fun k hk => by have := (h30 k (by omega)).2; split <;> omega)
    have b3 : ∀ i, sumTo (G 5) j ≤ sumTo (G 5) (j + i) ∨ n < j + i := by
      intro i
      induction i with
      | zero => exact Or.inl (Int.le_refl _)
      | succ i ih =>
        by_cases q : n < j + (i + 1)
        · exact Or.inr q
        · rcases ih with ih | ih
          · have := (h30 (j + i) (by omega)).2
            refine Or.inl ?_
            show _ ≤ sumTo (G 5) (j + i) + G 5 (j + i)
            omega
          · omega
    have b4 := b3 (n - j)
    rw [show j + (n - j) = n by omega] at b4
    omega
  refine ⟨mi_144, mt_144, Nat.le_of_ble_eq_true rfl, ?_⟩
  change Rr _ _ _ _ mi_144 _ 0 [some (.ref m), some (.int (z (g : Int))), some (.int (z s)), none, none, none, none, none] [] _ _ 0 0
  refine R_run 60 ?_
  simp only [run_s, run_0, isc, Bool.or_false, Bool.false_or, Bool.or_true, Bool.true_or, Bool.or_self, cond_false, cond_true, gl, sl, stl, stl2, c2, isw, nf, pf, lnb, tk, true_and, and_true, nsg0, nsg1, Int.cast_ofNat_Int, Int.natCast_zero, Int.natCast_one, zero_z, z_add, z_sub, z_mul, z_neg, cnd_eq, cnd_ne, cnd_lt, cnd_ge, cnd_gt, cnd_le, vok_0, vok_3r, vok_3n, vok_4, Nat.add_zero, Nat.zero_add, Nat.reduceAdd, Nat.reduceSub, Nat.reduceMod, Nat.reduceDiv, Nat.reduceEqDiff, Nat.reduceLeDiff, Nat.reduceMul, Int.reduceNeg, if_true, if_false, ite_true, ite_false, reduceIte, hup_app, Nat.add_left_cancel_iff, Nat.left_eq_add, Nat.add_eq_left, reduceCtorEq, subc_0, subc_1, subc_2, subc_3, subc_4, subc_5, subc_6, subc_7, subc_8, subc_9, subc_10, subc_11, subc_12, sube_2, sube_3, sube_5, sube_8, sube_9, sube_10, rets_ok, va_rfs, true_or, or_true, or_false, false_or, sI_aload_n, sI_bipush, sI_dup, sI_dup2, sI_getfield, sI_goto, sI_iadd, sI_iaload, sI_iastore, sI_iconst, sI_idiv, sI_ifCond, sI_if_icmp, sI_iinc, sI_iload, sI_iload_n, sI_imul, sI_invokevirtual, sI_istore, sI_istore_n, sI_isub, sI_putfield, sI_return_, ix_144_0, ix_144_1, ix_144_2, ix_144_5, ix_144_6, ix_144_7, ix_144_9, ix_144_11, ix_144_12, ix_144_13, ix_144_15, ix_144_17, ix_144_19, ix_144_20, ix_144_21, ix_144_22, ix_144_25, ix_144_26, ix_144_27, ix_144_28, ix_144_31, ix_144_33, ix_144_34, ix_144_37, ix_144_39, ix_144_40, ix_144_41, ix_144_44, ix_144_45, ix_144_46, ix_144_49, ix_144_50, ix_144_53, ix_144_55, ix_144_56, ix_144_59, ix_144_60, ix_144_61, ix_144_63, ix_144_66, ix_144_69, ix_144_70, ix_144_72, ix_144_74, ix_144_75, ix_144_76, ix_144_78, ix_144_80, ix_144_82, ix_144_83, ix_144_84, ix_144_85, ix_144_88, ix_144_89, ix_144_90, ix_144_91, ix_144_94, ix_144_95, ix_144_98, ix_144_100, ix_144_101, ix_144_102, ix_144_105, ix_144_106, ix_144_107, ix_144_110, ix_144_111, ix_144_112, ix_144_115, ix_144_117, ix_144_118, ix_144_119, ix_144_121, ix_144_122, ix_144_125, ix_144_126, ix_144_128, ix_144_129, ix_144_132, ix_144_134, ix_144_135, ix_144_138, ix_144_140, ix_144_143, ix_144_144, ix_144_145, ix_144_146, ix_144_149, ix_144_150, ix_144_153, ix_144_155, ix_144_156, ix_144_157, ix_144_158, ix_144_159, ix_144_161, ix_144_162, ix_144_163, ix_144_164, ix_144_166, ix_144_168, ix_144_169, ix_144_171, ix_144_174, ix_144_177, ix_144_178, ix_144_179, ix_144_182, ix_144_183, ix_144_185, ix_144_186, ix_144_187, ix_144_190, mC_144, mS_144, mH_144, sr_at, mr_0, mn_28, mn_32, mn_33, mn_34, mn_35, mn_36, mn_37, mn_38, mr_23, mr_27, mr_28, mr_29, mr_30, mr_31, mr_32, mp_38, ml_38, mw_0, mw_23, mw_27, mw_28, mw_29, mw_30, mw_31, mw_32, upd_z]
  refine R_cV ix_144_2 (by decide) (by decide) rfl mr_0 rfl (s143) (Nat.le_of_ble_eq_true rfl) (by rw [mcs_143, mC_144]; omega) (by rw [mcs_143, mS_144]; omega) ?_
  simp only [mcs_143, vpu, Nat.add_zero, Nat.zero_add, Nat.reduceAdd]
  refine R_run 60 ?_
  simp only [run_s, run_0, isc, Bool.or_false, Bool.false_or, Bool.or_true, Bool.true_or, Bool.or_self, cond_false, cond_true, gl, sl, stl, stl2, c2, isw, nf, pf, lnb, tk, true_and, and_true, nsg0, nsg1, Int.cast_ofNat_Int, Int.natCast_zero, Int.natCast_one, zero_z, z_add, z_sub, z_mul, z_neg, cnd_eq, cnd_ne, cnd_lt, cnd_ge, cnd_gt, cnd_le, vok_0, vok_3r, vok_3n, vok_4, Nat.add_zero, Nat.zero_add, Nat.reduceAdd, Nat.reduceSub, Nat.reduceMod, Nat.reduceDiv, Nat.reduceEqDiff, Nat.reduceLeDiff, Nat.reduceMul, Int.reduceNeg, if_true, if_false, ite_true, ite_false, reduceIte, hup_app, Nat.add_left_cancel_iff, Nat.left_eq_add, Nat.add_eq_left, reduceCtorEq, subc_0, subc_1, subc_2, subc_3, subc_4, subc_5, subc_6, subc_7, subc_8, subc_9, subc_10, subc_11, subc_12, sube_2, sube_3, sube_5, sube_8, sube_9, sube_10, rets_ok, va_rfs, true_or, or_true, or_false, false_or, sI_aload_n, sI_bipush, sI_dup, sI_dup2, sI_getfield, sI_goto, sI_iadd, sI_iaload, sI_iastore, sI_iconst, sI_idiv, sI_ifCond, sI_if_icmp, sI_iinc, sI_iload, sI_iload_n, sI_imul, sI_invokevirtual, sI_istore, sI_istore_n, sI_isub, sI_putfield, sI_return_, ix_144_0, ix_144_1, ix_144_2, ix_144_5, ix_144_6, ix_144_7, ix_144_9, ix_144_11, ix_144_12, ix_144_13, ix_144_15, ix_144_17, ix_144_19, ix_144_20, ix_144_21, ix_144_22, ix_144_25, ix_144_26, ix_144_27, ix_144_28, ix_144_31, ix_144_33, ix_144_34, ix_144_37, ix_144_39, ix_144_40, ix_144_41, ix_144_44, ix_144_45, ix_144_46, ix_144_49, ix_144_50, ix_144_53, ix_144_55, ix_144_56, ix_144_59, ix_144_60, ix_144_61, ix_144_63, ix_144_66, ix_144_69, ix_144_70, ix_144_72, ix_144_74, ix_144_75, ix_144_76, ix_144_78, ix_144_80, ix_144_82, ix_144_83, ix_144_84, ix_144_85, ix_144_88, ix_144_89, ix_144_90, ix_144_91, ix_144_94, ix_144_95, ix_144_98, ix_144_100, ix_144_101, ix_144_102, ix_144_105, ix_144_106, ix_144_107, ix_144_110, ix_144_111, ix_144_112, ix_144_115, ix_144_117, ix_144_118, ix_144_119, ix_144_121, ix_144_122, ix_144_125, ix_144_126, ix_144_128, ix_144_129, ix_144_132, ix_144_134, ix_144_135, ix_144_138, ix_144_140, ix_144_143, ix_144_144, ix_144_145, ix_144_146, ix_144_149, ix_144_150, ix_144_153, ix_144_155, ix_144_156, ix_144_157, ix_144_158, ix_144_159, ix_144_161, ix_144_162, ix_144_163, ix_144_164, ix_144_166, ix_144_168, ix_144_169, ix_144_171, ix_144_174, ix_144_177, ix_144_178, ix_144_179, ix_144_182, ix_144_183, ix_144_185, ix_144_186, ix_144_187, ix_144_190, mC_144, mS_144, mH_144, sr_at, mr_0, mn_28, mn_32, mn_33, mn_34, mn_35, mn_36, mn_37, mn_38, mr_23, mr_27, mr_28, mr_29, mr_30, mr_31, mr_32, mp_38, ml_38, mw_0, mw_23, mw_27, mw_28, mw_29, mw_30, mw_31, mw_32, upd_z]
  refine R_hl (h := mh h m M) (L := [some (.ref m), some (.int (z (g : Int))), some (.int (z s)), some (.int (z (G 7 10))), some (.int (z (onW G w 0))), some (.int (z (10 * (g : Int) + ((0 : Nat) : Int)))), none, none]) rfl (by simp only [Int.natCast_zero, Int.add_zero, onW, sumTo]) ?_
  refine loop_up (P := fun k => Rr E (mcsT mtab) (Sp E (d + 1)) (d + 1) mi_144 (rets none (mh h m (mPay M g n G w s)) sz) 15 [some (.ref m), some (.int (z (g : Int))), some (.int (z s)), some (.int (z (G 7 10))), some (.int (z (onW G w k))), some (.int (z (10 * (g : Int) + (k : Int)))), none, none] [] (mh h m M) sz 0 0) (n := n) ?_ (fun k hk ih => ?_) 0 (Nat.zero_le _)
  · refine R_hd ix_144_15 60 ?_
    simp only [run_s, run_0, isc, Bool.or_false, Bool.false_or, Bool.or_true, Bool.true_or, Bool.or_self, cond_false, cond_true, gl, sl, stl, stl2, c2, isw, nf, pf, lnb, tk, true_and, and_true, nsg0, nsg1, Int.cast_ofNat_Int, Int.natCast_zero, Int.natCast_one, zero_z, z_add, z_sub, z_mul, z_neg, cnd_eq, cnd_ne, cnd_lt, cnd_ge, cnd_gt, cnd_le, vok_0, vok_3r, vok_3n, vok_4, Nat.add_zero, Nat.zero_add, Nat.reduceAdd, Nat.reduceSub, Nat.reduceMod, Nat.reduceDiv, Nat.reduceEqDiff, Nat.reduceLeDiff, Nat.reduceMul, Int.reduceNeg, if_true, if_false, ite_true, ite_false, reduceIte, hup_app, Nat.add_left_cancel_iff, Nat.left_eq_add, Nat.add_eq_left, reduceCtorEq, subc_0, subc_1, subc_2, subc_3, subc_4, subc_5, subc_6, subc_7, subc_8, subc_9, subc_10, subc_11, subc_12, sube_2, sube_3, sube_5, sube_8, sube_9, sube_10, rets_ok, va_rfs, true_or, or_true, or_false, false_or, sI_aload_n, sI_bipush, sI_dup, sI_dup2, sI_getfield, sI_goto, sI_iadd, sI_iaload, sI_iastore, sI_iconst, sI_idiv, sI_ifCond, sI_if_icmp, sI_iinc, sI_iload, sI_iload_n, sI_imul, sI_invokevirtual, sI_istore, sI_istore_n, sI_isub, sI_putfield, sI_return_, ix_144_0, ix_144_1, ix_144_2, ix_144_5, ix_144_6, ix_144_7, ix_144_9, ix_144_11, ix_144_12, ix_144_13, ix_144_15, ix_144_17, ix_144_19, ix_144_20, ix_144_21, ix_144_22, ix_144_25, ix_144_26, ix_144_27, ix_144_28, ix_144_31, ix_144_33, ix_144_34, ix_144_37, ix_144_39, ix_144_40, ix_144_41, ix_144_44, ix_144_45, ix_144_46, ix_144_49, ix_144_50, ix_144_53, ix_144_55, ix_144_56, ix_144_59, ix_144_60, ix_144_61, ix_144_63, ix_144_66, ix_144_69, ix_144_70, ix_144_72, ix_144_74, ix_144_75, ix_144_76, ix_144_78, ix_144_80, ix_144_82, ix_144_83, ix_144_84, ix_144_85, ix_144_88, ix_144_89, ix_144_90, ix_144_91, ix_144_94, ix_144_95, ix_144_98, ix_144_100, ix_144_101, ix_144_102, ix_144_105, ix_144_106, ix_144_107, ix_144_110, ix_144_111, ix_144_112, ix_144_115, ix_144_117, ix_144_118, ix_144_119, ix_144_121, ix_144_122, ix_144_125, ix_144_126, ix_144_128, ix_144_129, ix_144_132, ix_144_134, ix_144_135, ix_144_138, ix_144_140, ix_144_143, ix_144_144, ix_144_145, ix_144_146, ix_144_149, ix_144_150, ix_144_153, ix_144_155, ix_144_156, ix_144_157, ix_144_158, ix_144_159, ix_144_161, ix_144_162, ix_144_163, ix_144_164, ix_144_166, ix_144_168, ix_144_169, ix_144_171, ix_144_174, ix_144_177, ix_144_178, ix_144_179, ix_144_182, ix_144_183, ix_144_185, ix_144_186, ix_144_187, ix_144_190, mC_144, mS_144, mH_144, sr_at, mr_0, mn_28, mn_32, mn_33, mn_34, mn_35, mn_36, mn_37, mn_38, mr_23, mr_27, mr_28, mr_29, mr_30, mr_31, mr_32, mp_38, ml_38, mw_0, mw_23, mw_27, mw_28, mw_29, mw_30, mw_31, mw_32, upd_z]
    try simp (disch := omega) only [z_lt, z_le, z_eq, z_in, z_nat, Int.toNat_natCast, upd_z, z_l, zl_0, zl_add, zl_sub, zl_mul, zl_i, zl_eq, zl_div, Int.reduceLT, Int.reduceLE, Int.reduceToNat, Nat.reduceAdd, Nat.reduceLeDiff, not_false_eq_true, true_and, and_true, hn]
    refine ⟨by omega, fun _ => ?_, fun q => absurd (Int.le_refl _) q⟩
    have e00 : mh h m M = mh h m (sr (sr M 31 (emb (10 * g) 0 (fun k => if s = 1 then payF G w n k else 0) (M 31))) 32 (mvP (M 32) (G 3) (payF G w n) s 0)) := by
      rw [emb_0, sr_self, show mvP (M 32) (G 3) (payF G w n) s 0 = M 32 from rfl, sr_self]
    refine R_hl (h := mh h m (sr (sr M 31 (emb (10 * g) 0 (fun k => if s = 1 then payF G w n k else 0) (M 31))) 32 (mvP (M 32) (G 3) (payF G w n) s 0))) (L := [some (.ref m), some (.int (z (g : Int))), some (.int (z s)), some (.int (z (G 7 10))), some (.int (z (onW G w n))), some (.int (z (G 7 10 - sumTo (payF G w n) 0))), some (.int (z (10 * (g : Int) + ((0 : Nat) : Int)))), none]) e00 (by simp only [Int.natCast_zero, Int.add_zero, sumTo, Int.sub_zero]) ?_
    clear e00
    refine loop_up (P := fun k => Rr E (mcsT mtab) (Sp E (d + 1)) (d + 1) mi_144 (rets none (mh h m (mPay M g n G w s)) sz) 78 [some (.ref m), some (.int (z (g : Int))), some (.int (z s)), some (.int (z (G 7 10))), some (.int (z (onW G w n))), some (.int (z (G 7 10 - sumTo (payF G w n) k))), some (.int (z (10 * (g : Int) + (k : Int)))), none] [] (mh h m (sr (sr M 31 (emb (10 * g) k (fun k => if s = 1 then payF G w n k else 0) (M 31))) 32 (mvP (M 32) (G 3) (payF G w n) s k))) sz 0 0) (n := n) ?_ (fun k hk ih => ?_) 0 (Nat.zero_le _)
    · refine R_hd ix_144_78 60 ?_
      simp only [run_s, run_0, isc, Bool.or_false, Bool.false_or, Bool.or_true, Bool.true_or, Bool.or_self, cond_false, cond_true, gl, sl, stl, stl2, c2, isw, nf, pf, lnb, tk, true_and, and_true, nsg0, nsg1, Int.cast_ofNat_Int, Int.natCast_zero, Int.natCast_one, zero_z, z_add, z_sub, z_mul, z_neg, cnd_eq, cnd_ne, cnd_lt, cnd_ge, cnd_gt, cnd_le, vok_0, vok_3r, vok_3n, vok_4, Nat.add_zero, Nat.zero_add, Nat.reduceAdd, Nat.reduceSub, Nat.reduceMod, Nat.reduceDiv, Nat.reduceEqDiff, Nat.reduceLeDiff, Nat.reduceMul, Int.reduceNeg, if_true, if_false, ite_true, ite_false, reduceIte, hup_app, Nat.add_left_cancel_iff, Nat.left_eq_add, Nat.add_eq_left, reduceCtorEq, subc_0, subc_1, subc_2, subc_3, subc_4, subc_5, subc_6, subc_7, subc_8, subc_9, subc_10, subc_11, subc_12, sube_2, sube_3, sube_5, sube_8, sube_9, sube_10, rets_ok, va_rfs, true_or, or_true, or_false, false_or, sI_aload_n, sI_bipush, sI_dup, sI_dup2, sI_getfield, sI_goto, sI_iadd, sI_iaload, sI_iastore, sI_iconst, sI_idiv, sI_ifCond, sI_if_icmp, sI_iinc, sI_iload, sI_iload_n, sI_imul, sI_invokevirtual, sI_istore, sI_istore_n, sI_isub, sI_putfield, sI_return_, ix_144_0, ix_144_1, ix_144_2, ix_144_5, ix_144_6, ix_144_7, ix_144_9, ix_144_11, ix_144_12, ix_144_13, ix_144_15, ix_144_17, ix_144_19, ix_144_20, ix_144_21, ix_144_22, ix_144_25, ix_144_26, ix_144_27, ix_144_28, ix_144_31, ix_144_33, ix_144_34, ix_144_37, ix_144_39, ix_144_40, ix_144_41, ix_144_44, ix_144_45, ix_144_46, ix_144_49, ix_144_50, ix_144_53, ix_144_55, ix_144_56, ix_144_59, ix_144_60, ix_144_61, ix_144_63, ix_144_66, ix_144_69, ix_144_70, ix_144_72, ix_144_74, ix_144_75, ix_144_76, ix_144_78, ix_144_80, ix_144_82, ix_144_83, ix_144_84, ix_144_85, ix_144_88, ix_144_89, ix_144_90, ix_144_91, ix_144_94, ix_144_95, ix_144_98, ix_144_100, ix_144_101, ix_144_102, ix_144_105, ix_144_106, ix_144_107, ix_144_110, ix_144_111, ix_144_112, ix_144_115, ix_144_117, ix_144_118, ix_144_119, ix_144_121, ix_144_122, ix_144_125, ix_144_126, ix_144_128, ix_144_129, ix_144_132, ix_144_134, ix_144_135, ix_144_138, ix_144_140, ix_144_143, ix_144_144, ix_144_145, ix_144_146, ix_144_149, ix_144_150, ix_144_153, ix_144_155, ix_144_156, ix_144_157, ix_144_158, ix_144_159, ix_144_161, ix_144_162, ix_144_163, ix_144_164, ix_144_166, ix_144_168, ix_144_169, ix_144_171, ix_144_174, ix_144_177, ix_144_178, ix_144_179, ix_144_182, ix_144_183, ix_144_185, ix_144_186, ix_144_187, ix_144_190, mC_144, mS_144, mH_144, sr_at, mr_0, mn_28, mn_32, mn_33, mn_34, mn_35, mn_36, mn_37, mn_38, mr_23, mr_27, mr_28, mr_29, mr_30, mr_31, mr_32, mp_38, ml_38, mw_0, mw_23, mw_27, mw_28, mw_29, mw_30, mw_31, mw_32, upd_z]
      try simp (disch := omega) only [z_lt, z_le, z_eq, z_in, z_nat, Int.toNat_natCast, upd_z, z_l, zl_0, zl_add, zl_sub, zl_mul, zl_i, zl_eq, zl_div, Int.reduceLT, Int.reduceLE, Int.reduceToNat, Nat.reduceAdd, Nat.reduceLeDiff, not_false_eq_true, true_and, and_true, hn]
      repeat' (first | (with_reducible refine ⟨?_, ?_⟩) | (with_reducible intro _))
      all_goals try (first | exact True.intro | with_reducible rfl | exact absurd True.intro (by assumption) | omega | (exfalso; omega) | (rw [if_pos (by omega)]; done) | (rw [if_neg (by omega)]; done) | rfl)
    · have e1 : (10 * (g : Int) + (k : Int)).toNat = 10 * g + k := by omega
      have b1 := hco k hk
      have b3 := (h28 k hk)
      have b4 := (h29 k hk)
      have b2 : 0 ≤ G 7 10 * G 5 k ∧ G 7 10 * G 5 k ≤ 900000000 := by
        have x1 : 0 ≤ G 7 10 * G 5 k := Int.mul_nonneg hall0 (by omega)
        have x2 : G 7 10 * G 5 k ≤ 30000 * 30000 := Int.mul_le_mul hb b1.2 (by omega) (by decide)
        omega
      have b5 := hwon n (Nat.le_refl _)
      have b6 : G 4 k = w → 0 < onW G w n := by
        intro q
        have := sumTo_one (f := fun k => if G 4 k = w then G 5 k else 0) hk (fun k hk => by have := (h30 k hk).2; (try dsimp only); split <;> omega)
        try dsimp only at this
        rw [if_pos q] at this
        have x : onW G w n = sumTo (fun k => if G 4 k = w then G 5 k else 0) n := rfl
        omega
      have em := emb_s (o := 10 * g) (n := k) (f := fun k => if s = 1 then payF G w n k else 0) (b := M 31)
      have mv : mvP (M 32) (G 3) (payF G w n) s (k + 1) = st1 (mvP (M 32) (G 3) (payF G w n) s k) (G 3 k).toNat (mvP (M 32) (G 3) (payF G w n) s k (G 3 k).toNat + s * payF G w n k) := rfl
      have ep : payF G w n k = if G 4 k = w ∧ 0 < onW G w n then G 7 10 * G 5 k / onW G w n else 0 := rfl
      rw [← em, mv, ← sr_4 M (by decide) (emb (10 * g) k (fun k => if s = 1 then payF G w n k else 0) (M 31)) (mvP (M 32) (G 3) (payF G w n) s k), show sumTo (payF G w n) (k + 1) = sumTo (payF G w n) k + payF G w n k from rfl, show ((k + 1 : Nat) : Int) = (k : Int) + 1 by omega, ← Int.add_assoc, show G 7 10 - (sumTo (payF G w n) k + payF G w n k) = G 7 10 - sumTo (payF G w n) k - payF G w n k by omega] at ih
      generalize emb (10 * g) k (fun k => if s = 1 then payF G w n k else 0) (M 31) = PR at *
      generalize mvP (M 32) (G 3) (payF G w n) s k = PU at *
      generalize sumTo (payF G w n) k = SU at *
      try dsimp only at ih
      by_cases q : G 4 k = w
      · rw [if_pos ⟨q, b6 q⟩] at ep
        have b7 := b6 q
        rcases hs with hs | hs
        · subst hs
          rw [if_pos rfl] at ih
          refine R_hd ix_144_78 90 ?_
          simp only [run_s, run_0, isc, Bool.or_false, Bool.false_or, Bool.or_true, Bool.true_or, Bool.or_self, cond_false, cond_true, gl, sl, stl, stl2, c2, isw, nf, pf, lnb, tk, true_and, and_true, nsg0, nsg1, Int.cast_ofNat_Int, Int.natCast_zero, Int.natCast_one, zero_z, z_add, z_sub, z_mul, z_neg, cnd_eq, cnd_ne, cnd_lt, cnd_ge, cnd_gt, cnd_le, vok_0, vok_3r, vok_3n, vok_4, Nat.add_zero, Nat.zero_add, Nat.reduceAdd, Nat.reduceSub, Nat.reduceMod, Nat.reduceDiv, Nat.reduceEqDiff, Nat.reduceLeDiff, Nat.reduceMul, Int.reduceNeg, if_true, if_false, ite_true, ite_false, reduceIte, hup_app, Nat.add_left_cancel_iff, Nat.left_eq_add, Nat.add_eq_left, reduceCtorEq, subc_0, subc_1, subc_2, subc_3, subc_4, subc_5, subc_6, subc_7, subc_8, subc_9, subc_10, subc_11, subc_12, sube_2, sube_3, sube_5, sube_8, sube_9, sube_10, rets_ok, va_rfs, true_or, or_true, or_false, false_or, sI_aload_n, sI_bipush, sI_dup, sI_dup2, sI_getfield, sI_goto, sI_iadd, sI_iaload, sI_iastore, sI_iconst, sI_idiv, sI_ifCond, sI_if_icmp, sI_iinc, sI_iload, sI_iload_n, sI_imul, sI_invokevirtual, sI_istore, sI_istore_n, sI_isub, sI_putfield, sI_return_, ix_144_0, ix_144_1, ix_144_2, ix_144_5, ix_144_6, ix_144_7, ix_144_9, ix_144_11, ix_144_12, ix_144_13, ix_144_15, ix_144_17, ix_144_19, ix_144_20, ix_144_21, ix_144_22, ix_144_25, ix_144_26, ix_144_27, ix_144_28, ix_144_31, ix_144_33, ix_144_34, ix_144_37, ix_144_39, ix_144_40, ix_144_41, ix_144_44, ix_144_45, ix_144_46, ix_144_49, ix_144_50, ix_144_53, ix_144_55, ix_144_56, ix_144_59, ix_144_60, ix_144_61, ix_144_63, ix_144_66, ix_144_69, ix_144_70, ix_144_72, ix_144_74, ix_144_75, ix_144_76, ix_144_78, ix_144_80, ix_144_82, ix_144_83, ix_144_84, ix_144_85, ix_144_88, ix_144_89, ix_144_90, ix_144_91, ix_144_94, ix_144_95, ix_144_98, ix_144_100, ix_144_101, ix_144_102, ix_144_105, ix_144_106, ix_144_107, ix_144_110, ix_144_111, ix_144_112, ix_144_115, ix_144_117, ix_144_118, ix_144_119, ix_144_121, ix_144_122, ix_144_125, ix_144_126, ix_144_128, ix_144_129, ix_144_132, ix_144_134, ix_144_135, ix_144_138, ix_144_140, ix_144_143, ix_144_144, ix_144_145, ix_144_146, ix_144_149, ix_144_150, ix_144_153, ix_144_155, ix_144_156, ix_144_157, ix_144_158, ix_144_159, ix_144_161, ix_144_162, ix_144_163, ix_144_164, ix_144_166, ix_144_168, ix_144_169, ix_144_171, ix_144_174, ix_144_177, ix_144_178, ix_144_179, ix_144_182, ix_144_183, ix_144_185, ix_144_186, ix_144_187, ix_144_190, mC_144, mS_144, mH_144, sr_at, mr_0, mn_28, mn_32, mn_33, mn_34, mn_35, mn_36, mn_37, mn_38, mr_23, mr_27, mr_28, mr_29, mr_30, mr_31, mr_32, mp_38, ml_38, mw_0, mw_23, mw_27, mw_28, mw_29, mw_30, mw_31, mw_32, upd_z]
          try simp (disch := omega) only [z_lt, z_le, z_eq, z_in, z_nat, Int.toNat_natCast, upd_z, z_l, zl_0, zl_add, zl_sub, zl_mul, zl_i, zl_eq, zl_div, Int.reduceLT, Int.reduceLE, Int.reduceToNat, Nat.reduceAdd, Nat.reduceLeDiff, not_false_eq_true, true_and, and_true, hn, e1, b3.1, b4.1, (h30 k hk).1, hw, z_div, ← ep]
          try simp only [z_mul, z_add, z_sub, upd_z, mw_31, mw_32]
          repeat' (first | (with_reducible refine ⟨?_, ?_⟩) | (with_reducible intro _))
          all_goals try (first | exact True.intro | with_reducible rfl | exact absurd True.intro (by assumption) | omega | (exfalso; omega) | (rw [if_pos (by omega)]; done) | (rw [if_neg (by omega)]; done) | (refine R_forget ?_ ih; (repeat first | exact wkl_nil | apply wkl_c | apply wkl_n); done))
        · subst hs
          rw [if_neg (by decide)] at ih
          refine R_hd ix_144_78 90 ?_
          simp only [run_s, run_0, isc, Bool.or_false, Bool.false_or, Bool.or_true, Bool.true_or, Bool.or_self, cond_false, cond_true, gl, sl, stl, stl2, c2, isw, nf, pf, lnb, tk, true_and, and_true, nsg0, nsg1, Int.cast_ofNat_Int, Int.natCast_zero, Int.natCast_one, zero_z, z_add, z_sub, z_mul, z_neg, cnd_eq, cnd_ne, cnd_lt, cnd_ge, cnd_gt, cnd_le, vok_0, vok_3r, vok_3n, vok_4, Nat.add_zero, Nat.zero_add, Nat.reduceAdd, Nat.reduceSub, Nat.reduceMod, Nat.reduceDiv, Nat.reduceEqDiff, Nat.reduceLeDiff, Nat.reduceMul, Int.reduceNeg, if_true, if_false, ite_true, ite_false, reduceIte, hup_app, Nat.add_left_cancel_iff, Nat.left_eq_add, Nat.add_eq_left, reduceCtorEq, subc_0, subc_1, subc_2, subc_3, subc_4, subc_5, subc_6, subc_7, subc_8, subc_9, subc_10, subc_11, subc_12, sube_2, sube_3, sube_5, sube_8, sube_9, sube_10, rets_ok, va_rfs, true_or, or_true, or_false, false_or, sI_aload_n, sI_bipush, sI_dup, sI_dup2, sI_getfield, sI_goto, sI_iadd, sI_iaload, sI_iastore, sI_iconst, sI_idiv, sI_ifCond, sI_if_icmp, sI_iinc, sI_iload, sI_iload_n, sI_imul, sI_invokevirtual, sI_istore, sI_istore_n, sI_isub, sI_putfield, sI_return_, ix_144_0, ix_144_1, ix_144_2, ix_144_5, ix_144_6, ix_144_7, ix_144_9, ix_144_11, ix_144_12, ix_144_13, ix_144_15, ix_144_17, ix_144_19, ix_144_20, ix_144_21, ix_144_22, ix_144_25, ix_144_26, ix_144_27, ix_144_28, ix_144_31, ix_144_33, ix_144_34, ix_144_37, ix_144_39, ix_144_40, ix_144_41, ix_144_44, ix_144_45, ix_144_46, ix_144_49, ix_144_50, ix_144_53, ix_144_55, ix_144_56, ix_144_59, ix_144_60, ix_144_61, ix_144_63, ix_144_66, ix_144_69, ix_144_70, ix_144_72, ix_144_74, ix_144_75, ix_144_76, ix_144_78, ix_144_80, ix_144_82, ix_144_83, ix_144_84, ix_144_85, ix_144_88, ix_144_89, ix_144_90, ix_144_91, ix_144_94, ix_144_95, ix_144_98, ix_144_100, ix_144_101, ix_144_102, ix_144_105, ix_144_106, ix_144_107, ix_144_110, ix_144_111, ix_144_112, ix_144_115, ix_144_117, ix_144_118, ix_144_119, ix_144_121, ix_144_122, ix_144_125, ix_144_126, ix_144_128, ix_144_129, ix_144_132, ix_144_134, ix_144_135, ix_144_138, ix_144_140, ix_144_143, ix_144_144, ix_144_145, ix_144_146, ix_144_149, ix_144_150, ix_144_153, ix_144_155, ix_144_156, ix_144_157, ix_144_158, ix_144_159, ix_144_161, ix_144_162, ix_144_163, ix_144_164, ix_144_166, ix_144_168, ix_144_169, ix_144_171, ix_144_174, ix_144_177, ix_144_178, ix_144_179, ix_144_182, ix_144_183, ix_144_185, ix_144_186, ix_144_187, ix_144_190, mC_144, mS_144, mH_144, sr_at, mr_0, mn_28, mn_32, mn_33, mn_34, mn_35, mn_36, mn_37, mn_38, mr_23, mr_27, mr_28, mr_29, mr_30, mr_31, mr_32, mp_38, ml_38, mw_0, mw_23, mw_27, mw_28, mw_29, mw_30, mw_31, mw_32, upd_z]
          try simp (disch := omega) only [z_lt, z_le, z_eq, z_in, z_nat, Int.toNat_natCast, upd_z, z_l, zl_0, zl_add, zl_sub, zl_mul, zl_i, zl_eq, zl_div, Int.reduceLT, Int.reduceLE, Int.reduceToNat, Nat.reduceAdd, Nat.reduceLeDiff, not_false_eq_true, true_and, and_true, hn, e1, b3.1, b4.1, (h30 k hk).1, hw, z_div, ← ep]
          try simp only [z_mul, z_add, z_sub, upd_z, mw_31, mw_32]
          repeat' (first | (with_reducible refine ⟨?_, ?_⟩) | (with_reducible intro _))
          all_goals try (first | exact True.intro | with_reducible rfl | exact absurd True.intro (by assumption) | omega | (exfalso; omega) | (rw [if_pos (by omega)]; done) | (rw [if_neg (by omega)]; done) | (refine R_forget ?_ ih; (repeat first | exact wkl_nil | apply wkl_c | apply wkl_n); done))
      · rw [if_neg (fun q9 => q q9.1)] at ep
        rcases hs with hs | hs
        · subst hs
          rw [if_pos rfl, ep] at ih
          refine R_hd ix_144_78 90 ?_
          simp only [run_s, run_0, isc, Bool.or_false, Bool.false_or, Bool.or_true, Bool.true_or, Bool.or_self, cond_false, cond_true, gl, sl, stl, stl2, c2, isw, nf, pf, lnb, tk, true_and, and_true, nsg0, nsg1, Int.cast_ofNat_Int, Int.natCast_zero, Int.natCast_one, zero_z, z_add, z_sub, z_mul, z_neg, cnd_eq, cnd_ne, cnd_lt, cnd_ge, cnd_gt, cnd_le, vok_0, vok_3r, vok_3n, vok_4, Nat.add_zero, Nat.zero_add, Nat.reduceAdd, Nat.reduceSub, Nat.reduceMod, Nat.reduceDiv, Nat.reduceEqDiff, Nat.reduceLeDiff, Nat.reduceMul, Int.reduceNeg, if_true, if_false, ite_true, ite_false, reduceIte, hup_app, Nat.add_left_cancel_iff, Nat.left_eq_add, Nat.add_eq_left, reduceCtorEq, subc_0, subc_1, subc_2, subc_3, subc_4, subc_5, subc_6, subc_7, subc_8, subc_9, subc_10, subc_11, subc_12, sube_2, sube_3, sube_5, sube_8, sube_9, sube_10, rets_ok, va_rfs, true_or, or_true, or_false, false_or, sI_aload_n, sI_bipush, sI_dup, sI_dup2, sI_getfield, sI_goto, sI_iadd, sI_iaload, sI_iastore, sI_iconst, sI_idiv, sI_ifCond, sI_if_icmp, sI_iinc, sI_iload, sI_iload_n, sI_imul, sI_invokevirtual, sI_istore, sI_istore_n, sI_isub, sI_putfield, sI_return_, ix_144_0, ix_144_1, ix_144_2, ix_144_5, ix_144_6, ix_144_7, ix_144_9, ix_144_11, ix_144_12, ix_144_13, ix_144_15, ix_144_17, ix_144_19, ix_144_20, ix_144_21, ix_144_22, ix_144_25, ix_144_26, ix_144_27, ix_144_28, ix_144_31, ix_144_33, ix_144_34, ix_144_37, ix_144_39, ix_144_40, ix_144_41, ix_144_44, ix_144_45, ix_144_46, ix_144_49, ix_144_50, ix_144_53, ix_144_55, ix_144_56, ix_144_59, ix_144_60, ix_144_61, ix_144_63, ix_144_66, ix_144_69, ix_144_70, ix_144_72, ix_144_74, ix_144_75, ix_144_76, ix_144_78, ix_144_80, ix_144_82, ix_144_83, ix_144_84, ix_144_85, ix_144_88, ix_144_89, ix_144_90, ix_144_91, ix_144_94, ix_144_95, ix_144_98, ix_144_100, ix_144_101, ix_144_102, ix_144_105, ix_144_106, ix_144_107, ix_144_110, ix_144_111, ix_144_112, ix_144_115, ix_144_117, ix_144_118, ix_144_119, ix_144_121, ix_144_122, ix_144_125, ix_144_126, ix_144_128, ix_144_129, ix_144_132, ix_144_134, ix_144_135, ix_144_138, ix_144_140, ix_144_143, ix_144_144, ix_144_145, ix_144_146, ix_144_149, ix_144_150, ix_144_153, ix_144_155, ix_144_156, ix_144_157, ix_144_158, ix_144_159, ix_144_161, ix_144_162, ix_144_163, ix_144_164, ix_144_166, ix_144_168, ix_144_169, ix_144_171, ix_144_174, ix_144_177, ix_144_178, ix_144_179, ix_144_182, ix_144_183, ix_144_185, ix_144_186, ix_144_187, ix_144_190, mC_144, mS_144, mH_144, sr_at, mr_0, mn_28, mn_32, mn_33, mn_34, mn_35, mn_36, mn_37, mn_38, mr_23, mr_27, mr_28, mr_29, mr_30, mr_31, mr_32, mp_38, ml_38, mw_0, mw_23, mw_27, mw_28, mw_29, mw_30, mw_31, mw_32, upd_z]
          try simp (disch := omega) only [z_lt, z_le, z_eq, z_in, z_nat, Int.toNat_natCast, upd_z, z_l, zl_0, zl_add, zl_sub, zl_mul, zl_i, zl_eq, zl_div, Int.reduceLT, Int.reduceLE, Int.reduceToNat, Nat.reduceAdd, Nat.reduceLeDiff, not_false_eq_true, true_and, and_true, hn, e1, b3.1, b4.1, (h30 k hk).1, hw]
          try simp only [z_mul, z_add, z_sub, upd_z, mw_31, mw_32]
          repeat' (first | (with_reducible refine ⟨?_, ?_⟩) | (with_reducible intro _))
          all_goals try (first | exact True.intro | with_reducible rfl | exact absurd True.intro (by assumption) | omega | (exfalso; omega) | (rw [if_pos (by omega)]; done) | (rw [if_neg (by omega)]; done) | (refine R_forget ?_ ih; (repeat first | exact wkl_nil | apply wkl_c | apply wkl_n); done))
        · subst hs
          rw [if_neg (by decide), ep] at ih
          refine R_hd ix_144_78 90 ?_
          simp only [run_s, run_0, isc, Bool.or_false, Bool.false_or, Bool.or_true, Bool.true_or, Bool.or_self, cond_false, cond_true, gl, sl, stl, stl2, c2, isw, nf, pf, lnb, tk, true_and, and_true, nsg0, nsg1, Int.cast_ofNat_Int, Int.natCast_zero, Int.natCast_one, zero_z, z_add, z_sub, z_mul, z_neg, cnd_eq, cnd_ne, cnd_lt, cnd_ge, cnd_gt, cnd_le, vok_0, vok_3r, vok_3n, vok_4, Nat.add_zero, Nat.zero_add, Nat.reduceAdd, Nat.reduceSub, Nat.reduceMod, Nat.reduceDiv, Nat.reduceEqDiff, Nat.reduceLeDiff, Nat.reduceMul, Int.reduceNeg, if_true, if_false, ite_true, ite_false, reduceIte, hup_app, Nat.add_left_cancel_iff, Nat.left_eq_add, Nat.add_eq_left, reduceCtorEq, subc_0, subc_1, subc_2, subc_3, subc_4, subc_5, subc_6, subc_7, subc_8, subc_9, subc_10, subc_11, subc_12, sube_2, sube_3, sube_5, sube_8, sube_9, sube_10, rets_ok, va_rfs, true_or, or_true, or_false, false_or, sI_aload_n, sI_bipush, sI_dup, sI_dup2, sI_getfield, sI_goto, sI_iadd, sI_iaload, sI_iastore, sI_iconst, sI_idiv, sI_ifCond, sI_if_icmp, sI_iinc, sI_iload, sI_iload_n, sI_imul, sI_invokevirtual, sI_istore, sI_istore_n, sI_isub, sI_putfield, sI_return_, ix_144_0, ix_144_1, ix_144_2, ix_144_5, ix_144_6, ix_144_7, ix_144_9, ix_144_11, ix_144_12, ix_144_13, ix_144_15, ix_144_17, ix_144_19, ix_144_20, ix_144_21, ix_144_22, ix_144_25, ix_144_26, ix_144_27, ix_144_28, ix_144_31, ix_144_33, ix_144_34, ix_144_37, ix_144_39, ix_144_40, ix_144_41, ix_144_44, ix_144_45, ix_144_46, ix_144_49, ix_144_50, ix_144_53, ix_144_55, ix_144_56, ix_144_59, ix_144_60, ix_144_61, ix_144_63, ix_144_66, ix_144_69, ix_144_70, ix_144_72, ix_144_74, ix_144_75, ix_144_76, ix_144_78, ix_144_80, ix_144_82, ix_144_83, ix_144_84, ix_144_85, ix_144_88, ix_144_89, ix_144_90, ix_144_91, ix_144_94, ix_144_95, ix_144_98, ix_144_100, ix_144_101, ix_144_102, ix_144_105, ix_144_106, ix_144_107, ix_144_110, ix_144_111, ix_144_112, ix_144_115, ix_144_117, ix_144_118, ix_144_119, ix_144_121, ix_144_122, ix_144_125, ix_144_126, ix_144_128, ix_144_129, ix_144_132, ix_144_134, ix_144_135, ix_144_138, ix_144_140, ix_144_143, ix_144_144, ix_144_145, ix_144_146, ix_144_149, ix_144_150, ix_144_153, ix_144_155, ix_144_156, ix_144_157, ix_144_158, ix_144_159, ix_144_161, ix_144_162, ix_144_163, ix_144_164, ix_144_166, ix_144_168, ix_144_169, ix_144_171, ix_144_174, ix_144_177, ix_144_178, ix_144_179, ix_144_182, ix_144_183, ix_144_185, ix_144_186, ix_144_187, ix_144_190, mC_144, mS_144, mH_144, sr_at, mr_0, mn_28, mn_32, mn_33, mn_34, mn_35, mn_36, mn_37, mn_38, mr_23, mr_27, mr_28, mr_29, mr_30, mr_31, mr_32, mp_38, ml_38, mw_0, mw_23, mw_27, mw_28, mw_29, mw_30, mw_31, mw_32, upd_z]
          try simp (disch := omega) only [z_lt, z_le, z_eq, z_in, z_nat, Int.toNat_natCast, upd_z, z_l, zl_0, zl_add, zl_sub, zl_mul, zl_i, zl_eq, zl_div, Int.reduceLT, Int.reduceLE, Int.reduceToNat, Nat.reduceAdd, Nat.reduceLeDiff, not_false_eq_true, true_and, and_true, hn, e1, b3.1, b4.1, (h30 k hk).1, hw]
          try simp only [z_mul, z_add, z_sub, upd_z, mw_31, mw_32]
          repeat' (first | (with_reducible refine ⟨?_, ?_⟩) | (with_reducible intro _))
          all_goals try (first | exact True.intro | with_reducible rfl | exact absurd True.intro (by assumption) | omega | (exfalso; omega) | (rw [if_pos (by omega)]; done) | (rw [if_neg (by omega)]; done) | (refine R_forget ?_ ih; (repeat first | exact wkl_nil | apply wkl_c | apply wkl_n); done))
  · have e1 : (10 * (g : Int) + (k : Int)).toNat = 10 * g + k := by omega
    have b4 := (h29 k hk)
    rw [show onW G w (k + 1) = onW G w k + (if G 4 k = w then G 5 k else 0) from rfl, show ((k + 1 : Nat) : Int) = (k : Int) + 1 by omega, ← Int.add_assoc] at ih
    by_cases q : G 4 k = w
    · rw [if_pos q] at ih
      refine R_hd ix_144_15 60 ?_
      simp only [run_s, run_0, isc, Bool.or_false, Bool.false_or, Bool.or_true, Bool.true_or, Bool.or_self, cond_false, cond_true, gl, sl, stl, stl2, c2, isw, nf, pf, lnb, tk, true_and, and_true, nsg0, nsg1, Int.cast_ofNat_Int, Int.natCast_zero, Int.natCast_one, zero_z, z_add, z_sub, z_mul, z_neg, cnd_eq, cnd_ne, cnd_lt, cnd_ge, cnd_gt, cnd_le, vok_0, vok_3r, vok_3n, vok_4, Nat.add_zero, Nat.zero_add, Nat.reduceAdd, Nat.reduceSub, Nat.reduceMod, Nat.reduceDiv, Nat.reduceEqDiff, Nat.reduceLeDiff, Nat.reduceMul, Int.reduceNeg, if_true, if_false, ite_true, ite_false, reduceIte, hup_app, Nat.add_left_cancel_iff, Nat.left_eq_add, Nat.add_eq_left, reduceCtorEq, subc_0, subc_1, subc_2, subc_3, subc_4, subc_5, subc_6, subc_7, subc_8, subc_9, subc_10, subc_11, subc_12, sube_2, sube_3, sube_5, sube_8, sube_9, sube_10, rets_ok, va_rfs, true_or, or_true, or_false, false_or, sI_aload_n, sI_bipush, sI_dup, sI_dup2, sI_getfield, sI_goto, sI_iadd, sI_iaload, sI_iastore, sI_iconst, sI_idiv, sI_ifCond, sI_if_icmp, sI_iinc, sI_iload, sI_iload_n, sI_imul, sI_invokevirtual, sI_istore, sI_istore_n, sI_isub, sI_putfield, sI_return_, ix_144_0, ix_144_1, ix_144_2, ix_144_5, ix_144_6, ix_144_7, ix_144_9, ix_144_11, ix_144_12, ix_144_13, ix_144_15, ix_144_17, ix_144_19, ix_144_20, ix_144_21, ix_144_22, ix_144_25, ix_144_26, ix_144_27, ix_144_28, ix_144_31, ix_144_33, ix_144_34, ix_144_37, ix_144_39, ix_144_40, ix_144_41, ix_144_44, ix_144_45, ix_144_46, ix_144_49, ix_144_50, ix_144_53, ix_144_55, ix_144_56, ix_144_59, ix_144_60, ix_144_61, ix_144_63, ix_144_66, ix_144_69, ix_144_70, ix_144_72, ix_144_74, ix_144_75, ix_144_76, ix_144_78, ix_144_80, ix_144_82, ix_144_83, ix_144_84, ix_144_85, ix_144_88, ix_144_89, ix_144_90, ix_144_91, ix_144_94, ix_144_95, ix_144_98, ix_144_100, ix_144_101, ix_144_102, ix_144_105, ix_144_106, ix_144_107, ix_144_110, ix_144_111, ix_144_112, ix_144_115, ix_144_117, ix_144_118, ix_144_119, ix_144_121, ix_144_122, ix_144_125, ix_144_126, ix_144_128, ix_144_129, ix_144_132, ix_144_134, ix_144_135, ix_144_138, ix_144_140, ix_144_143, ix_144_144, ix_144_145, ix_144_146, ix_144_149, ix_144_150, ix_144_153, ix_144_155, ix_144_156, ix_144_157, ix_144_158, ix_144_159, ix_144_161, ix_144_162, ix_144_163, ix_144_164, ix_144_166, ix_144_168, ix_144_169, ix_144_171, ix_144_174, ix_144_177, ix_144_178, ix_144_179, ix_144_182, ix_144_183, ix_144_185, ix_144_186, ix_144_187, ix_144_190, mC_144, mS_144, mH_144, sr_at, mr_0, mn_28, mn_32, mn_33, mn_34, mn_35, mn_36, mn_37, mn_38, mr_23, mr_27, mr_28, mr_29, mr_30, mr_31, mr_32, mp_38, ml_38, mw_0, mw_23, mw_27, mw_28, mw_29, mw_30, mw_31, mw_32, upd_z]
      try simp (disch := omega) only [z_lt, z_le, z_eq, z_in, z_nat, Int.toNat_natCast, upd_z, z_l, zl_0, zl_add, zl_sub, zl_mul, zl_i, zl_eq, zl_div, Int.reduceLT, Int.reduceLE, Int.reduceToNat, Nat.reduceAdd, Nat.reduceLeDiff, not_false_eq_true, true_and, and_true, hn, e1, b4.1, (h30 k hk).1, hw]
      repeat' (first | (with_reducible refine ⟨?_, ?_⟩) | (with_reducible intro _))
      all_goals try (first | exact True.intro | with_reducible rfl | exact absurd True.intro (by assumption) | omega | (exfalso; omega) | (rw [if_pos (by omega)]; done) | (rw [if_neg (by omega)]; done) | exact ih)
    · rw [if_neg q] at ih
      refine R_hd ix_144_15 60 ?_
      simp only [run_s, run_0, isc, Bool.or_false, Bool.false_or, Bool.or_true, Bool.true_or, Bool.or_self, cond_false, cond_true, gl, sl, stl, stl2, c2, isw, nf, pf, lnb, tk, true_and, and_true, nsg0, nsg1, Int.cast_ofNat_Int, Int.natCast_zero, Int.natCast_one, zero_z, z_add, z_sub, z_mul, z_neg, cnd_eq, cnd_ne, cnd_lt, cnd_ge, cnd_gt, cnd_le, vok_0, vok_3r, vok_3n, vok_4, Nat.add_zero, Nat.zero_add, Nat.reduceAdd, Nat.reduceSub, Nat.reduceMod, Nat.reduceDiv, Nat.reduceEqDiff, Nat.reduceLeDiff, Nat.reduceMul, Int.reduceNeg, if_true, if_false, ite_true, ite_false, reduceIte, hup_app, Nat.add_left_cancel_iff, Nat.left_eq_add, Nat.add_eq_left, reduceCtorEq, subc_0, subc_1, subc_2, subc_3, subc_4, subc_5, subc_6, subc_7, subc_8, subc_9, subc_10, subc_11, subc_12, sube_2, sube_3, sube_5, sube_8, sube_9, sube_10, rets_ok, va_rfs, true_or, or_true, or_false, false_or, sI_aload_n, sI_bipush, sI_dup, sI_dup2, sI_getfield, sI_goto, sI_iadd, sI_iaload, sI_iastore, sI_iconst, sI_idiv, sI_ifCond, sI_if_icmp, sI_iinc, sI_iload, sI_iload_n, sI_imul, sI_invokevirtual, sI_istore, sI_istore_n, sI_isub, sI_putfield, sI_return_, ix_144_0, ix_144_1, ix_144_2, ix_144_5, ix_144_6, ix_144_7, ix_144_9, ix_144_11, ix_144_12, ix_144_13, ix_144_15, ix_144_17, ix_144_19, ix_144_20, ix_144_21, ix_144_22, ix_144_25, ix_144_26, ix_144_27, ix_144_28, ix_144_31, ix_144_33, ix_144_34, ix_144_37, ix_144_39, ix_144_40, ix_144_41, ix_144_44, ix_144_45, ix_144_46, ix_144_49, ix_144_50, ix_144_53, ix_144_55, ix_144_56, ix_144_59, ix_144_60, ix_144_61, ix_144_63, ix_144_66, ix_144_69, ix_144_70, ix_144_72, ix_144_74, ix_144_75, ix_144_76, ix_144_78, ix_144_80, ix_144_82, ix_144_83, ix_144_84, ix_144_85, ix_144_88, ix_144_89, ix_144_90, ix_144_91, ix_144_94, ix_144_95, ix_144_98, ix_144_100, ix_144_101, ix_144_102, ix_144_105, ix_144_106, ix_144_107, ix_144_110, ix_144_111, ix_144_112, ix_144_115, ix_144_117, ix_144_118, ix_144_119, ix_144_121, ix_144_122, ix_144_125, ix_144_126, ix_144_128, ix_144_129, ix_144_132, ix_144_134, ix_144_135, ix_144_138, ix_144_140, ix_144_143, ix_144_144, ix_144_145, ix_144_146, ix_144_149, ix_144_150, ix_144_153, ix_144_155, ix_144_156, ix_144_157, ix_144_158, ix_144_159, ix_144_161, ix_144_162, ix_144_163, ix_144_164, ix_144_166, ix_144_168, ix_144_169, ix_144_171, ix_144_174, ix_144_177, ix_144_178, ix_144_179, ix_144_182, ix_144_183, ix_144_185, ix_144_186, ix_144_187, ix_144_190, mC_144, mS_144, mH_144, sr_at, mr_0, mn_28, mn_32, mn_33, mn_34, mn_35, mn_36, mn_37, mn_38, mr_23, mr_27, mr_28, mr_29, mr_30, mr_31, mr_32, mp_38, ml_38, mw_0, mw_23, mw_27, mw_28, mw_29, mw_30, mw_31, mw_32, upd_z]
      try simp (disch := omega) only [z_lt, z_le, z_eq, z_in, z_nat, Int.toNat_natCast, upd_z, z_l, zl_0, zl_add, zl_sub, zl_mul, zl_i, zl_eq, zl_div, Int.reduceLT, Int.reduceLE, Int.reduceToNat, Nat.reduceAdd, Nat.reduceLeDiff, not_false_eq_true, true_and, and_true, hn, e1, b4.1, (h30 k hk).1, hw]
      repeat' (first | (with_reducible refine ⟨?_, ?_⟩) | (with_reducible intro _))
      all_goals try (first | exact True.intro | with_reducible rfl | exact absurd True.intro (by assumption) | omega | (exfalso; omega) | (rw [if_pos (by omega)]; done) | (rw [if_neg (by omega)]; done) | exact ih)
end MODEL2
