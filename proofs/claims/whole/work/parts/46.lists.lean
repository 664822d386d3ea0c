/-! ===== ArrayList: size, get, add, remove of the last ===== -/
def isL (E : EX) (h : AH) (l arr n : Nat) (f : Nat → Nat) : Prop := ∃ (mc : Int) (cap : Nat) (g : Nat → Option Nat),
  h l = some (.inr (0, [.int (z mc), .ref arr, .int (z (n : Int))])) ∧ ((arr = E.2.1 ∧ cap = 0 ∧ h arr = none) ∨ (0 < cap ∧ h arr = some (.inl (3, cap, .inr (.inr (.inr (.inr g))))))) ∧ n ≤ cap ∧ cap ≤ 600 ∧ (∀ i, i < n → g i = some (f i)) ∧ (∀ i, i < n → ∃ ci fs, h (f i) = some (.inr (ci, fs)) ∧ ci < 13)
theorem hup_hup (h : AH) (a : Nat) (c e : va_E) : hup (hup h a c) a e = hup h a e := by
  funext q
  unfold hup
  by_cases hq : q = a
  · rw [if_pos hq, if_pos hq]
  · rw [if_neg hq, if_neg hq, if_neg hq]
section RLIST
variable {E : EX} {mcs : Nat → Nat × Nat} {call : CT} {d : Nat} {r : MI} {Q : QT} {pc n y q a : Nat} {L : LV} {S rest : List Value} {h : AH} {sz nc ns : Nat} {b : Bool}
/- getClass of an array of objects -/
theorem R_gc {x m : Nat} {u : vp_A} (hl : lkp pc (mI r) = some (b, .invokevirtual q, n, x, y)) (hx : x = 1003) (ha : h a = some (.inl (3, u))) (hc : catS rest ≤ 8) (hd : 1 ≤ d) (k : Rr E mcs call d r Q n L (.ref E.2.2 :: rest) h sz nc ns) : Rr E mcs call d r Q pc L (.ref a :: rest) h sz nc ns := by
  refine R_intro ?_
  unfold stp
  rw [hl]
  show (if x = 1003 then _ else _)
  rw [if_pos hx]
  try dsimp only
  rw [ha]
  exact ⟨rfl, hc, hd, k⟩
/- arraycopy of objects -/
theorem R_cpO {x a' m0 m1 nn : Nat} {f g : Nat → Option Nat} (hl : lkp pc (mI r) = some (b, .invokestatic q, n, x, y)) (hx : x = 1001) (ha : h a = some (.inl (3, m0, .inr (.inr (.inr (.inr f)))))) (hb : h a' = some (.inl (3, m1, .inr (.inr (.inr (.inr g)))))) (hs : nn ≤ m0 ∧ nn ≤ m1 ∧ nn ≤ 10000) (he : ∀ j, j < nn → ∀ w, f j = some w → ∃ ci fs, h w = some (.inr (ci, fs)) ∧ ci < 13) (hc : catS rest ≤ 8) (hd : 1 ≤ d) (k : Rr E mcs call d r Q n L rest (hup h a' (.inl (3, m1, .inr (.inr (.inr (.inr (va_cpy f g 0 0 nn))))))) sz nc ns) : Rr E mcs call d r Q pc L (.int (z (nn : Int)) :: .int (z 0) :: .ref a' :: .int (z 0) :: .ref a :: rest) h sz nc ns := by
  refine R_intro ?_
  unfold stp
  rw [hl]
  try dsimp only
  rw [sI_invokestatic, if_neg (by omega), if_pos hx]
  try dsimp only
  rw [ha]
  try dsimp only
  rw [hb]
  try dsimp only
  rw [zero_z, z_lt (by omega) (by omega) (by omega) (by omega), z_lt (by omega) (by omega) (by omega) (by omega), z_nat (by omega) (by omega), z_nat (by omega) (by omega)]
  refine ⟨rfl, rfl, by omega, by omega, by omega, by omega, by omega, ?_, hc, hd, k⟩
  intro j hj w hw
  refine he j (by omega) w ?_
  rw [show Int.toNat 0 + j = j from Nat.zero_add j] at hw
  exact hw
end RLIST
section LISTS
variable {E : EX} {d : Nat} {h : AH} {sz l arr n w : Nat} {f : Nat → Nat}
set_option maxRecDepth 16384 in
theorem sp_210 {i m : Int} (hi : 0 ≤ i ∧ i < m ∧ m ≤ 1000000) : Sp E (d + 1) 210 [.int (z i), .int (z m), .null] h sz (rets (some (.int (z i))) h sz) := by
  refine ⟨mi_210, mt_210, Nat.le_of_ble_eq_true rfl, ?_⟩
  change Rr _ _ _ _ mi_210 _ 0 [some (.int (z i)), some (.int (z m)), some (.null)] [] _ _ 0 0
  refine R_run 60 ?_
  simp only [run_s, run_0, isc, Bool.or_false, Bool.false_or, Bool.or_true, Bool.true_or, Bool.or_self, cond_false, cond_true, gl, sl, stl, stl2, c2, isw, nf, pf, lnb, tk, true_and, and_true, nsg0, nsg1, Int.cast_ofNat_Int, Int.natCast_zero, Int.natCast_one, zero_z, z_add, z_sub, z_mul, z_neg, cnd_eq, cnd_ne, cnd_lt, cnd_ge, cnd_gt, cnd_le, vok_0, vok_3r, vok_3n, vok_4, Nat.add_zero, Nat.zero_add, Nat.reduceAdd, Nat.reduceSub, Nat.reduceMod, Nat.reduceDiv, Nat.reduceEqDiff, Nat.reduceLeDiff, Nat.reduceMul, Int.reduceNeg, if_true, if_false, ite_true, ite_false, reduceIte, hup_app, Nat.add_left_cancel_iff, Nat.left_eq_add, Nat.add_eq_left, reduceCtorEq, subc_0, subc_1, subc_2, subc_3, subc_4, subc_5, subc_6, subc_7, subc_8, subc_9, subc_10, subc_11, subc_12, sube_2, sube_3, sube_5, sube_8, sube_9, sube_10, rets_ok, va_rfs, true_or, or_true, or_false, false_or, sI_aload_n, sI_ifCond, sI_if_icmp, sI_iload_n, sI_ireturn, ix_210_0, ix_210_1, ix_210_4, ix_210_5, ix_210_6, ix_210_9, ix_210_10, ix_210_11, ix_210_16, ix_210_17, mC_210, mS_210, mH_210]
  try simp (disch := omega) only [z_lt, z_le, z_eq, z_in, z_nat, Int.toNat_natCast, upd_z, z_l, zl_0, zl_add, zl_sub, zl_mul, zl_i, zl_eq, zl_div, Int.reduceLT, Int.reduceLE, Int.reduceToNat, Nat.reduceAdd, Nat.reduceLeDiff, not_false_eq_true, true_and, and_true]
  repeat' (first | (with_reducible refine ⟨?_, ?_⟩) | (with_reducible intro _))
  all_goals try (first | exact True.intro | with_reducible rfl | exact absurd True.intro (by assumption) | omega | (exfalso; omega) | (rw [if_pos (by omega)]; done) | (rw [if_neg (by omega)]; done))
set_option maxRecDepth 16384 in
theorem sp_208 {i m : Int} (hi : 0 ≤ i ∧ i < m ∧ m ≤ 1000000) : Sp E (d + 2) 208 [.int (z i), .int (z m)] h sz (rets (some (.int (z i))) h sz) := by
  refine ⟨mi_208, mt_208, Nat.le_of_ble_eq_true rfl, ?_⟩
  change Rr _ _ _ _ mi_208 _ 0 [some (.int (z i)), some (.int (z m))] [] _ _ 0 0
  refine R_run 60 ?_
  simp only [run_s, run_0, isc, Bool.or_false, Bool.false_or, Bool.or_true, Bool.true_or, Bool.or_self, cond_false, cond_true, gl, sl, stl, stl2, c2, isw, nf, pf, lnb, tk, true_and, and_true, nsg0, nsg1, Int.cast_ofNat_Int, Int.natCast_zero, Int.natCast_one, zero_z, z_add, z_sub, z_mul, z_neg, cnd_eq, cnd_ne, cnd_lt, cnd_ge, cnd_gt, cnd_le, vok_0, vok_3r, vok_3n, vok_4, Nat.add_zero, Nat.zero_add, Nat.reduceAdd, Nat.reduceSub, Nat.reduceMod, Nat.reduceDiv, Nat.reduceEqDiff, Nat.reduceLeDiff, Nat.reduceMul, Int.reduceNeg, if_true, if_false, ite_true, ite_false, reduceIte, hup_app, Nat.add_left_cancel_iff, Nat.left_eq_add, Nat.add_eq_left, reduceCtorEq, subc_0, subc_1, subc_2, subc_3, subc_4, subc_5, subc_6, subc_7, subc_8, subc_9, subc_10, subc_11, subc_12, sube_2, sube_3, sube_5, sube_8, sube_9, sube_10, rets_ok, va_rfs, true_or, or_true, or_false, false_or, sI_aconst_null, sI_iload_n, sI_invokestatic, sI_ireturn, ix_208_0, ix_208_1, ix_208_2, ix_208_3, ix_208_6, mC_208, mS_208, mH_208]
  refine R_cS ix_208_3 (by decide) rfl (sp_210 (d := d) hi) (Nat.le_of_ble_eq_true rfl) (by rw [mcs_210, mC_208]; omega) (by rw [mcs_210, mS_208]; omega) ?_
  simp only [mcs_210, vpu, Nat.add_zero, Nat.zero_add, Nat.reduceAdd]
  refine R_run 60 ?_
  simp only [run_s, run_0, isc, Bool.or_false, Bool.false_or, Bool.or_true, Bool.true_or, Bool.or_self, cond_false, cond_true, gl, sl, stl, stl2, c2, isw, nf, pf, lnb, tk, true_and, and_true, nsg0, nsg1, Int.cast_ofNat_Int, Int.natCast_zero, Int.natCast_one, zero_z, z_add, z_sub, z_mul, z_neg, cnd_eq, cnd_ne, cnd_lt, cnd_ge, cnd_gt, cnd_le, vok_0, vok_3r, vok_3n, vok_4, Nat.add_zero, Nat.zero_add, Nat.reduceAdd, Nat.reduceSub, Nat.reduceMod, Nat.reduceDiv, Nat.reduceEqDiff, Nat.reduceLeDiff, Nat.reduceMul, Int.reduceNeg, if_true, if_false, ite_true, ite_false, reduceIte, hup_app, Nat.add_left_cancel_iff, Nat.left_eq_add, Nat.add_eq_left, reduceCtorEq, subc_0, subc_1, subc_2, subc_3, subc_4, subc_5, subc_6, subc_7, subc_8, subc_9, subc_10, subc_11, subc_12, sube_2, sube_3, sube_5, sube_8, sube_9, sube_10, rets_ok, va_rfs, true_or, or_true, or_false, false_or, sI_aconst_null, sI_iload_n, sI_invokestatic, sI_ireturn, ix_208_0, ix_208_1, ix_208_2, ix_208_3, ix_208_6, mC_208, mS_208, mH_208]
set_option maxRecDepth 16384 in
theorem sp_199 (hL : isL E h l arr n f) : Sp E (d + 1) 199 [.ref l] h sz (rets (some (.int (z (n : Int)))) h sz) := by
  obtain ⟨mc, cap, g, h0, -⟩ := hL
  refine ⟨mi_199, mt_199, Nat.le_of_ble_eq_true rfl, ?_⟩
  change Rr _ _ _ _ mi_199 _ 0 [some (.ref l)] [] _ _ 0 0
  refine R_run 60 ?_
  simp only [run_s, run_0, isc, Bool.or_false, Bool.false_or, Bool.or_true, Bool.true_or, Bool.or_self, cond_false, cond_true, gl, sl, stl, stl2, c2, isw, nf, pf, lnb, tk, true_and, and_true, nsg0, nsg1, Int.cast_ofNat_Int, Int.natCast_zero, Int.natCast_one, zero_z, z_add, z_sub, z_mul, z_neg, cnd_eq, cnd_ne, cnd_lt, cnd_ge, cnd_gt, cnd_le, vok_0, vok_3r, vok_3n, vok_4, Nat.add_zero, Nat.zero_add, Nat.reduceAdd, Nat.reduceSub, Nat.reduceMod, Nat.reduceDiv, Nat.reduceEqDiff, Nat.reduceLeDiff, Nat.reduceMul, Int.reduceNeg, if_true, if_false, ite_true, ite_false, reduceIte, hup_app, Nat.add_left_cancel_iff, Nat.left_eq_add, Nat.add_eq_left, reduceCtorEq, subc_0, subc_1, subc_2, subc_3, subc_4, subc_5, subc_6, subc_7, subc_8, subc_9, subc_10, subc_11, subc_12, sube_2, sube_3, sube_5, sube_8, sube_9, sube_10, rets_ok, va_rfs, true_or, or_true, or_false, false_or, sI_aload_n, sI_getfield, sI_ireturn, ix_199_0, ix_199_1, ix_199_4, mC_199, mS_199, mH_199, h0]
set_option maxRecDepth 16384 in
theorem sp_200 {i : Nat} (hL : isL E h l arr n f) (hi : i < n) : Sp E (d + 1) 200 [.ref l, .int (z (i : Int))] h sz (rets (some (.ref (f i))) h sz) := by
  obtain ⟨mc, cap, g, h0, h1, h2, h3, h4, h5⟩ := hL
  rcases h1 with ⟨-, h1, -⟩ | ⟨-, h1⟩
  · omega
  have e := h4 i hi
  refine ⟨mi_200, mt_200, Nat.le_of_ble_eq_true rfl, ?_⟩
  change Rr _ _ _ _ mi_200 _ 0 [some (.ref l), some (.int (z (i : Int)))] [] _ _ 0 0
  refine R_run 60 ?_
  simp only [run_s, run_0, isc, Bool.or_false, Bool.false_or, Bool.or_true, Bool.true_or, Bool.or_self, cond_false, cond_true, gl, sl, stl, stl2, c2, isw, nf, pf, lnb, tk, true_and, and_true, nsg0, nsg1, Int.cast_ofNat_Int, Int.natCast_zero, Int.natCast_one, zero_z, z_add, z_sub, z_mul, z_neg, cnd_eq, cnd_ne, cnd_lt, cnd_ge, cnd_gt, cnd_le, vok_0, vok_3r, vok_3n, vok_4, Nat.add_zero, Nat.zero_add, Nat.reduceAdd, Nat.reduceSub, Nat.reduceMod, Nat.reduceDiv, Nat.reduceEqDiff, Nat.reduceLeDiff, Nat.reduceMul, Int.reduceNeg, if_true, if_false, ite_true, ite_false, reduceIte, hup_app, Nat.add_left_cancel_iff, Nat.left_eq_add, Nat.add_eq_left, reduceCtorEq, subc_0, subc_1, subc_2, subc_3, subc_4, subc_5, subc_6, subc_7, subc_8, subc_9, subc_10, subc_11, subc_12, sube_2, sube_3, sube_5, sube_8, sube_9, sube_10, rets_ok, va_rfs, true_or, or_true, or_false, false_or, sI_aaload, sI_aload_n, sI_areturn, sI_getfield, sI_iload_n, ix_200_0, ix_200_1, ix_200_4, ix_200_5, ix_200_6, mC_200, mS_200, mH_200, h0, h1]
  try simp (disch := omega) only [z_lt, z_le, z_eq, z_in, z_nat, Int.toNat_natCast, upd_z, z_l, zl_0, zl_add, zl_sub, zl_mul, zl_i, zl_eq, zl_div, Int.reduceLT, Int.reduceLE, Int.reduceToNat, Nat.reduceAdd, Nat.reduceLeDiff, not_false_eq_true, true_and, and_true, e, va_rfs]
  repeat' (first | (with_reducible refine ⟨?_, ?_⟩) | (with_reducible intro _))
  all_goals try (first | exact True.intro | with_reducible rfl | exact absurd True.intro (by assumption) | omega | (exfalso; omega) | (rw [if_pos (by omega)]; done) | (rw [if_neg (by omega)]; done))
set_option maxRecDepth 16384 in
theorem sp_201 {i : Nat} (hL : isL E h l arr n f) (hi : i < n) : Sp E (d + 3) 201 [.ref l, .int (z (i : Int))] h sz (rets (some (.ref (f i))) h sz) := by
  have hL' := hL
  obtain ⟨mc, cap, g, h0, h1, h2, h3, h4, h5⟩ := hL
  refine ⟨mi_201, mt_201, Nat.le_of_ble_eq_true rfl, ?_⟩
  change Rr _ _ _ _ mi_201 _ 0 [some (.ref l), some (.int (z (i : Int)))] [] _ _ 0 0
  refine R_run 60 ?_
  simp only [run_s, run_0, isc, Bool.or_false, Bool.false_or, Bool.or_true, Bool.true_or, Bool.or_self, cond_false, cond_true, gl, sl, stl, stl2, c2, isw, nf, pf, lnb, tk, true_and, and_true, nsg0, nsg1, Int.cast_ofNat_Int, Int.natCast_zero, Int.natCast_one, zero_z, z_add, z_sub, z_mul, z_neg, cnd_eq, cnd_ne, cnd_lt, cnd_ge, cnd_gt, cnd_le, vok_0, vok_3r, vok_3n, vok_4, Nat.add_zero, Nat.zero_add, Nat.reduceAdd, Nat.reduceSub, Nat.reduceMod, Nat.reduceDiv, Nat.reduceEqDiff, Nat.reduceLeDiff, Nat.reduceMul, Int.reduceNeg, if_true, if_false, ite_true, ite_false, reduceIte, hup_app, Nat.add_left_cancel_iff, Nat.left_eq_add, Nat.add_eq_left, reduceCtorEq, subc_0, subc_1, subc_2, subc_3, subc_4, subc_5, subc_6, subc_7, subc_8, subc_9, subc_10, subc_11, subc_12, sube_2, sube_3, sube_5, sube_8, sube_9, sube_10, rets_ok, va_rfs, true_or, or_true, or_false, false_or, sI_aload_n, sI_areturn, sI_getfield, sI_iload_n, sI_invokestatic, sI_invokevirtual, sI_pop, ix_201_0, ix_201_1, ix_201_2, ix_201_5, ix_201_8, ix_201_9, ix_201_10, ix_201_11, ix_201_14, mC_201, mS_201, mH_201, h0]
  refine R_cS ix_201_5 (by decide) rfl (sp_208 (d := d) (by omega)) (Nat.le_of_ble_eq_true rfl) (by rw [mcs_208, mC_201]; omega) (by rw [mcs_208, mS_201]; omega) ?_
  simp only [mcs_208, vpu, Nat.add_zero, Nat.zero_add, Nat.reduceAdd]
  refine R_run 60 ?_
  simp only [run_s, run_0, isc, Bool.or_false, Bool.false_or, Bool.or_true, Bool.true_or, Bool.or_self, cond_false, cond_true, gl, sl, stl, stl2, c2, isw, nf, pf, lnb, tk, true_and, and_true, nsg0, nsg1, Int.cast_ofNat_Int, Int.natCast_zero, Int.natCast_one, zero_z, z_add, z_sub, z_mul, z_neg, cnd_eq, cnd_ne, cnd_lt, cnd_ge, cnd_gt, cnd_le, vok_0, vok_3r, vok_3n, vok_4, Nat.add_zero, Nat.zero_add, Nat.reduceAdd, Nat.reduceSub, Nat.reduceMod, Nat.reduceDiv, Nat.reduceEqDiff, Nat.reduceLeDiff, Nat.reduceMul, Int.reduceNeg, if_true, if_false, ite_true, ite_false, reduceIte, hup_app, Nat.add_left_cancel_iff, Nat.left_eq_add, Nat.add_eq_left, reduceCtorEq, subc_0, subc_1, subc_2, subc_3, subc_4, subc_5, subc_6, subc_7, subc_8, subc_9, subc_10, subc_11, subc_12, sube_2, sube_3, sube_5, sube_8, sube_9, sube_10, rets_ok, va_rfs, true_or, or_true, or_false, false_or, sI_aload_n, sI_areturn, sI_getfield, sI_iload_n, sI_invokestatic, sI_invokevirtual, sI_pop, ix_201_0, ix_201_1, ix_201_2, ix_201_5, ix_201_8, ix_201_9, ix_201_10, ix_201_11, ix_201_14, mC_201, mS_201, mH_201]
  refine R_cV ix_201_11 (by decide) (by decide) rfl (h0) rfl (sp_200 (d := d + 1) hL' hi) (Nat.le_of_ble_eq_true rfl) (by rw [mcs_200, mC_201]; omega) (by rw [mcs_200, mS_201]; omega) ?_
  simp only [mcs_200, vpu, Nat.add_zero, Nat.zero_add, Nat.reduceAdd]
  refine R_run 60 ?_
  simp only [run_s, run_0, isc, Bool.or_false, Bool.false_or, Bool.or_true, Bool.true_or, Bool.or_self, cond_false, cond_true, gl, sl, stl, stl2, c2, isw, nf, pf, lnb, tk, true_and, and_true, nsg0, nsg1, Int.cast_ofNat_Int, Int.natCast_zero, Int.natCast_one, zero_z, z_add, z_sub, z_mul, z_neg, cnd_eq, cnd_ne, cnd_lt, cnd_ge, cnd_gt, cnd_le, vok_0, vok_3r, vok_3n, vok_4, Nat.add_zero, Nat.zero_add, Nat.reduceAdd, Nat.reduceSub, Nat.reduceMod, Nat.reduceDiv, Nat.reduceEqDiff, Nat.reduceLeDiff, Nat.reduceMul, Int.reduceNeg, if_true, if_false, ite_true, ite_false, reduceIte, hup_app, Nat.add_left_cancel_iff, Nat.left_eq_add, Nat.add_eq_left, reduceCtorEq, subc_0, subc_1, subc_2, subc_3, subc_4, subc_5, subc_6, subc_7, subc_8, subc_9, subc_10, subc_11, subc_12, sube_2, sube_3, sube_5, sube_8, sube_9, sube_10, rets_ok, va_rfs, true_or, or_true, or_false, false_or, sI_aload_n, sI_areturn, sI_getfield, sI_iload_n, sI_invokestatic, sI_invokevirtual, sI_pop, ix_201_0, ix_201_1, ix_201_2, ix_201_5, ix_201_8, ix_201_9, ix_201_10, ix_201_11, ix_201_14, mC_201, mS_201, mH_201]
set_option maxRecDepth 16384 in
theorem sp_209 {o p : Nat} (ho : o ≤ 1000 ∧ p ≤ 1000) : Sp E (d + 2) 209 [.int (z (o : Int)), .int (z 1), .int (z (p : Int))] h sz (rets (some (.int (z ((o + (if 1 < p then p else 1) : Nat) : Int)))) h sz) := by
  have e : (o : Int) + (if (1 : Int) < (p : Int) then (p : Int) else 1) = ((o + (if 1 < p then p else 1) : Nat) : Int) := by
    by_cases h1 : 1 < p
    · rw [if_pos (by omega), if_pos h1]; omega
    · rw [if_neg (by omega), if_neg h1]; omega
  have e2 : o + (if 1 < p then p else 1) ≤ 2001 ∧ 0 < o + (if 1 < p then p else 1) := by split <;> omega
  refine ⟨mi_209, mt_209, Nat.le_of_ble_eq_true rfl, ?_⟩
  change Rr _ _ _ _ mi_209 _ 0 [some (.int (z (o : Int))), some (.int (z 1)), some (.int (z (p : Int))), none] [] _ _ 0 0
  refine R_run 60 ?_
  simp only [run_s, run_0, isc, Bool.or_false, Bool.false_or, Bool.or_true, Bool.true_or, Bool.or_self, cond_false, cond_true, gl, sl, stl, stl2, c2, isw, nf, pf, lnb, tk, true_and, and_true, nsg0, nsg1, Int.cast_ofNat_Int, Int.natCast_zero, Int.natCast_one, zero_z, z_add, z_sub, z_mul, z_neg, cnd_eq, cnd_ne, cnd_lt, cnd_ge, cnd_gt, cnd_le, vok_0, vok_3r, vok_3n, vok_4, Nat.add_zero, Nat.zero_add, Nat.reduceAdd, Nat.reduceSub, Nat.reduceMod, Nat.reduceDiv, Nat.reduceEqDiff, Nat.reduceLeDiff, Nat.reduceMul, Int.reduceNeg, if_true, if_false, ite_true, ite_false, reduceIte, hup_app, Nat.add_left_cancel_iff, Nat.left_eq_add, Nat.add_eq_left, reduceCtorEq, subc_0, subc_1, subc_2, subc_3, subc_4, subc_5, subc_6, subc_7, subc_8, subc_9, subc_10, subc_11, subc_12, sube_2, sube_3, sube_5, sube_8, sube_9, sube_10, rets_ok, va_rfs, true_or, or_true, or_false, false_or, sI_iadd, sI_iconst, sI_if_icmp, sI_iload_n, sI_invokestatic, sI_ireturn, sI_istore_n, sI_ldc, ix_209_0, ix_209_1, ix_209_2, ix_209_3, ix_209_6, ix_209_7, ix_209_8, ix_209_9, ix_209_10, ix_209_13, ix_209_14, ix_209_16, ix_209_19, ix_209_20, ix_209_21, ix_209_22, ix_209_26, mC_209, mS_209, mH_209]
  refine R_max ix_209_3 (by omega) (by omega) (Nat.le_of_ble_eq_true rfl) (by omega) ?_
  refine R_run 60 ?_
  simp only [run_s, run_0, isc, Bool.or_false, Bool.false_or, Bool.or_true, Bool.true_or, Bool.or_self, cond_false, cond_true, gl, sl, stl, stl2, c2, isw, nf, pf, lnb, tk, true_and, and_true, nsg0, nsg1, Int.cast_ofNat_Int, Int.natCast_zero, Int.natCast_one, zero_z, z_add, z_sub, z_mul, z_neg, cnd_eq, cnd_ne, cnd_lt, cnd_ge, cnd_gt, cnd_le, vok_0, vok_3r, vok_3n, vok_4, Nat.add_zero, Nat.zero_add, Nat.reduceAdd, Nat.reduceSub, Nat.reduceMod, Nat.reduceDiv, Nat.reduceEqDiff, Nat.reduceLeDiff, Nat.reduceMul, Int.reduceNeg, if_true, if_false, ite_true, ite_false, reduceIte, hup_app, Nat.add_left_cancel_iff, Nat.left_eq_add, Nat.add_eq_left, reduceCtorEq, subc_0, subc_1, subc_2, subc_3, subc_4, subc_5, subc_6, subc_7, subc_8, subc_9, subc_10, subc_11, subc_12, sube_2, sube_3, sube_5, sube_8, sube_9, sube_10, rets_ok, va_rfs, true_or, or_true, or_false, false_or, sI_iadd, sI_iconst, sI_if_icmp, sI_iload_n, sI_invokestatic, sI_ireturn, sI_istore_n, sI_ldc, ix_209_0, ix_209_1, ix_209_2, ix_209_3, ix_209_6, ix_209_7, ix_209_8, ix_209_9, ix_209_10, ix_209_13, ix_209_14, ix_209_16, ix_209_19, ix_209_20, ix_209_21, ix_209_22, ix_209_26, mC_209, mS_209, mH_209, nI_z, e]
  generalize o + (if 1 < p then p else 1) = q at *
  try simp (disch := omega) only [z_lt, z_le, z_eq, z_in, z_nat, Int.toNat_natCast, upd_z, z_l, zl_0, zl_add, zl_sub, zl_mul, zl_i, zl_eq, zl_div, Int.reduceLT, Int.reduceLE, Int.reduceToNat, Nat.reduceAdd, Nat.reduceLeDiff, not_false_eq_true, true_and, and_true]
  repeat' (first | (with_reducible refine ⟨?_, ?_⟩) | (with_reducible intro _))
  all_goals try (first | exact True.intro | with_reducible rfl | exact absurd True.intro (by assumption) | omega | (exfalso; omega) | (rw [if_pos (by omega)]; done) | (rw [if_neg (by omega)]; done))
set_option maxRecDepth 16384 in
theorem sp_207 {a k m : Nat} {g : Nat → Option Nat} (ha : h a = some (.inl (3, k, .inr (.inr (.inr (.inr g)))))) (haz : a < sz) (hk : k ≤ m ∧ m ≤ 600) (he : ∀ j, j < k → ∀ w, g j = some w → w < sz ∧ ∃ ci fs, h w = some (.inr (ci, fs)) ∧ ci < 13) : Sp E (d + 2) 207 [.ref a, .int (z (m : Int)), .ref E.2.2] h sz (rets (some (.ref sz)) (hup h sz (.inl (3, m, .inr (.inr (.inr (.inr (va_cpy g (fun _ => none) 0 0 k))))))) (sz + 1)) := by
  have ne0 : (a = sz) = False := eq_false (by omega)
  have emin : (if (m : Int) < (k : Int) then (m : Int) else (k : Int)) = (k : Int) := by rw [if_neg (by omega)]
  refine ⟨mi_207, mt_207, Nat.le_of_ble_eq_true rfl, ?_⟩
  change Rr _ _ _ _ mi_207 _ 0 [some (.ref a), some (.int (z (m : Int))), some (.ref E.2.2), none] [] _ _ 0 0
  refine R_run 60 ?_
  simp only [run_s, run_0, isc, Bool.or_false, Bool.false_or, Bool.or_true, Bool.true_or, Bool.or_self, cond_false, cond_true, gl, sl, stl, stl2, c2, isw, nf, pf, lnb, tk, true_and, and_true, nsg0, nsg1, Int.cast_ofNat_Int, Int.natCast_zero, Int.natCast_one, zero_z, z_add, z_sub, z_mul, z_neg, cnd_eq, cnd_ne, cnd_lt, cnd_ge, cnd_gt, cnd_le, vok_0, vok_3r, vok_3n, vok_4, Nat.add_zero, Nat.zero_add, Nat.reduceAdd, Nat.reduceSub, Nat.reduceMod, Nat.reduceDiv, Nat.reduceEqDiff, Nat.reduceLeDiff, Nat.reduceMul, Int.reduceNeg, if_true, if_false, ite_true, ite_false, reduceIte, hup_app, Nat.add_left_cancel_iff, Nat.left_eq_add, Nat.add_eq_left, reduceCtorEq, subc_0, subc_1, subc_2, subc_3, subc_4, subc_5, subc_6, subc_7, subc_8, subc_9, subc_10, subc_11, subc_12, sube_2, sube_3, sube_5, sube_8, sube_9, sube_10, rets_ok, va_rfs, true_or, or_true, or_false, false_or, sI_aload_n, sI_anewarray, sI_areturn, sI_arraylength, sI_astore_n, sI_goto, sI_iconst, sI_if_acmp, sI_iload_n, sI_invokestatic, sI_ldc, ix_207_0, ix_207_1, ix_207_3, ix_207_6, ix_207_7, ix_207_10, ix_207_13, ix_207_17, ix_207_24, ix_207_25, ix_207_26, ix_207_27, ix_207_28, ix_207_29, ix_207_30, ix_207_31, ix_207_32, ix_207_35, ix_207_38, ix_207_39, mC_207, mS_207, mH_207, ne0, ha, nI_z]
  try simp (disch := omega) only [z_lt, z_le, z_eq, z_in, z_nat, Int.toNat_natCast, upd_z, z_l, zl_0, zl_add, zl_sub, zl_mul, zl_i, zl_eq, zl_div, Int.reduceLT, Int.reduceLE, Int.reduceToNat, Nat.reduceAdd, Nat.reduceLeDiff, not_false_eq_true, true_and, and_true]
  refine ⟨fun q => absurd True.intro q, fun _ => ⟨by omega, by omega, by omega, ?_⟩⟩
  refine R_min ix_207_32 (by omega) (by omega) (Nat.le_of_ble_eq_true rfl) (by omega) ?_
  rw [emin]
  refine R_run 60 ?_
  simp only [run_s, run_0, isc, Bool.or_false, Bool.false_or, Bool.or_true, Bool.true_or, Bool.or_self, cond_false, cond_true, gl, sl, stl, stl2, c2, isw, nf, pf, lnb, tk, true_and, and_true, nsg0, nsg1, Int.cast_ofNat_Int, Int.natCast_zero, Int.natCast_one, zero_z, z_add, z_sub, z_mul, z_neg, cnd_eq, cnd_ne, cnd_lt, cnd_ge, cnd_gt, cnd_le, vok_0, vok_3r, vok_3n, vok_4, Nat.add_zero, Nat.zero_add, Nat.reduceAdd, Nat.reduceSub, Nat.reduceMod, Nat.reduceDiv, Nat.reduceEqDiff, Nat.reduceLeDiff, Nat.reduceMul, Int.reduceNeg, if_true, if_false, ite_true, ite_false, reduceIte, hup_app, Nat.add_left_cancel_iff, Nat.left_eq_add, Nat.add_eq_left, reduceCtorEq, subc_0, subc_1, subc_2, subc_3, subc_4, subc_5, subc_6, subc_7, subc_8, subc_9, subc_10, subc_11, subc_12, sube_2, sube_3, sube_5, sube_8, sube_9, sube_10, rets_ok, va_rfs, true_or, or_true, or_false, false_or, sI_aload_n, sI_anewarray, sI_areturn, sI_arraylength, sI_astore_n, sI_goto, sI_iconst, sI_if_acmp, sI_iload_n, sI_invokestatic, sI_ldc, ix_207_0, ix_207_1, ix_207_3, ix_207_6, ix_207_7, ix_207_10, ix_207_13, ix_207_17, ix_207_24, ix_207_25, ix_207_26, ix_207_27, ix_207_28, ix_207_29, ix_207_30, ix_207_31, ix_207_32, ix_207_35, ix_207_38, ix_207_39, mC_207, mS_207, mH_207]
  refine R_cpO (m0 := k) (m1 := m) (f := g) (g := fun _ => none) ix_207_35 rfl ?_ ?_ (by omega) ?_ (Nat.le_of_ble_eq_true rfl) (by omega) ?_
  · rw [hup_ne _ _ (by omega), ha]
  · rw [hup_eq]
    simp only [dfa, Int.toNat_natCast]
  · intro j hj w hw
    obtain ⟨w1, w2⟩ := he j hj w hw
    rw [hup_ne _ _ (by omega)]
    exact w2
  rw [hup_hup]
  refine R_run 60 ?_
  simp only [run_s, run_0, isc, Bool.or_false, Bool.false_or, Bool.or_true, Bool.true_or, Bool.or_self, cond_false, cond_true, gl, sl, stl, stl2, c2, isw, nf, pf, lnb, tk, true_and, and_true, nsg0, nsg1, Int.cast_ofNat_Int, Int.natCast_zero, Int.natCast_one, zero_z, z_add, z_sub, z_mul, z_neg, cnd_eq, cnd_ne, cnd_lt, cnd_ge, cnd_gt, cnd_le, vok_0, vok_3r, vok_3n, vok_4, Nat.add_zero, Nat.zero_add, Nat.reduceAdd, Nat.reduceSub, Nat.reduceMod, Nat.reduceDiv, Nat.reduceEqDiff, Nat.reduceLeDiff, Nat.reduceMul, Int.reduceNeg, if_true, if_false, ite_true, ite_false, reduceIte, hup_app, Nat.add_left_cancel_iff, Nat.left_eq_add, Nat.add_eq_left, reduceCtorEq, subc_0, subc_1, subc_2, subc_3, subc_4, subc_5, subc_6, subc_7, subc_8, subc_9, subc_10, subc_11, subc_12, sube_2, sube_3, sube_5, sube_8, sube_9, sube_10, rets_ok, va_rfs, true_or, or_true, or_false, false_or, sI_aload_n, sI_anewarray, sI_areturn, sI_arraylength, sI_astore_n, sI_goto, sI_iconst, sI_if_acmp, sI_iload_n, sI_invokestatic, sI_ldc, ix_207_0, ix_207_1, ix_207_3, ix_207_6, ix_207_7, ix_207_10, ix_207_13, ix_207_17, ix_207_24, ix_207_25, ix_207_26, ix_207_27, ix_207_28, ix_207_29, ix_207_30, ix_207_31, ix_207_32, ix_207_35, ix_207_38, ix_207_39, mC_207, mS_207, mH_207]
set_option maxRecDepth 16384 in
theorem sp_206 {a k m : Nat} {g : Nat → Option Nat} (ha : h a = some (.inl (3, k, .inr (.inr (.inr (.inr g)))))) (haz : a < sz) (hk : k ≤ m ∧ m ≤ 600) (he : ∀ j, j < k → ∀ w, g j = some w → w < sz ∧ ∃ ci fs, h w = some (.inr (ci, fs)) ∧ ci < 13) : Sp E (d + 3) 206 [.ref a, .int (z (m : Int))] h sz (rets (some (.ref sz)) (hup h sz (.inl (3, m, .inr (.inr (.inr (.inr (va_cpy g (fun _ => none) 0 0 k))))))) (sz + 1)) := by
  refine ⟨mi_206, mt_206, Nat.le_of_ble_eq_true rfl, ?_⟩
  change Rr _ _ _ _ mi_206 _ 0 [some (.ref a), some (.int (z (m : Int)))] [] _ _ 0 0
  refine R_run 60 ?_
  simp only [run_s, run_0, isc, Bool.or_false, Bool.false_or, Bool.or_true, Bool.true_or, Bool.or_self, cond_false, cond_true, gl, sl, stl, stl2, c2, isw, nf, pf, lnb, tk, true_and, and_true, nsg0, nsg1, Int.cast_ofNat_Int, Int.natCast_zero, Int.natCast_one, zero_z, z_add, z_sub, z_mul, z_neg, cnd_eq, cnd_ne, cnd_lt, cnd_ge, cnd_gt, cnd_le, vok_0, vok_3r, vok_3n, vok_4, Nat.add_zero, Nat.zero_add, Nat.reduceAdd, Nat.reduceSub, Nat.reduceMod, Nat.reduceDiv, Nat.reduceEqDiff, Nat.reduceLeDiff, Nat.reduceMul, Int.reduceNeg, if_true, if_false, ite_true, ite_false, reduceIte, hup_app, Nat.add_left_cancel_iff, Nat.left_eq_add, Nat.add_eq_left, reduceCtorEq, subc_0, subc_1, subc_2, subc_3, subc_4, subc_5, subc_6, subc_7, subc_8, subc_9, subc_10, subc_11, subc_12, sube_2, sube_3, sube_5, sube_8, sube_9, sube_10, rets_ok, va_rfs, true_or, or_true, or_false, false_or, sI_aload_n, sI_areturn, sI_iload_n, sI_invokestatic, sI_invokevirtual, ix_206_0, ix_206_1, ix_206_2, ix_206_3, ix_206_6, ix_206_9, mC_206, mS_206, mH_206]
  refine R_gc (m := 0) ix_206_3 rfl ha (Nat.le_of_ble_eq_true rfl) (by omega) ?_
  refine R_run 60 ?_
  simp only [run_s, run_0, isc, Bool.or_false, Bool.false_or, Bool.or_true, Bool.true_or, Bool.or_self, cond_false, cond_true, gl, sl, stl, stl2, c2, isw, nf, pf, lnb, tk, true_and, and_true, nsg0, nsg1, Int.cast_ofNat_Int, Int.natCast_zero, Int.natCast_one, zero_z, z_add, z_sub, z_mul, z_neg, cnd_eq, cnd_ne, cnd_lt, cnd_ge, cnd_gt, cnd_le, vok_0, vok_3r, vok_3n, vok_4, Nat.add_zero, Nat.zero_add, Nat.reduceAdd, Nat.reduceSub, Nat.reduceMod, Nat.reduceDiv, Nat.reduceEqDiff, Nat.reduceLeDiff, Nat.reduceMul, Int.reduceNeg, if_true, if_false, ite_true, ite_false, reduceIte, hup_app, Nat.add_left_cancel_iff, Nat.left_eq_add, Nat.add_eq_left, reduceCtorEq, subc_0, subc_1, subc_2, subc_3, subc_4, subc_5, subc_6, subc_7, subc_8, subc_9, subc_10, subc_11, subc_12, sube_2, sube_3, sube_5, sube_8, sube_9, sube_10, rets_ok, va_rfs, true_or, or_true, or_false, false_or, sI_aload_n, sI_areturn, sI_iload_n, sI_invokestatic, sI_invokevirtual, ix_206_0, ix_206_1, ix_206_2, ix_206_3, ix_206_6, ix_206_9, mC_206, mS_206, mH_206]
  refine R_cS ix_206_6 (by decide) rfl (sp_207 (d := d) ha haz hk he) (Nat.le_of_ble_eq_true rfl) (by rw [mcs_207, mC_206]; omega) (by rw [mcs_207, mS_206]; omega) ?_
  simp only [mcs_207, vpu, Nat.add_zero, Nat.zero_add, Nat.reduceAdd]
  refine R_run 60 ?_
  simp only [run_s, run_0, isc, Bool.or_false, Bool.false_or, Bool.or_true, Bool.true_or, Bool.or_self, cond_false, cond_true, gl, sl, stl, stl2, c2, isw, nf, pf, lnb, tk, true_and, and_true, nsg0, nsg1, Int.cast_ofNat_Int, Int.natCast_zero, Int.natCast_one, zero_z, z_add, z_sub, z_mul, z_neg, cnd_eq, cnd_ne, cnd_lt, cnd_ge, cnd_gt, cnd_le, vok_0, vok_3r, vok_3n, vok_4, Nat.add_zero, Nat.zero_add, Nat.reduceAdd, Nat.reduceSub, Nat.reduceMod, Nat.reduceDiv, Nat.reduceEqDiff, Nat.reduceLeDiff, Nat.reduceMul, Int.reduceNeg, if_true, if_false, ite_true, ite_false, reduceIte, hup_app, Nat.add_left_cancel_iff, Nat.left_eq_add, Nat.add_eq_left, reduceCtorEq, subc_0, subc_1, subc_2, subc_3, subc_4, subc_5, subc_6, subc_7, subc_8, subc_9, subc_10, subc_11, subc_12, sube_2, sube_3, sube_5, sube_8, sube_9, sube_10, rets_ok, va_rfs, true_or, or_true, or_false, false_or, sI_aload_n, sI_areturn, sI_iload_n, sI_invokestatic, sI_invokevirtual, ix_206_0, ix_206_1, ix_206_2, ix_206_3, ix_206_6, ix_206_9, mC_206, mS_206, mH_206]
set_option maxRecDepth 16384 in
theorem sp_197e {mc : Int} (h0 : h l = some (.inr (0, [.int (z mc), .ref E.2.1, .int (z 0)]))) (h1 : h E.2.1 = none) (hlz : l < sz) : Sp E (d + 5) 197 [.ref l, .int (z 1)] h sz (rets (some (.ref sz)) (hup (hup h sz (.inl (3, dfa 3 10))) l (.inr (0, [.int (z mc), .ref sz, .int (z 0)]))) (sz + 1)) := by
  have ne0 : (l = sz) = False := eq_false (by omega)
  have ev : Int.toNat 10 = 10 := rfl
  refine ⟨mi_197, mt_197, Nat.le_of_ble_eq_true rfl, ?_⟩
  change Rr _ _ _ _ mi_197 _ 0 [some (.ref l), some (.int (z 1)), none, none] [] _ _ 0 0
  refine R_run 60 ?_
  simp only [run_s, run_0, isc, Bool.or_false, Bool.false_or, Bool.or_true, Bool.true_or, Bool.or_self, cond_false, cond_true, gl, sl, stl, stl2, c2, isw, nf, pf, lnb, tk, true_and, and_true, nsg0, nsg1, Int.cast_ofNat_Int, Int.natCast_zero, Int.natCast_one, zero_z, z_add, z_sub, z_mul, z_neg, cnd_eq, cnd_ne, cnd_lt, cnd_ge, cnd_gt, cnd_le, vok_0, vok_3r, vok_3n, vok_4, Nat.add_zero, Nat.zero_add, Nat.reduceAdd, Nat.reduceSub, Nat.reduceMod, Nat.reduceDiv, Nat.reduceEqDiff, Nat.reduceLeDiff, Nat.reduceMul, Int.reduceNeg, if_true, if_false, ite_true, ite_false, reduceIte, hup_app, Nat.add_left_cancel_iff, Nat.left_eq_add, Nat.add_eq_left, reduceCtorEq, subc_0, subc_1, subc_2, subc_3, subc_4, subc_5, subc_6, subc_7, subc_8, subc_9, subc_10, subc_11, subc_12, sube_2, sube_3, sube_5, sube_8, sube_9, sube_10, rets_ok, va_rfs, true_or, or_true, or_false, false_or, sI_aload_n, sI_anewarray, sI_areturn, sI_arraylength, sI_bipush, sI_dup_x1, sI_getfield, sI_getstatic, sI_iconst, sI_ifCond, sI_if_acmp, sI_iload_n, sI_invokestatic, sI_ishr, sI_istore_n, sI_isub, sI_putfield, ix_197_0, ix_197_1, ix_197_4, ix_197_5, ix_197_6, ix_197_7, ix_197_10, ix_197_11, ix_197_14, ix_197_17, ix_197_20, ix_197_21, ix_197_22, ix_197_23, ix_197_24, ix_197_25, ix_197_26, ix_197_27, ix_197_30, ix_197_31, ix_197_32, ix_197_33, ix_197_36, ix_197_37, ix_197_40, ix_197_41, ix_197_44, ix_197_45, ix_197_46, ix_197_48, ix_197_49, ix_197_52, ix_197_55, ix_197_56, ix_197_59, mC_197, mS_197, mH_197, h0, h1, nI_z, true_and, eq_self]
  refine Or.inl ?_
  try simp (disch := omega) only [z_lt, z_le, z_eq, z_in, z_nat, Int.toNat_natCast, upd_z, z_l, zl_0, zl_add, zl_sub, zl_mul, zl_i, zl_eq, zl_div, Int.reduceLT, Int.reduceLE, Int.reduceToNat, Nat.reduceAdd, Nat.reduceLeDiff, not_false_eq_true, true_and, and_true]
  refine ⟨fun q => q.elim, fun _ => ⟨fun _ => ?_, fun q => absurd True.intro q⟩⟩
  refine R_max ix_197_49 (by omega) (by omega) (Nat.le_of_ble_eq_true rfl) (by omega) ?_
  rw [if_neg (by decide)]
  refine R_run 60 ?_
  simp only [run_s, run_0, isc, Bool.or_false, Bool.false_or, Bool.or_true, Bool.true_or, Bool.or_self, cond_false, cond_true, gl, sl, stl, stl2, c2, isw, nf, pf, lnb, tk, true_and, and_true, nsg0, nsg1, Int.cast_ofNat_Int, Int.natCast_zero, Int.natCast_one, zero_z, z_add, z_sub, z_mul, z_neg, cnd_eq, cnd_ne, cnd_lt, cnd_ge, cnd_gt, cnd_le, vok_0, vok_3r, vok_3n, vok_4, Nat.add_zero, Nat.zero_add, Nat.reduceAdd, Nat.reduceSub, Nat.reduceMod, Nat.reduceDiv, Nat.reduceEqDiff, Nat.reduceLeDiff, Nat.reduceMul, Int.reduceNeg, if_true, if_false, ite_true, ite_false, reduceIte, hup_app, Nat.add_left_cancel_iff, Nat.left_eq_add, Nat.add_eq_left, reduceCtorEq, subc_0, subc_1, subc_2, subc_3, subc_4, subc_5, subc_6, subc_7, subc_8, subc_9, subc_10, subc_11, subc_12, sube_2, sube_3, sube_5, sube_8, sube_9, sube_10, rets_ok, va_rfs, true_or, or_true, or_false, false_or, sI_aload_n, sI_anewarray, sI_areturn, sI_arraylength, sI_bipush, sI_dup_x1, sI_getfield, sI_getstatic, sI_iconst, sI_ifCond, sI_if_acmp, sI_iload_n, sI_invokestatic, sI_ishr, sI_istore_n, sI_isub, sI_putfield, ix_197_0, ix_197_1, ix_197_4, ix_197_5, ix_197_6, ix_197_7, ix_197_10, ix_197_11, ix_197_14, ix_197_17, ix_197_20, ix_197_21, ix_197_22, ix_197_23, ix_197_24, ix_197_25, ix_197_26, ix_197_27, ix_197_30, ix_197_31, ix_197_32, ix_197_33, ix_197_36, ix_197_37, ix_197_40, ix_197_41, ix_197_44, ix_197_45, ix_197_46, ix_197_48, ix_197_49, ix_197_52, ix_197_55, ix_197_56, ix_197_59, mC_197, mS_197, mH_197, h0, ne0]
  try simp (disch := omega) only [z_lt, z_le, z_eq, z_in, z_nat, Int.toNat_natCast, upd_z, z_l, zl_0, zl_add, zl_sub, zl_mul, zl_i, zl_eq, zl_div, Int.reduceLT, Int.reduceLE, Int.reduceToNat, Nat.reduceAdd, Nat.reduceLeDiff, not_false_eq_true, true_and, and_true]
set_option maxRecDepth 16384 in
theorem sp_197g {mc : Int} {k : Nat} {g : Nat → Option Nat} (h0 : h l = some (.inr (0, [.int (z mc), .ref arr, .int (z (k : Int))]))) (h1 : h arr = some (.inl (3, k, .inr (.inr (.inr (.inr g)))))) (hk : 0 < k ∧ k ≤ 400) (hlz : l < sz) (haz : arr < sz) (he : ∀ j, j < k → ∀ w, g j = some w → w < sz ∧ ∃ ci fs, h w = some (.inr (ci, fs)) ∧ ci < 13) : Sp E (d + 5) 197 [.ref l, .int (z ((k : Int) + 1))] h sz (rets (some (.ref sz)) (hup (hup h sz (.inl (3, k + (if 1 < k / 2 then k / 2 else 1), .inr (.inr (.inr (.inr (va_cpy g (fun _ => none) 0 0 k))))))) l (.inr (0, [.int (z mc), .ref sz, .int (z (k : Int))]))) (sz + 1)) := by
  have ne0 : (l = sz) = False := eq_false (by omega)
  have e1 : (k : Int) + 1 - (k : Int) = 1 := by omega
  have e2 : z (k : Int) >>> (z 1 &&& 31) = z ((k / 2 : Nat) : Int) := by
    rw [← nI_z, ← nI_z]
    exact pk_shrN (by omega) _ 1 (by decide)
  have e3 : k + (if 1 < k / 2 then k / 2 else 1) ≤ 600 := by split <;> omega
  refine ⟨mi_197, mt_197, Nat.le_of_ble_eq_true rfl, ?_⟩
  change Rr _ _ _ _ mi_197 _ 0 [some (.ref l), some (.int (z ((k : Int) + 1))), none, none] [] _ _ 0 0
  refine R_run 60 ?_
  simp only [run_s, run_0, isc, Bool.or_false, Bool.false_or, Bool.or_true, Bool.true_or, Bool.or_self, cond_false, cond_true, gl, sl, stl, stl2, c2, isw, nf, pf, lnb, tk, true_and, and_true, nsg0, nsg1, Int.cast_ofNat_Int, Int.natCast_zero, Int.natCast_one, zero_z, z_add, z_sub, z_mul, z_neg, cnd_eq, cnd_ne, cnd_lt, cnd_ge, cnd_gt, cnd_le, vok_0, vok_3r, vok_3n, vok_4, Nat.add_zero, Nat.zero_add, Nat.reduceAdd, Nat.reduceSub, Nat.reduceMod, Nat.reduceDiv, Nat.reduceEqDiff, Nat.reduceLeDiff, Nat.reduceMul, Int.reduceNeg, if_true, if_false, ite_true, ite_false, reduceIte, hup_app, Nat.add_left_cancel_iff, Nat.left_eq_add, Nat.add_eq_left, reduceCtorEq, subc_0, subc_1, subc_2, subc_3, subc_4, subc_5, subc_6, subc_7, subc_8, subc_9, subc_10, subc_11, subc_12, sube_2, sube_3, sube_5, sube_8, sube_9, sube_10, rets_ok, va_rfs, true_or, or_true, or_false, false_or, sI_aload_n, sI_anewarray, sI_areturn, sI_arraylength, sI_bipush, sI_dup_x1, sI_getfield, sI_getstatic, sI_iconst, sI_ifCond, sI_if_acmp, sI_iload_n, sI_invokestatic, sI_ishr, sI_istore_n, sI_isub, sI_putfield, ix_197_0, ix_197_1, ix_197_4, ix_197_5, ix_197_6, ix_197_7, ix_197_10, ix_197_11, ix_197_14, ix_197_17, ix_197_20, ix_197_21, ix_197_22, ix_197_23, ix_197_24, ix_197_25, ix_197_26, ix_197_27, ix_197_30, ix_197_31, ix_197_32, ix_197_33, ix_197_36, ix_197_37, ix_197_40, ix_197_41, ix_197_44, ix_197_45, ix_197_46, ix_197_48, ix_197_49, ix_197_52, ix_197_55, ix_197_56, ix_197_59, mC_197, mS_197, mH_197, h0, h1, nI_z, e1, e2]
  try simp (disch := omega) only [z_lt, z_le, z_eq, z_in, z_nat, Int.toNat_natCast, upd_z, z_l, zl_0, zl_add, zl_sub, zl_mul, zl_i, zl_eq, zl_div, Int.reduceLT, Int.reduceLE, Int.reduceToNat, Nat.reduceAdd, Nat.reduceLeDiff, not_false_eq_true, true_and, and_true]
  refine ⟨fun _ => ?_, fun q => absurd q (by omega)⟩
  refine R_cS ix_197_27 (by decide) rfl (sp_209 (d := d + 2) (by omega)) (Nat.le_of_ble_eq_true rfl) (by rw [mcs_209, mC_197]; omega) (by rw [mcs_209, mS_197]; omega) ?_
  simp only [mcs_209, vpu, Nat.add_zero, Nat.zero_add, Nat.reduceAdd]
  refine R_run 60 ?_
  simp only [run_s, run_0, isc, Bool.or_false, Bool.false_or, Bool.or_true, Bool.true_or, Bool.or_self, cond_false, cond_true, gl, sl, stl, stl2, c2, isw, nf, pf, lnb, tk, true_and, and_true, nsg0, nsg1, Int.cast_ofNat_Int, Int.natCast_zero, Int.natCast_one, zero_z, z_add, z_sub, z_mul, z_neg, cnd_eq, cnd_ne, cnd_lt, cnd_ge, cnd_gt, cnd_le, vok_0, vok_3r, vok_3n, vok_4, Nat.add_zero, Nat.zero_add, Nat.reduceAdd, Nat.reduceSub, Nat.reduceMod, Nat.reduceDiv, Nat.reduceEqDiff, Nat.reduceLeDiff, Nat.reduceMul, Int.reduceNeg, if_true, if_false, ite_true, ite_false, reduceIte, hup_app, Nat.add_left_cancel_iff, Nat.left_eq_add, Nat.add_eq_left, reduceCtorEq, subc_0, subc_1, subc_2, subc_3, subc_4, subc_5, subc_6, subc_7, subc_8, subc_9, subc_10, subc_11, subc_12, sube_2, sube_3, sube_5, sube_8, sube_9, sube_10, rets_ok, va_rfs, true_or, or_true, or_false, false_or, sI_aload_n, sI_anewarray, sI_areturn, sI_arraylength, sI_bipush, sI_dup_x1, sI_getfield, sI_getstatic, sI_iconst, sI_ifCond, sI_if_acmp, sI_iload_n, sI_invokestatic, sI_ishr, sI_istore_n, sI_isub, sI_putfield, ix_197_0, ix_197_1, ix_197_4, ix_197_5, ix_197_6, ix_197_7, ix_197_10, ix_197_11, ix_197_14, ix_197_17, ix_197_20, ix_197_21, ix_197_22, ix_197_23, ix_197_24, ix_197_25, ix_197_26, ix_197_27, ix_197_30, ix_197_31, ix_197_32, ix_197_33, ix_197_36, ix_197_37, ix_197_40, ix_197_41, ix_197_44, ix_197_45, ix_197_46, ix_197_48, ix_197_49, ix_197_52, ix_197_55, ix_197_56, ix_197_59, mC_197, mS_197, mH_197, h0]
  refine R_cS ix_197_37 (by decide) rfl (sp_206 (d := d + 1) h1 haz ⟨by omega, e3⟩ he) (Nat.le_of_ble_eq_true rfl) (by rw [mcs_206, mC_197]; omega) (by rw [mcs_206, mS_197]; omega) ?_
  simp only [mcs_206, vpu, Nat.add_zero, Nat.zero_add, Nat.reduceAdd]
  refine R_run 60 ?_
  simp only [run_s, run_0, isc, Bool.or_false, Bool.false_or, Bool.or_true, Bool.true_or, Bool.or_self, cond_false, cond_true, gl, sl, stl, stl2, c2, isw, nf, pf, lnb, tk, true_and, and_true, nsg0, nsg1, Int.cast_ofNat_Int, Int.natCast_zero, Int.natCast_one, zero_z, z_add, z_sub, z_mul, z_neg, cnd_eq, cnd_ne, cnd_lt, cnd_ge, cnd_gt, cnd_le, vok_0, vok_3r, vok_3n, vok_4, Nat.add_zero, Nat.zero_add, Nat.reduceAdd, Nat.reduceSub, Nat.reduceMod, Nat.reduceDiv, Nat.reduceEqDiff, Nat.reduceLeDiff, Nat.reduceMul, Int.reduceNeg, if_true, if_false, ite_true, ite_false, reduceIte, hup_app, Nat.add_left_cancel_iff, Nat.left_eq_add, Nat.add_eq_left, reduceCtorEq, subc_0, subc_1, subc_2, subc_3, subc_4, subc_5, subc_6, subc_7, subc_8, subc_9, subc_10, subc_11, subc_12, sube_2, sube_3, sube_5, sube_8, sube_9, sube_10, rets_ok, va_rfs, true_or, or_true, or_false, false_or, sI_aload_n, sI_anewarray, sI_areturn, sI_arraylength, sI_bipush, sI_dup_x1, sI_getfield, sI_getstatic, sI_iconst, sI_ifCond, sI_if_acmp, sI_iload_n, sI_invokestatic, sI_ishr, sI_istore_n, sI_isub, sI_putfield, ix_197_0, ix_197_1, ix_197_4, ix_197_5, ix_197_6, ix_197_7, ix_197_10, ix_197_11, ix_197_14, ix_197_17, ix_197_20, ix_197_21, ix_197_22, ix_197_23, ix_197_24, ix_197_25, ix_197_26, ix_197_27, ix_197_30, ix_197_31, ix_197_32, ix_197_33, ix_197_36, ix_197_37, ix_197_40, ix_197_41, ix_197_44, ix_197_45, ix_197_46, ix_197_48, ix_197_49, ix_197_52, ix_197_55, ix_197_56, ix_197_59, mC_197, mS_197, mH_197, h0, ne0]
set_option maxRecDepth 16384 in
theorem sp_198e {mc : Int} (h0 : h l = some (.inr (0, [.int (z mc), .ref E.2.1, .int (z 0)]))) (h1 : h E.2.1 = none) (hlz : l < sz) : Sp E (d + 6) 198 [.ref l] h sz (rets (some (.ref sz)) (hup (hup h sz (.inl (3, dfa 3 10))) l (.inr (0, [.int (z mc), .ref sz, .int (z 0)]))) (sz + 1)) := by
  refine ⟨mi_198, mt_198, Nat.le_of_ble_eq_true rfl, ?_⟩
  change Rr _ _ _ _ mi_198 _ 0 [some (.ref l)] [] _ _ 0 0
  refine R_run 60 ?_
  simp only [run_s, run_0, isc, Bool.or_false, Bool.false_or, Bool.or_true, Bool.true_or, Bool.or_self, cond_false, cond_true, gl, sl, stl, stl2, c2, isw, nf, pf, lnb, tk, true_and, and_true, nsg0, nsg1, Int.cast_ofNat_Int, Int.natCast_zero, Int.natCast_one, zero_z, z_add, z_sub, z_mul, z_neg, cnd_eq, cnd_ne, cnd_lt, cnd_ge, cnd_gt, cnd_le, vok_0, vok_3r, vok_3n, vok_4, Nat.add_zero, Nat.zero_add, Nat.reduceAdd, Nat.reduceSub, Nat.reduceMod, Nat.reduceDiv, Nat.reduceEqDiff, Nat.reduceLeDiff, Nat.reduceMul, Int.reduceNeg, if_true, if_false, ite_true, ite_false, reduceIte, hup_app, Nat.add_left_cancel_iff, Nat.left_eq_add, Nat.add_eq_left, reduceCtorEq, subc_0, subc_1, subc_2, subc_3, subc_4, subc_5, subc_6, subc_7, subc_8, subc_9, subc_10, subc_11, subc_12, sube_2, sube_3, sube_5, sube_8, sube_9, sube_10, rets_ok, va_rfs, true_or, or_true, or_false, false_or, sI_aload_n, sI_areturn, sI_getfield, sI_iadd, sI_iconst, sI_invokevirtual, ix_198_0, ix_198_1, ix_198_2, ix_198_5, ix_198_6, ix_198_7, ix_198_10, mC_198, mS_198, mH_198, h0]
  refine R_cV ix_198_7 (by decide) (by decide) rfl (h0) rfl (sp_197e (d := d) h0 h1 hlz) (Nat.le_of_ble_eq_true rfl) (by rw [mcs_197, mC_198]; omega) (by rw [mcs_197, mS_198]; omega) ?_
  simp only [mcs_197, vpu, Nat.add_zero, Nat.zero_add, Nat.reduceAdd]
  refine R_run 60 ?_
  simp only [run_s, run_0, isc, Bool.or_false, Bool.false_or, Bool.or_true, Bool.true_or, Bool.or_self, cond_false, cond_true, gl, sl, stl, stl2, c2, isw, nf, pf, lnb, tk, true_and, and_true, nsg0, nsg1, Int.cast_ofNat_Int, Int.natCast_zero, Int.natCast_one, zero_z, z_add, z_sub, z_mul, z_neg, cnd_eq, cnd_ne, cnd_lt, cnd_ge, cnd_gt, cnd_le, vok_0, vok_3r, vok_3n, vok_4, Nat.add_zero, Nat.zero_add, Nat.reduceAdd, Nat.reduceSub, Nat.reduceMod, Nat.reduceDiv, Nat.reduceEqDiff, Nat.reduceLeDiff, Nat.reduceMul, Int.reduceNeg, if_true, if_false, ite_true, ite_false, reduceIte, hup_app, Nat.add_left_cancel_iff, Nat.left_eq_add, Nat.add_eq_left, reduceCtorEq, subc_0, subc_1, subc_2, subc_3, subc_4, subc_5, subc_6, subc_7, subc_8, subc_9, subc_10, subc_11, subc_12, sube_2, sube_3, sube_5, sube_8, sube_9, sube_10, rets_ok, va_rfs, true_or, or_true, or_false, false_or, sI_aload_n, sI_areturn, sI_getfield, sI_iadd, sI_iconst, sI_invokevirtual, ix_198_0, ix_198_1, ix_198_2, ix_198_5, ix_198_6, ix_198_7, ix_198_10, mC_198, mS_198, mH_198]
set_option maxRecDepth 16384 in
theorem sp_198g {mc : Int} {k : Nat} {g : Nat → Option Nat} (h0 : h l = some (.inr (0, [.int (z mc), .ref arr, .int (z (k : Int))]))) (h1 : h arr = some (.inl (3, k, .inr (.inr (.inr (.inr g)))))) (hk : 0 < k ∧ k ≤ 400) (hlz : l < sz) (haz : arr < sz) (he : ∀ j, j < k → ∀ w, g j = some w → w < sz ∧ ∃ ci fs, h w = some (.inr (ci, fs)) ∧ ci < 13) : Sp E (d + 6) 198 [.ref l] h sz (rets (some (.ref sz)) (hup (hup h sz (.inl (3, k + (if 1 < k / 2 then k / 2 else 1), .inr (.inr (.inr (.inr (va_cpy g (fun _ => none) 0 0 k))))))) l (.inr (0, [.int (z mc), .ref sz, .int (z (k : Int))]))) (sz + 1)) := by
  refine ⟨mi_198, mt_198, Nat.le_of_ble_eq_true rfl, ?_⟩
  change Rr _ _ _ _ mi_198 _ 0 [some (.ref l)] [] _ _ 0 0
  refine R_run 60 ?_
  simp only [run_s, run_0, isc, Bool.or_false, Bool.false_or, Bool.or_true, Bool.true_or, Bool.or_self, cond_false, cond_true, gl, sl, stl, stl2, c2, isw, nf, pf, lnb, tk, true_and, and_true, nsg0, nsg1, Int.cast_ofNat_Int, Int.natCast_zero, Int.natCast_one, zero_z, z_add, z_sub, z_mul, z_neg, cnd_eq, cnd_ne, cnd_lt, cnd_ge, cnd_gt, cnd_le, vok_0, vok_3r, vok_3n, vok_4, Nat.add_zero, Nat.zero_add, Nat.reduceAdd, Nat.reduceSub, Nat.reduceMod, Nat.reduceDiv, Nat.reduceEqDiff, Nat.reduceLeDiff, Nat.reduceMul, Int.reduceNeg, if_true, if_false, ite_true, ite_false, reduceIte, hup_app, Nat.add_left_cancel_iff, Nat.left_eq_add, Nat.add_eq_left, reduceCtorEq, subc_0, subc_1, subc_2, subc_3, subc_4, subc_5, subc_6, subc_7, subc_8, subc_9, subc_10, subc_11, subc_12, sube_2, sube_3, sube_5, sube_8, sube_9, sube_10, rets_ok, va_rfs, true_or, or_true, or_false, false_or, sI_aload_n, sI_areturn, sI_getfield, sI_iadd, sI_iconst, sI_invokevirtual, ix_198_0, ix_198_1, ix_198_2, ix_198_5, ix_198_6, ix_198_7, ix_198_10, mC_198, mS_198, mH_198, h0]
  refine R_cV ix_198_7 (by decide) (by decide) rfl (h0) rfl (sp_197g (d := d) h0 h1 hk hlz haz he) (Nat.le_of_ble_eq_true rfl) (by rw [mcs_197, mC_198]; omega) (by rw [mcs_197, mS_198]; omega) ?_
  simp only [mcs_197, vpu, Nat.add_zero, Nat.zero_add, Nat.reduceAdd]
  refine R_run 60 ?_
  simp only [run_s, run_0, isc, Bool.or_false, Bool.false_or, Bool.or_true, Bool.true_or, Bool.or_self, cond_false, cond_true, gl, sl, stl, stl2, c2, isw, nf, pf, lnb, tk, true_and, and_true, nsg0, nsg1, Int.cast_ofNat_Int, Int.natCast_zero, Int.natCast_one, zero_z, z_add, z_sub, z_mul, z_neg, cnd_eq, cnd_ne, cnd_lt, cnd_ge, cnd_gt, cnd_le, vok_0, vok_3r, vok_3n, vok_4, Nat.add_zero, Nat.zero_add, Nat.reduceAdd, Nat.reduceSub, Nat.reduceMod, Nat.reduceDiv, Nat.reduceEqDiff, Nat.reduceLeDiff, Nat.reduceMul, Int.reduceNeg, if_true, if_false, ite_true, ite_false, reduceIte, hup_app, Nat.add_left_cancel_iff, Nat.left_eq_add, Nat.add_eq_left, reduceCtorEq, subc_0, subc_1, subc_2, subc_3, subc_4, subc_5, subc_6, subc_7, subc_8, subc_9, subc_10, subc_11, subc_12, sube_2, sube_3, sube_5, sube_8, sube_9, sube_10, rets_ok, va_rfs, true_or, or_true, or_false, false_or, sI_aload_n, sI_areturn, sI_getfield, sI_iadd, sI_iconst, sI_invokevirtual, ix_198_0, ix_198_1, ix_198_2, ix_198_5, ix_198_6, ix_198_7, ix_198_10, mC_198, mS_198, mH_198]
theorem va_cpy0 {g : Nat → Option Nat} {k i : Nat} (hi : i < k) : va_cpy g (fun _ => none) 0 0 k i = g i := by
  unfold va_cpy
  rw [if_pos ⟨Nat.zero_le _, by omega⟩]
  congr 1
  omega
/- one more: the array has room -/
set_option maxRecDepth 16384 in
theorem sp_202r {mc : Int} {cap ci : Nat} {fs : List Value} {g : Nat → Option Nat} (h0 : h l = some (.inr (0, [.int (z mc), .ref arr, .int (z (n : Int))]))) (h1 : h arr = some (.inl (3, cap, .inr (.inr (.inr (.inr g)))))) (hk : n < cap ∧ cap ≤ 600) (hw : h w = some (.inr (ci, fs))) (hci : ci < 13) : Sp E (d + 7) 202 [.ref l, .ref w, .ref arr, .int (z (n : Int))] h sz (rets none (hup (hup h arr (.inl (3, cap, .inr (.inr (.inr (.inr (va_up g n (some w)))))))) l (.inr (0, [.int (z mc), .ref arr, .int (z ((n : Int) + 1))]))) sz) := by
  have ne0 : (l = arr) = False := eq_false (fun q => by rw [q, h1] at h0; cases h0)
  have hci' : (ci < 13) = True := eq_true hci
  refine ⟨mi_202, mt_202, Nat.le_of_ble_eq_true rfl, ?_⟩
  change Rr _ _ _ _ mi_202 _ 0 [some (.ref l), some (.ref w), some (.ref arr), some (.int (z (n : Int)))] [] _ _ 0 0
  refine R_run 60 ?_
  simp only [run_s, run_0, isc, Bool.or_false, Bool.false_or, Bool.or_true, Bool.true_or, Bool.or_self, cond_false, cond_true, gl, sl, stl, stl2, c2, isw, nf, pf, lnb, tk, true_and, and_true, nsg0, nsg1, Int.cast_ofNat_Int, Int.natCast_zero, Int.natCast_one, zero_z, z_add, z_sub, z_mul, z_neg, cnd_eq, cnd_ne, cnd_lt, cnd_ge, cnd_gt, cnd_le, vok_0, vok_3r, vok_3n, vok_4, Nat.add_zero, Nat.zero_add, Nat.reduceAdd, Nat.reduceSub, Nat.reduceMod, Nat.reduceDiv, Nat.reduceEqDiff, Nat.reduceLeDiff, Nat.reduceMul, Int.reduceNeg, if_true, if_false, ite_true, ite_false, reduceIte, hup_app, Nat.add_left_cancel_iff, Nat.left_eq_add, Nat.add_eq_left, reduceCtorEq, subc_0, subc_1, subc_2, subc_3, subc_4, subc_5, subc_6, subc_7, subc_8, subc_9, subc_10, subc_11, subc_12, sube_2, sube_3, sube_5, sube_8, sube_9, sube_10, rets_ok, va_rfs, true_or, or_true, or_false, false_or, sI_aastore, sI_aload_n, sI_arraylength, sI_astore_n, sI_iadd, sI_iconst, sI_if_icmp, sI_iload_n, sI_invokevirtual, sI_putfield, sI_return_, ix_202_0, ix_202_1, ix_202_2, ix_202_3, ix_202_6, ix_202_7, ix_202_10, ix_202_11, ix_202_12, ix_202_13, ix_202_14, ix_202_15, ix_202_16, ix_202_17, ix_202_18, ix_202_19, ix_202_22, mC_202, mS_202, mH_202, h0, h1, hw, nI_z, ne0, hci']
  try simp (disch := omega) only [z_lt, z_le, z_eq, z_in, z_nat, Int.toNat_natCast, upd_z, z_l, zl_0, zl_add, zl_sub, zl_mul, zl_i, zl_eq, zl_div, Int.reduceLT, Int.reduceLE, Int.reduceToNat, Nat.reduceAdd, Nat.reduceLeDiff, not_false_eq_true, true_and, and_true, or_true, false_or]
  try simp only [run_s, run_0, isc, Bool.or_false, Bool.false_or, Bool.or_true, Bool.true_or, Bool.or_self, cond_false, cond_true, gl, sl, stl, stl2, c2, isw, nf, pf, lnb, tk, true_and, and_true, nsg0, nsg1, Int.cast_ofNat_Int, Int.natCast_zero, Int.natCast_one, zero_z, z_add, z_sub, z_mul, z_neg, cnd_eq, cnd_ne, cnd_lt, cnd_ge, cnd_gt, cnd_le, vok_0, vok_3r, vok_3n, vok_4, Nat.add_zero, Nat.zero_add, Nat.reduceAdd, Nat.reduceSub, Nat.reduceMod, Nat.reduceDiv, Nat.reduceEqDiff, Nat.reduceLeDiff, Nat.reduceMul, Int.reduceNeg, if_true, if_false, ite_true, ite_false, reduceIte, hup_app, Nat.add_left_cancel_iff, Nat.left_eq_add, Nat.add_eq_left, reduceCtorEq, subc_0, subc_1, subc_2, subc_3, subc_4, subc_5, subc_6, subc_7, subc_8, subc_9, subc_10, subc_11, subc_12, sube_2, sube_3, sube_5, sube_8, sube_9, sube_10, rets_ok, va_rfs, true_or, or_true, or_false, false_or, sI_aastore, sI_aload_n, sI_arraylength, sI_astore_n, sI_iadd, sI_iconst, sI_if_icmp, sI_iload_n, sI_invokevirtual, sI_putfield, sI_return_, ix_202_0, ix_202_1, ix_202_2, ix_202_3, ix_202_6, ix_202_7, ix_202_10, ix_202_11, ix_202_12, ix_202_13, ix_202_14, ix_202_15, ix_202_16, ix_202_17, ix_202_18, ix_202_19, ix_202_22, mC_202, mS_202, mH_202, h0, h1, hw, ne0, refA]
  repeat' (first | (with_reducible refine ⟨?_, ?_⟩) | (with_reducible intro _))
  all_goals try (first | exact True.intro | with_reducible rfl | exact absurd True.intro (by assumption) | omega | (exfalso; omega) | (rw [if_pos (by omega)]; done) | (rw [if_neg (by omega)]; done))
/- one more: the array is full -/
set_option maxRecDepth 16384 in
theorem sp_202g {mc : Int} {k ci : Nat} {fs : List Value} {g : Nat → Option Nat} (h0 : h l = some (.inr (0, [.int (z mc), .ref arr, .int (z (k : Int))]))) (h1 : h arr = some (.inl (3, k, .inr (.inr (.inr (.inr g)))))) (hk : 0 < k ∧ k ≤ 400) (hlz : l < sz) (haz : arr < sz) (he : ∀ j, j < k → ∀ w, g j = some w → w < sz ∧ ∃ ci fs, h w = some (.inr (ci, fs)) ∧ ci < 13) (hw : h w = some (.inr (ci, fs))) (hci : ci < 13) (hwz : w < sz) (hwl : w ≠ l) : Sp E (d + 7) 202 [.ref l, .ref w, .ref arr, .int (z (k : Int))] h sz (rets none (hup (hup h sz (.inl (3, k + (if 1 < k / 2 then k / 2 else 1), .inr (.inr (.inr (.inr (va_up (va_cpy g (fun _ => none) 0 0 k) k (some w)))))))) l (.inr (0, [.int (z mc), .ref sz, .int (z ((k : Int) + 1))]))) (sz + 1)) := by
  have ne0 : (l = sz) = False := eq_false (by omega)
  have ne1 : (sz = l) = False := eq_false (by omega)
  have ne2 : (w = l) = False := eq_false hwl
  have ne3 : (w = sz) = False := eq_false (by omega)
  have hci' : (ci < 13) = True := eq_true hci
  have e3 : k < k + (if 1 < k / 2 then k / 2 else 1) := by split <;> omega
  have e4 : k + (if 1 < k / 2 then k / 2 else 1) ≤ 600 := by split <;> omega
  have s198 := sp_198g (E := E) (d := d) h0 h1 hk hlz haz he
  generalize k + (if 1 < k / 2 then k / 2 else 1) = q at *
  refine ⟨mi_202, mt_202, Nat.le_of_ble_eq_true rfl, ?_⟩
  change Rr _ _ _ _ mi_202 _ 0 [some (.ref l), some (.ref w), some (.ref arr), some (.int (z (k : Int)))] [] _ _ 0 0
  refine R_run 60 ?_
  simp only [run_s, run_0, isc, Bool.or_false, Bool.false_or, Bool.or_true, Bool.true_or, Bool.or_self, cond_false, cond_true, gl, sl, stl, stl2, c2, isw, nf, pf, lnb, tk, true_and, and_true, nsg0, nsg1, Int.cast_ofNat_Int, Int.natCast_zero, Int.natCast_one, zero_z, z_add, z_sub, z_mul, z_neg, cnd_eq, cnd_ne, cnd_lt, cnd_ge, cnd_gt, cnd_le, vok_0, vok_3r, vok_3n, vok_4, Nat.add_zero, Nat.zero_add, Nat.reduceAdd, Nat.reduceSub, Nat.reduceMod, Nat.reduceDiv, Nat.reduceEqDiff, Nat.reduceLeDiff, Nat.reduceMul, Int.reduceNeg, if_true, if_false, ite_true, ite_false, reduceIte, hup_app, Nat.add_left_cancel_iff, Nat.left_eq_add, Nat.add_eq_left, reduceCtorEq, subc_0, subc_1, subc_2, subc_3, subc_4, subc_5, subc_6, subc_7, subc_8, subc_9, subc_10, subc_11, subc_12, sube_2, sube_3, sube_5, sube_8, sube_9, sube_10, rets_ok, va_rfs, true_or, or_true, or_false, false_or, sI_aastore, sI_aload_n, sI_arraylength, sI_astore_n, sI_iadd, sI_iconst, sI_if_icmp, sI_iload_n, sI_invokevirtual, sI_putfield, sI_return_, ix_202_0, ix_202_1, ix_202_2, ix_202_3, ix_202_6, ix_202_7, ix_202_10, ix_202_11, ix_202_12, ix_202_13, ix_202_14, ix_202_15, ix_202_16, ix_202_17, ix_202_18, ix_202_19, ix_202_22, mC_202, mS_202, mH_202, h0, h1, nI_z]
  try simp (disch := omega) only [z_lt, z_le, z_eq, z_in, z_nat, Int.toNat_natCast, upd_z, z_l, zl_0, zl_add, zl_sub, zl_mul, zl_i, zl_eq, zl_div, Int.reduceLT, Int.reduceLE, Int.reduceToNat, Nat.reduceAdd, Nat.reduceLeDiff, not_false_eq_true, true_and, and_true]
  refine ⟨fun q => absurd True.intro q, fun _ => ?_⟩
  refine R_cV ix_202_7 (by decide) (by decide) rfl (h0) rfl (s198) (Nat.le_of_ble_eq_true rfl) (by rw [mcs_198, mC_202]; omega) (by rw [mcs_198, mS_202]; omega) ?_
  simp only [mcs_198, vpu, Nat.add_zero, Nat.zero_add, Nat.reduceAdd]
  refine R_run 60 ?_
  simp only [run_s, run_0, isc, Bool.or_false, Bool.false_or, Bool.or_true, Bool.true_or, Bool.or_self, cond_false, cond_true, gl, sl, stl, stl2, c2, isw, nf, pf, lnb, tk, true_and, and_true, nsg0, nsg1, Int.cast_ofNat_Int, Int.natCast_zero, Int.natCast_one, zero_z, z_add, z_sub, z_mul, z_neg, cnd_eq, cnd_ne, cnd_lt, cnd_ge, cnd_gt, cnd_le, vok_0, vok_3r, vok_3n, vok_4, Nat.add_zero, Nat.zero_add, Nat.reduceAdd, Nat.reduceSub, Nat.reduceMod, Nat.reduceDiv, Nat.reduceEqDiff, Nat.reduceLeDiff, Nat.reduceMul, Int.reduceNeg, if_true, if_false, ite_true, ite_false, reduceIte, hup_app, Nat.add_left_cancel_iff, Nat.left_eq_add, Nat.add_eq_left, reduceCtorEq, subc_0, subc_1, subc_2, subc_3, subc_4, subc_5, subc_6, subc_7, subc_8, subc_9, subc_10, subc_11, subc_12, sube_2, sube_3, sube_5, sube_8, sube_9, sube_10, rets_ok, va_rfs, true_or, or_true, or_false, false_or, sI_aastore, sI_aload_n, sI_arraylength, sI_astore_n, sI_iadd, sI_iconst, sI_if_icmp, sI_iload_n, sI_invokevirtual, sI_putfield, sI_return_, ix_202_0, ix_202_1, ix_202_2, ix_202_3, ix_202_6, ix_202_7, ix_202_10, ix_202_11, ix_202_12, ix_202_13, ix_202_14, ix_202_15, ix_202_16, ix_202_17, ix_202_18, ix_202_19, ix_202_22, mC_202, mS_202, mH_202, h0, hw, ne0, ne1, ne2, ne3, hci']
  try simp (disch := omega) only [z_lt, z_le, z_eq, z_in, z_nat, Int.toNat_natCast, upd_z, z_l, zl_0, zl_add, zl_sub, zl_mul, zl_i, zl_eq, zl_div, Int.reduceLT, Int.reduceLE, Int.reduceToNat, Nat.reduceAdd, Nat.reduceLeDiff, not_false_eq_true, true_and, and_true, or_true, false_or]
  try simp only [run_s, run_0, isc, Bool.or_false, Bool.false_or, Bool.or_true, Bool.true_or, Bool.or_self, cond_false, cond_true, gl, sl, stl, stl2, c2, isw, nf, pf, lnb, tk, true_and, and_true, nsg0, nsg1, Int.cast_ofNat_Int, Int.natCast_zero, Int.natCast_one, zero_z, z_add, z_sub, z_mul, z_neg, cnd_eq, cnd_ne, cnd_lt, cnd_ge, cnd_gt, cnd_le, vok_0, vok_3r, vok_3n, vok_4, Nat.add_zero, Nat.zero_add, Nat.reduceAdd, Nat.reduceSub, Nat.reduceMod, Nat.reduceDiv, Nat.reduceEqDiff, Nat.reduceLeDiff, Nat.reduceMul, Int.reduceNeg, if_true, if_false, ite_true, ite_false, reduceIte, hup_app, Nat.add_left_cancel_iff, Nat.left_eq_add, Nat.add_eq_left, reduceCtorEq, subc_0, subc_1, subc_2, subc_3, subc_4, subc_5, subc_6, subc_7, subc_8, subc_9, subc_10, subc_11, subc_12, sube_2, sube_3, sube_5, sube_8, sube_9, sube_10, rets_ok, va_rfs, true_or, or_true, or_false, false_or, sI_aastore, sI_aload_n, sI_arraylength, sI_astore_n, sI_iadd, sI_iconst, sI_if_icmp, sI_iload_n, sI_invokevirtual, sI_putfield, sI_return_, ix_202_0, ix_202_1, ix_202_2, ix_202_3, ix_202_6, ix_202_7, ix_202_10, ix_202_11, ix_202_12, ix_202_13, ix_202_14, ix_202_15, ix_202_16, ix_202_17, ix_202_18, ix_202_19, ix_202_22, mC_202, mS_202, mH_202, h0, hw, ne0, ne1, ne2, ne3, refA]
  refine ⟨by omega, ?_⟩
  funext x
  simp only [hup_app]
  by_cases x1 : x = l
  · rw [if_pos x1, if_pos x1]
  · rw [if_neg x1, if_neg x1]
    by_cases x2 : x = sz
    · rw [if_pos x2, if_neg x1, if_pos x2]
    · rw [if_neg x2, if_neg x1, if_neg x2]
      try rw [if_neg x1]
      try rw [if_neg x2]
set_option maxRecDepth 16384 in
theorem sp_202e {mc : Int} {ci : Nat} {fs : List Value} (h0 : h l = some (.inr (0, [.int (z mc), .ref E.2.1, .int (z 0)]))) (h1 : h E.2.1 = none) (hlz : l < sz) (hw : h w = some (.inr (ci, fs))) (hci : ci < 13) (hwz : w < sz) (hwl : w ≠ l) : Sp E (d + 7) 202 [.ref l, .ref w, .ref E.2.1, .int (z 0)] h sz (rets none (hup (hup h sz (.inl (3, 10, .inr (.inr (.inr (.inr (va_up (fun _ => none) 0 (some w)))))))) l (.inr (0, [.int (z mc), .ref sz, .int (z (0 + 1))]))) (sz + 1)) := by
  have ne0 : (l = sz) = False := eq_false (by omega)
  have ne1 : (sz = l) = False := eq_false (by omega)
  have ne2 : (w = l) = False := eq_false hwl
  have ne3 : (w = sz) = False := eq_false (by omega)
  have hci' : (ci < 13) = True := eq_true hci
  have s198 := sp_198e (E := E) (d := d) h0 h1 hlz
  refine ⟨mi_202, mt_202, Nat.le_of_ble_eq_true rfl, ?_⟩
  change Rr _ _ _ _ mi_202 _ 0 [some (.ref l), some (.ref w), some (.ref E.2.1), some (.int (z 0))] [] _ _ 0 0
  refine R_run 60 ?_
  simp only [run_s, run_0, isc, Bool.or_false, Bool.false_or, Bool.or_true, Bool.true_or, Bool.or_self, cond_false, cond_true, gl, sl, stl, stl2, c2, isw, nf, pf, lnb, tk, true_and, and_true, nsg0, nsg1, Int.cast_ofNat_Int, Int.natCast_zero, Int.natCast_one, zero_z, z_add, z_sub, z_mul, z_neg, cnd_eq, cnd_ne, cnd_lt, cnd_ge, cnd_gt, cnd_le, vok_0, vok_3r, vok_3n, vok_4, Nat.add_zero, Nat.zero_add, Nat.reduceAdd, Nat.reduceSub, Nat.reduceMod, Nat.reduceDiv, Nat.reduceEqDiff, Nat.reduceLeDiff, Nat.reduceMul, Int.reduceNeg, if_true, if_false, ite_true, ite_false, reduceIte, hup_app, Nat.add_left_cancel_iff, Nat.left_eq_add, Nat.add_eq_left, reduceCtorEq, subc_0, subc_1, subc_2, subc_3, subc_4, subc_5, subc_6, subc_7, subc_8, subc_9, subc_10, subc_11, subc_12, sube_2, sube_3, sube_5, sube_8, sube_9, sube_10, rets_ok, va_rfs, true_or, or_true, or_false, false_or, sI_aastore, sI_aload_n, sI_arraylength, sI_astore_n, sI_iadd, sI_iconst, sI_if_icmp, sI_iload_n, sI_invokevirtual, sI_putfield, sI_return_, ix_202_0, ix_202_1, ix_202_2, ix_202_3, ix_202_6, ix_202_7, ix_202_10, ix_202_11, ix_202_12, ix_202_13, ix_202_14, ix_202_15, ix_202_16, ix_202_17, ix_202_18, ix_202_19, ix_202_22, mC_202, mS_202, mH_202, h0, h1, nI_z, true_and, eq_self]
  refine Or.inl ?_
  try simp (disch := omega) only [z_lt, z_le, z_eq, z_in, z_nat, Int.toNat_natCast, upd_z, z_l, zl_0, zl_add, zl_sub, zl_mul, zl_i, zl_eq, zl_div, Int.reduceLT, Int.reduceLE, Int.reduceToNat, Nat.reduceAdd, Nat.reduceLeDiff, not_false_eq_true, true_and, and_true]
  refine ⟨fun q => absurd True.intro q, fun _ => ?_⟩
  refine R_cV ix_202_7 (by decide) (by decide) rfl (h0) rfl (s198) (Nat.le_of_ble_eq_true rfl) (by rw [mcs_198, mC_202]; omega) (by rw [mcs_198, mS_202]; omega) ?_
  simp only [mcs_198, vpu, Nat.add_zero, Nat.zero_add, Nat.reduceAdd]
  refine R_run 60 ?_
  simp only [run_s, run_0, isc, Bool.or_false, Bool.false_or, Bool.or_true, Bool.true_or, Bool.or_self, cond_false, cond_true, gl, sl, stl, stl2, c2, isw, nf, pf, lnb, tk, true_and, and_true, nsg0, nsg1, Int.cast_ofNat_Int, Int.natCast_zero, Int.natCast_one, zero_z, z_add, z_sub, z_mul, z_neg, cnd_eq, cnd_ne, cnd_lt, cnd_ge, cnd_gt, cnd_le, vok_0, vok_3r, vok_3n, vok_4, Nat.add_zero, Nat.zero_add, Nat.reduceAdd, Nat.reduceSub, Nat.reduceMod, Nat.reduceDiv, Nat.reduceEqDiff, Nat.reduceLeDiff, Nat.reduceMul, Int.reduceNeg, if_true, if_false, ite_true, ite_false, reduceIte, hup_app, Nat.add_left_cancel_iff, Nat.left_eq_add, Nat.add_eq_left, reduceCtorEq, subc_0, subc_1, subc_2, subc_3, subc_4, subc_5, subc_6, subc_7, subc_8, subc_9, subc_10, subc_11, subc_12, sube_2, sube_3, sube_5, sube_8, sube_9, sube_10, rets_ok, va_rfs, true_or, or_true, or_false, false_or, sI_aastore, sI_aload_n, sI_arraylength, sI_astore_n, sI_iadd, sI_iconst, sI_if_icmp, sI_iload_n, sI_invokevirtual, sI_putfield, sI_return_, ix_202_0, ix_202_1, ix_202_2, ix_202_3, ix_202_6, ix_202_7, ix_202_10, ix_202_11, ix_202_12, ix_202_13, ix_202_14, ix_202_15, ix_202_16, ix_202_17, ix_202_18, ix_202_19, ix_202_22, mC_202, mS_202, mH_202, h0, hw, ne0, ne1, ne2, ne3, hci', dfa]
  try simp (disch := omega) only [z_lt, z_le, z_eq, z_in, z_nat, Int.toNat_natCast, upd_z, z_l, zl_0, zl_add, zl_sub, zl_mul, zl_i, zl_eq, zl_div, Int.reduceLT, Int.reduceLE, Int.reduceToNat, Nat.reduceAdd, Nat.reduceLeDiff, not_false_eq_true, true_and, and_true, or_true, false_or]
  try simp only [run_s, run_0, isc, Bool.or_false, Bool.false_or, Bool.or_true, Bool.true_or, Bool.or_self, cond_false, cond_true, gl, sl, stl, stl2, c2, isw, nf, pf, lnb, tk, true_and, and_true, nsg0, nsg1, Int.cast_ofNat_Int, Int.natCast_zero, Int.natCast_one, zero_z, z_add, z_sub, z_mul, z_neg, cnd_eq, cnd_ne, cnd_lt, cnd_ge, cnd_gt, cnd_le, vok_0, vok_3r, vok_3n, vok_4, Nat.add_zero, Nat.zero_add, Nat.reduceAdd, Nat.reduceSub, Nat.reduceMod, Nat.reduceDiv, Nat.reduceEqDiff, Nat.reduceLeDiff, Nat.reduceMul, Int.reduceNeg, if_true, if_false, ite_true, ite_false, reduceIte, hup_app, Nat.add_left_cancel_iff, Nat.left_eq_add, Nat.add_eq_left, reduceCtorEq, subc_0, subc_1, subc_2, subc_3, subc_4, subc_5, subc_6, subc_7, subc_8, subc_9, subc_10, subc_11, subc_12, sube_2, sube_3, sube_5, sube_8, sube_9, sube_10, rets_ok, va_rfs, true_or, or_true, or_false, false_or, sI_aastore, sI_aload_n, sI_arraylength, sI_astore_n, sI_iadd, sI_iconst, sI_if_icmp, sI_iload_n, sI_invokevirtual, sI_putfield, sI_return_, ix_202_0, ix_202_1, ix_202_2, ix_202_3, ix_202_6, ix_202_7, ix_202_10, ix_202_11, ix_202_12, ix_202_13, ix_202_14, ix_202_15, ix_202_16, ix_202_17, ix_202_18, ix_202_19, ix_202_22, mC_202, mS_202, mH_202, h0, hw, ne0, ne1, ne2, ne3, refA]
  refine ⟨by decide, ?_⟩
  funext x
  simp only [hup_app]
  by_cases x1 : x = l
  · rw [if_pos x1, if_pos x1]
  · rw [if_neg x1, if_neg x1]
    by_cases x2 : x = sz
    · rw [if_pos x2, if_neg x1, if_pos x2]
    · rw [if_neg x2, if_neg x1, if_neg x2]
      try rw [if_neg x1]
      try rw [if_neg x2]
set_option maxRecDepth 16384 in
theorem sp_205 {mc : Int} {cap : Nat} {g : Nat → Option Nat} (h0 : h l = some (.inr (0, [.int (z mc), .ref arr, .int (z ((n : Int) + 1))]))) (h1 : h arr = some (.inl (3, cap, .inr (.inr (.inr (.inr g)))))) (hk : n < cap ∧ cap ≤ 600) : Sp E (d + 2) 205 [.ref l, .ref arr, .int (z (n : Int))] h sz (rets none (hup (hup h arr (.inl (3, cap, .inr (.inr (.inr (.inr (va_up g n none))))))) l (.inr (0, [.int (z (mc + 1)), .ref arr, .int (z (n : Int))]))) sz) := by
  have ne0 : (arr = l) = False := eq_false (fun q => by rw [q, h0] at h1; cases h1)
  have e1 : (n : Int) + 1 - 1 = (n : Int) := by omega
  refine ⟨mi_205, mt_205, Nat.le_of_ble_eq_true rfl, ?_⟩
  change Rr _ _ _ _ mi_205 _ 0 [some (.ref l), some (.ref arr), some (.int (z (n : Int))), none] [] _ _ 0 0
  refine R_run 60 ?_
  simp only [run_s, run_0, isc, Bool.or_false, Bool.false_or, Bool.or_true, Bool.true_or, Bool.or_self, cond_false, cond_true, gl, sl, stl, stl2, c2, isw, nf, pf, lnb, tk, true_and, and_true, nsg0, nsg1, Int.cast_ofNat_Int, Int.natCast_zero, Int.natCast_one, zero_z, z_add, z_sub, z_mul, z_neg, cnd_eq, cnd_ne, cnd_lt, cnd_ge, cnd_gt, cnd_le, vok_0, vok_3r, vok_3n, vok_4, Nat.add_zero, Nat.zero_add, Nat.reduceAdd, Nat.reduceSub, Nat.reduceMod, Nat.reduceDiv, Nat.reduceEqDiff, Nat.reduceLeDiff, Nat.reduceMul, Int.reduceNeg, if_true, if_false, ite_true, ite_false, reduceIte, hup_app, Nat.add_left_cancel_iff, Nat.left_eq_add, Nat.add_eq_left, reduceCtorEq, subc_0, subc_1, subc_2, subc_3, subc_4, subc_5, subc_6, subc_7, subc_8, subc_9, subc_10, subc_11, subc_12, sube_2, sube_3, sube_5, sube_8, sube_9, sube_10, rets_ok, va_rfs, true_or, or_true, or_false, false_or, sI_aastore, sI_aconst_null, sI_aload_n, sI_dup, sI_dup_x1, sI_getfield, sI_iadd, sI_iconst, sI_if_icmp, sI_iload_n, sI_invokestatic, sI_istore_n, sI_isub, sI_putfield, sI_return_, ix_205_0, ix_205_1, ix_205_2, ix_205_5, ix_205_6, ix_205_7, ix_205_10, ix_205_11, ix_205_14, ix_205_15, ix_205_16, ix_205_17, ix_205_18, ix_205_19, ix_205_22, ix_205_23, ix_205_24, ix_205_25, ix_205_26, ix_205_27, ix_205_28, ix_205_29, ix_205_30, ix_205_31, ix_205_34, ix_205_35, ix_205_36, ix_205_37, ix_205_38, ix_205_41, ix_205_42, ix_205_43, mC_205, mS_205, mH_205, h0, h1, ne0, e1]
  try simp (disch := omega) only [z_lt, z_le, z_eq, z_in, z_nat, Int.toNat_natCast, upd_z, z_l, zl_0, zl_add, zl_sub, zl_mul, zl_i, zl_eq, zl_div, Int.reduceLT, Int.reduceLE, Int.reduceToNat, Nat.reduceAdd, Nat.reduceLeDiff, not_false_eq_true, true_and, and_true, or_true, false_or]
  try simp only [run_s, run_0, isc, Bool.or_false, Bool.false_or, Bool.or_true, Bool.true_or, Bool.or_self, cond_false, cond_true, gl, sl, stl, stl2, c2, isw, nf, pf, lnb, tk, true_and, and_true, nsg0, nsg1, Int.cast_ofNat_Int, Int.natCast_zero, Int.natCast_one, zero_z, z_add, z_sub, z_mul, z_neg, cnd_eq, cnd_ne, cnd_lt, cnd_ge, cnd_gt, cnd_le, vok_0, vok_3r, vok_3n, vok_4, Nat.add_zero, Nat.zero_add, Nat.reduceAdd, Nat.reduceSub, Nat.reduceMod, Nat.reduceDiv, Nat.reduceEqDiff, Nat.reduceLeDiff, Nat.reduceMul, Int.reduceNeg, if_true, if_false, ite_true, ite_false, reduceIte, hup_app, Nat.add_left_cancel_iff, Nat.left_eq_add, Nat.add_eq_left, reduceCtorEq, subc_0, subc_1, subc_2, subc_3, subc_4, subc_5, subc_6, subc_7, subc_8, subc_9, subc_10, subc_11, subc_12, sube_2, sube_3, sube_5, sube_8, sube_9, sube_10, rets_ok, va_rfs, true_or, or_true, or_false, false_or, sI_aastore, sI_aconst_null, sI_aload_n, sI_dup, sI_dup_x1, sI_getfield, sI_iadd, sI_iconst, sI_if_icmp, sI_iload_n, sI_invokestatic, sI_istore_n, sI_isub, sI_putfield, sI_return_, ix_205_0, ix_205_1, ix_205_2, ix_205_5, ix_205_6, ix_205_7, ix_205_10, ix_205_11, ix_205_14, ix_205_15, ix_205_16, ix_205_17, ix_205_18, ix_205_19, ix_205_22, ix_205_23, ix_205_24, ix_205_25, ix_205_26, ix_205_27, ix_205_28, ix_205_29, ix_205_30, ix_205_31, ix_205_34, ix_205_35, ix_205_36, ix_205_37, ix_205_38, ix_205_41, ix_205_42, ix_205_43, mC_205, mS_205, mH_205, h0, h1, ne0, refA, e1]
  refine ⟨fun _ => ⟨by omega, ?_⟩, fun q => absurd (Int.le_refl _) q⟩
  funext x
  simp only [hup_app]
  by_cases x1 : x = l
  · have x2 : x ≠ arr := fun q => by rw [← x1, ← q] at ne0; exact ne0.mp rfl
    rw [if_neg x2, if_pos x1, if_pos x1]
  · by_cases x2 : x = arr
    · rw [if_pos x2, if_neg x1, if_pos x2]
    · rw [if_neg x2, if_neg x1, if_neg x1, if_neg x2]
      try rw [if_neg x1]
set_option maxRecDepth 16384 in
theorem sp_204 (hL : isL E h l arr (n + 1) f) : ∃ h', Sp E (d + 4) 204 [.ref l, .int (z (n : Int))] h sz (rets (some (.ref (f n))) h' sz) ∧ isL E h' l arr n f ∧ (∀ q, q ≠ l → q ≠ arr → h' q = h q) ∧ (∀ q, h q = none → h' q = none) := by
  obtain ⟨mc, cap, g, h0, h1, h2, h3, h4, h5⟩ := hL
  rcases h1 with ⟨-, hc, -⟩ | ⟨hc, h1⟩
  · omega
  have e := h4 n (by omega)
  have e9 : ((n + 1 : Nat) : Int) = (n : Int) + 1 := by omega
  rw [e9] at h0
  have hal : arr ≠ l := fun q => by rw [q, h0] at h1; cases h1
  have s := sp_205 (E := E) (d := d + 1) (sz := sz) h0 h1 (by omega)
  refine ⟨hup (hup h arr (.inl (3, cap, .inr (.inr (.inr (.inr (va_up g n none))))))) l (.inr (0, [.int (z (mc + 1)), .ref arr, .int (z (n : Int))])), ?_, ?_, ?_, ?_⟩
  · refine ⟨mi_204, mt_204, Nat.le_of_ble_eq_true rfl, ?_⟩
    change Rr _ _ _ _ mi_204 _ 0 [some (.ref l), some (.int (z (n : Int))), none, none] [] _ _ 0 0
    refine R_run 60 ?_
    simp only [run_s, run_0, isc, Bool.or_false, Bool.false_or, Bool.or_true, Bool.true_or, Bool.or_self, cond_false, cond_true, gl, sl, stl, stl2, c2, isw, nf, pf, lnb, tk, true_and, and_true, nsg0, nsg1, Int.cast_ofNat_Int, Int.natCast_zero, Int.natCast_one, zero_z, z_add, z_sub, z_mul, z_neg, cnd_eq, cnd_ne, cnd_lt, cnd_ge, cnd_gt, cnd_le, vok_0, vok_3r, vok_3n, vok_4, Nat.add_zero, Nat.zero_add, Nat.reduceAdd, Nat.reduceSub, Nat.reduceMod, Nat.reduceDiv, Nat.reduceEqDiff, Nat.reduceLeDiff, Nat.reduceMul, Int.reduceNeg, if_true, if_false, ite_true, ite_false, reduceIte, hup_app, Nat.add_left_cancel_iff, Nat.left_eq_add, Nat.add_eq_left, reduceCtorEq, subc_0, subc_1, subc_2, subc_3, subc_4, subc_5, subc_6, subc_7, subc_8, subc_9, subc_10, subc_11, subc_12, sube_2, sube_3, sube_5, sube_8, sube_9, sube_10, rets_ok, va_rfs, true_or, or_true, or_false, false_or, sI_aaload, sI_aload_n, sI_areturn, sI_astore_n, sI_getfield, sI_iload_n, sI_invokestatic, sI_invokevirtual, sI_pop, ix_204_0, ix_204_1, ix_204_2, ix_204_5, ix_204_8, ix_204_9, ix_204_10, ix_204_13, ix_204_14, ix_204_15, ix_204_16, ix_204_17, ix_204_18, ix_204_19, ix_204_20, ix_204_21, ix_204_24, ix_204_25, mC_204, mS_204, mH_204, h0]
    refine R_cS ix_204_5 (by decide) rfl (sp_208 (d := d + 1) (by omega)) (Nat.le_of_ble_eq_true rfl) (by rw [mcs_208, mC_204]; omega) (by rw [mcs_208, mS_204]; omega) ?_
    simp only [mcs_208, vpu, Nat.add_zero, Nat.zero_add, Nat.reduceAdd]
    refine R_run 60 ?_
    simp only [run_s, run_0, isc, Bool.or_false, Bool.false_or, Bool.or_true, Bool.true_or, Bool.or_self, cond_false, cond_true, gl, sl, stl, stl2, c2, isw, nf, pf, lnb, tk, true_and, and_true, nsg0, nsg1, Int.cast_ofNat_Int, Int.natCast_zero, Int.natCast_one, zero_z, z_add, z_sub, z_mul, z_neg, cnd_eq, cnd_ne, cnd_lt, cnd_ge, cnd_gt, cnd_le, vok_0, vok_3r, vok_3n, vok_4, Nat.add_zero, Nat.zero_add, Nat.reduceAdd, Nat.reduceSub, Nat.reduceMod, Nat.reduceDiv, Nat.reduceEqDiff, Nat.reduceLeDiff, Nat.reduceMul, Int.reduceNeg, if_true, if_false, ite_true, ite_false, reduceIte, hup_app, Nat.add_left_cancel_iff, Nat.left_eq_add, Nat.add_eq_left, reduceCtorEq, subc_0, subc_1, subc_2, subc_3, subc_4, subc_5, subc_6, subc_7, subc_8, subc_9, subc_10, subc_11, subc_12, sube_2, sube_3, sube_5, sube_8, sube_9, sube_10, rets_ok, va_rfs, true_or, or_true, or_false, false_or, sI_aaload, sI_aload_n, sI_areturn, sI_astore_n, sI_getfield, sI_iload_n, sI_invokestatic, sI_invokevirtual, sI_pop, ix_204_0, ix_204_1, ix_204_2, ix_204_5, ix_204_8, ix_204_9, ix_204_10, ix_204_13, ix_204_14, ix_204_15, ix_204_16, ix_204_17, ix_204_18, ix_204_19, ix_204_20, ix_204_21, ix_204_24, ix_204_25, mC_204, mS_204, mH_204, h0, h1]
    try simp (disch := omega) only [z_lt, z_le, z_eq, z_in, z_nat, Int.toNat_natCast, upd_z, z_l, zl_0, zl_add, zl_sub, zl_mul, zl_i, zl_eq, zl_div, Int.reduceLT, Int.reduceLE, Int.reduceToNat, Nat.reduceAdd, Nat.reduceLeDiff, not_false_eq_true, true_and, and_true, e, va_rfs, or_true]
    try simp only [run_s, run_0, isc, Bool.or_false, Bool.false_or, Bool.or_true, Bool.true_or, Bool.or_self, cond_false, cond_true, gl, sl, stl, stl2, c2, isw, nf, pf, lnb, tk, true_and, and_true, nsg0, nsg1, Int.cast_ofNat_Int, Int.natCast_zero, Int.natCast_one, zero_z, z_add, z_sub, z_mul, z_neg, cnd_eq, cnd_ne, cnd_lt, cnd_ge, cnd_gt, cnd_le, vok_0, vok_3r, vok_3n, vok_4, Nat.add_zero, Nat.zero_add, Nat.reduceAdd, Nat.reduceSub, Nat.reduceMod, Nat.reduceDiv, Nat.reduceEqDiff, Nat.reduceLeDiff, Nat.reduceMul, Int.reduceNeg, if_true, if_false, ite_true, ite_false, reduceIte, hup_app, Nat.add_left_cancel_iff, Nat.left_eq_add, Nat.add_eq_left, reduceCtorEq, subc_0, subc_1, subc_2, subc_3, subc_4, subc_5, subc_6, subc_7, subc_8, subc_9, subc_10, subc_11, subc_12, sube_2, sube_3, sube_5, sube_8, sube_9, sube_10, rets_ok, va_rfs, true_or, or_true, or_false, false_or, sI_aaload, sI_aload_n, sI_areturn, sI_astore_n, sI_getfield, sI_iload_n, sI_invokestatic, sI_invokevirtual, sI_pop, ix_204_0, ix_204_1, ix_204_2, ix_204_5, ix_204_8, ix_204_9, ix_204_10, ix_204_13, ix_204_14, ix_204_15, ix_204_16, ix_204_17, ix_204_18, ix_204_19, ix_204_20, ix_204_21, ix_204_24, ix_204_25, mC_204, mS_204, mH_204, h0, h1]
    refine ⟨by omega, ?_⟩
    refine R_cV ix_204_21 (by decide) (by decide) rfl (h0) rfl (s) (Nat.le_of_ble_eq_true rfl) (by rw [mcs_205, mC_204]; omega) (by rw [mcs_205, mS_204]; omega) ?_
    simp only [mcs_205, vpu, Nat.add_zero, Nat.zero_add, Nat.reduceAdd]
    refine R_run 60 ?_
    simp only [run_s, run_0, isc, Bool.or_false, Bool.false_or, Bool.or_true, Bool.true_or, Bool.or_self, cond_false, cond_true, gl, sl, stl, stl2, c2, isw, nf, pf, lnb, tk, true_and, and_true, nsg0, nsg1, Int.cast_ofNat_Int, Int.natCast_zero, Int.natCast_one, zero_z, z_add, z_sub, z_mul, z_neg, cnd_eq, cnd_ne, cnd_lt, cnd_ge, cnd_gt, cnd_le, vok_0, vok_3r, vok_3n, vok_4, Nat.add_zero, Nat.zero_add, Nat.reduceAdd, Nat.reduceSub, Nat.reduceMod, Nat.reduceDiv, Nat.reduceEqDiff, Nat.reduceLeDiff, Nat.reduceMul, Int.reduceNeg, if_true, if_false, ite_true, ite_false, reduceIte, hup_app, Nat.add_left_cancel_iff, Nat.left_eq_add, Nat.add_eq_left, reduceCtorEq, subc_0, subc_1, subc_2, subc_3, subc_4, subc_5, subc_6, subc_7, subc_8, subc_9, subc_10, subc_11, subc_12, sube_2, sube_3, sube_5, sube_8, sube_9, sube_10, rets_ok, va_rfs, true_or, or_true, or_false, false_or, sI_aaload, sI_aload_n, sI_areturn, sI_astore_n, sI_getfield, sI_iload_n, sI_invokestatic, sI_invokevirtual, sI_pop, ix_204_0, ix_204_1, ix_204_2, ix_204_5, ix_204_8, ix_204_9, ix_204_10, ix_204_13, ix_204_14, ix_204_15, ix_204_16, ix_204_17, ix_204_18, ix_204_19, ix_204_20, ix_204_21, ix_204_24, ix_204_25, mC_204, mS_204, mH_204]
  · refine ⟨mc + 1, cap, va_up g n none, hup_eq _ _ _, Or.inr ⟨hc, ?_⟩, by omega, h3, ?_, ?_⟩
    · rw [hup_ne _ _ hal, hup_eq]
    · intro i hi
      unfold va_up
      rw [if_neg (by omega), h4 i (by omega)]
    · intro i hi
      obtain ⟨ci, fs, e6, e7⟩ := h5 i (by omega)
      by_cases hq : f i = l
      · rw [hq]
        exact ⟨_, _, hup_eq _ _ _, by decide⟩
      · have hq2 : f i ≠ arr := fun q => by rw [q, h1] at e6; cases e6
        rw [hup_ne _ _ hq, hup_ne _ _ hq2]
        exact ⟨ci, fs, e6, e7⟩
  · intro q q1 q2
    rw [hup_ne _ _ q1, hup_ne _ _ q2]
  · intro q hq
    have q1 : q ≠ l := fun e => by rw [e, h0] at hq; cases hq
    have q2 : q ≠ arr := fun e => by rw [e, h1] at hq; cases hq
    rw [hup_ne _ _ q1, hup_ne _ _ q2, hq]
/- a new list -/
set_option maxRecDepth 16384 in
theorem sp_194 : Sp E (d + 3) 194 [.ref l] h sz (rets none h sz) := by
  refine ⟨mi_194, mt_194, Nat.le_of_ble_eq_true rfl, ?_⟩
  change Rr _ _ _ _ mi_194 _ 0 [some (.ref l)] [] _ _ 0 0
  refine R_run 60 ?_
  simp only [run_s, run_0, isc, Bool.or_false, Bool.false_or, Bool.or_true, Bool.true_or, Bool.or_self, cond_false, cond_true, gl, sl, stl, stl2, c2, isw, nf, pf, lnb, tk, true_and, and_true, nsg0, nsg1, Int.cast_ofNat_Int, Int.natCast_zero, Int.natCast_one, zero_z, z_add, z_sub, z_mul, z_neg, cnd_eq, cnd_ne, cnd_lt, cnd_ge, cnd_gt, cnd_le, vok_0, vok_3r, vok_3n, vok_4, Nat.add_zero, Nat.zero_add, Nat.reduceAdd, Nat.reduceSub, Nat.reduceMod, Nat.reduceDiv, Nat.reduceEqDiff, Nat.reduceLeDiff, Nat.reduceMul, Int.reduceNeg, if_true, if_false, ite_true, ite_false, reduceIte, hup_app, Nat.add_left_cancel_iff, Nat.left_eq_add, Nat.add_eq_left, reduceCtorEq, subc_0, subc_1, subc_2, subc_3, subc_4, subc_5, subc_6, subc_7, subc_8, subc_9, subc_10, subc_11, subc_12, sube_2, sube_3, sube_5, sube_8, sube_9, sube_10, rets_ok, va_rfs, true_or, or_true, or_false, false_or, sI_aload_n, sI_invokespecial, sI_return_, ix_194_0, ix_194_1, ix_194_4, mC_194, mS_194, mH_194]
  refine R_obj ix_194_1 (Nat.le_of_ble_eq_true rfl) (by omega) ?_
  refine R_run 60 ?_
  simp only [run_s, run_0, isc, Bool.or_false, Bool.false_or, Bool.or_true, Bool.true_or, Bool.or_self, cond_false, cond_true, gl, sl, stl, stl2, c2, isw, nf, pf, lnb, tk, true_and, and_true, nsg0, nsg1, Int.cast_ofNat_Int, Int.natCast_zero, Int.natCast_one, zero_z, z_add, z_sub, z_mul, z_neg, cnd_eq, cnd_ne, cnd_lt, cnd_ge, cnd_gt, cnd_le, vok_0, vok_3r, vok_3n, vok_4, Nat.add_zero, Nat.zero_add, Nat.reduceAdd, Nat.reduceSub, Nat.reduceMod, Nat.reduceDiv, Nat.reduceEqDiff, Nat.reduceLeDiff, Nat.reduceMul, Int.reduceNeg, if_true, if_false, ite_true, ite_false, reduceIte, hup_app, Nat.add_left_cancel_iff, Nat.left_eq_add, Nat.add_eq_left, reduceCtorEq, subc_0, subc_1, subc_2, subc_3, subc_4, subc_5, subc_6, subc_7, subc_8, subc_9, subc_10, subc_11, subc_12, sube_2, sube_3, sube_5, sube_8, sube_9, sube_10, rets_ok, va_rfs, true_or, or_true, or_false, false_or, sI_aload_n, sI_invokespecial, sI_return_, ix_194_0, ix_194_1, ix_194_4, mC_194, mS_194, mH_194]
set_option maxRecDepth 16384 in
theorem sp_195 {a b : Value} {c : Value} (h0 : h l = some (.inr (0, [a, b, c]))) : Sp E (d + 4) 195 [.ref l] h sz (rets none (hup h l (.inr (0, [.int (z 0), b, c]))) sz) := by
  refine ⟨mi_195, mt_195, Nat.le_of_ble_eq_true rfl, ?_⟩
  change Rr _ _ _ _ mi_195 _ 0 [some (.ref l)] [] _ _ 0 0
  refine R_run 60 ?_
  simp only [run_s, run_0, isc, Bool.or_false, Bool.false_or, Bool.or_true, Bool.true_or, Bool.or_self, cond_false, cond_true, gl, sl, stl, stl2, c2, isw, nf, pf, lnb, tk, true_and, and_true, nsg0, nsg1, Int.cast_ofNat_Int, Int.natCast_zero, Int.natCast_one, zero_z, z_add, z_sub, z_mul, z_neg, cnd_eq, cnd_ne, cnd_lt, cnd_ge, cnd_gt, cnd_le, vok_0, vok_3r, vok_3n, vok_4, Nat.add_zero, Nat.zero_add, Nat.reduceAdd, Nat.reduceSub, Nat.reduceMod, Nat.reduceDiv, Nat.reduceEqDiff, Nat.reduceLeDiff, Nat.reduceMul, Int.reduceNeg, if_true, if_false, ite_true, ite_false, reduceIte, hup_app, Nat.add_left_cancel_iff, Nat.left_eq_add, Nat.add_eq_left, reduceCtorEq, subc_0, subc_1, subc_2, subc_3, subc_4, subc_5, subc_6, subc_7, subc_8, subc_9, subc_10, subc_11, subc_12, sube_2, sube_3, sube_5, sube_8, sube_9, sube_10, rets_ok, va_rfs, true_or, or_true, or_false, false_or, sI_aload_n, sI_iconst, sI_invokespecial, sI_putfield, sI_return_, ix_195_0, ix_195_1, ix_195_4, ix_195_5, ix_195_6, ix_195_9, mC_195, mS_195, mH_195]
  refine R_cI ix_195_1 (by decide) rfl (sp_194 (d := d)) (Nat.le_of_ble_eq_true rfl) (by rw [mcs_194, mC_195]; omega) (by rw [mcs_194, mS_195]; omega) ?_
  simp only [mcs_194, vpu, Nat.add_zero, Nat.zero_add, Nat.reduceAdd]
  refine R_run 60 ?_
  simp only [run_s, run_0, isc, Bool.or_false, Bool.false_or, Bool.or_true, Bool.true_or, Bool.or_self, cond_false, cond_true, gl, sl, stl, stl2, c2, isw, nf, pf, lnb, tk, true_and, and_true, nsg0, nsg1, Int.cast_ofNat_Int, Int.natCast_zero, Int.natCast_one, zero_z, z_add, z_sub, z_mul, z_neg, cnd_eq, cnd_ne, cnd_lt, cnd_ge, cnd_gt, cnd_le, vok_0, vok_3r, vok_3n, vok_4, Nat.add_zero, Nat.zero_add, Nat.reduceAdd, Nat.reduceSub, Nat.reduceMod, Nat.reduceDiv, Nat.reduceEqDiff, Nat.reduceLeDiff, Nat.reduceMul, Int.reduceNeg, if_true, if_false, ite_true, ite_false, reduceIte, hup_app, Nat.add_left_cancel_iff, Nat.left_eq_add, Nat.add_eq_left, reduceCtorEq, subc_0, subc_1, subc_2, subc_3, subc_4, subc_5, subc_6, subc_7, subc_8, subc_9, subc_10, subc_11, subc_12, sube_2, sube_3, sube_5, sube_8, sube_9, sube_10, rets_ok, va_rfs, true_or, or_true, or_false, false_or, sI_aload_n, sI_iconst, sI_invokespecial, sI_putfield, sI_return_, ix_195_0, ix_195_1, ix_195_4, ix_195_5, ix_195_6, ix_195_9, mC_195, mS_195, mH_195, h0]
set_option maxRecDepth 16384 in
theorem sp_196 (h0 : h l = some (.inr (0, dfl 0))) : Sp E (d + 5) 196 [.ref l] h sz (rets none (hup h l (.inr (0, [.int (z 0), .ref E.2.1, .int (z 0)]))) sz) := by
  refine ⟨mi_196, mt_196, Nat.le_of_ble_eq_true rfl, ?_⟩
  change Rr _ _ _ _ mi_196 _ 0 [some (.ref l)] [] _ _ 0 0
  refine R_run 60 ?_
  simp only [run_s, run_0, isc, Bool.or_false, Bool.false_or, Bool.or_true, Bool.true_or, Bool.or_self, cond_false, cond_true, gl, sl, stl, stl2, c2, isw, nf, pf, lnb, tk, true_and, and_true, nsg0, nsg1, Int.cast_ofNat_Int, Int.natCast_zero, Int.natCast_one, zero_z, z_add, z_sub, z_mul, z_neg, cnd_eq, cnd_ne, cnd_lt, cnd_ge, cnd_gt, cnd_le, vok_0, vok_3r, vok_3n, vok_4, Nat.add_zero, Nat.zero_add, Nat.reduceAdd, Nat.reduceSub, Nat.reduceMod, Nat.reduceDiv, Nat.reduceEqDiff, Nat.reduceLeDiff, Nat.reduceMul, Int.reduceNeg, if_true, if_false, ite_true, ite_false, reduceIte, hup_app, Nat.add_left_cancel_iff, Nat.left_eq_add, Nat.add_eq_left, reduceCtorEq, subc_0, subc_1, subc_2, subc_3, subc_4, subc_5, subc_6, subc_7, subc_8, subc_9, subc_10, subc_11, subc_12, sube_2, sube_3, sube_5, sube_8, sube_9, sube_10, rets_ok, va_rfs, true_or, or_true, or_false, false_or, sI_aload_n, sI_getstatic, sI_invokespecial, sI_putfield, sI_return_, ix_196_0, ix_196_1, ix_196_4, ix_196_5, ix_196_8, ix_196_11, mC_196, mS_196, mH_196]
  refine R_cI ix_196_1 (by decide) rfl (sp_195 (d := d) h0) (Nat.le_of_ble_eq_true rfl) (by rw [mcs_195, mC_196]; omega) (by rw [mcs_195, mS_196]; omega) ?_
  simp only [mcs_195, vpu, Nat.add_zero, Nat.zero_add, Nat.reduceAdd]
  refine R_run 60 ?_
  simp only [run_s, run_0, isc, Bool.or_false, Bool.false_or, Bool.or_true, Bool.true_or, Bool.or_self, cond_false, cond_true, gl, sl, stl, stl2, c2, isw, nf, pf, lnb, tk, true_and, and_true, nsg0, nsg1, Int.cast_ofNat_Int, Int.natCast_zero, Int.natCast_one, zero_z, z_add, z_sub, z_mul, z_neg, cnd_eq, cnd_ne, cnd_lt, cnd_ge, cnd_gt, cnd_le, vok_0, vok_3r, vok_3n, vok_4, Nat.add_zero, Nat.zero_add, Nat.reduceAdd, Nat.reduceSub, Nat.reduceMod, Nat.reduceDiv, Nat.reduceEqDiff, Nat.reduceLeDiff, Nat.reduceMul, Int.reduceNeg, if_true, if_false, ite_true, ite_false, reduceIte, hup_app, Nat.add_left_cancel_iff, Nat.left_eq_add, Nat.add_eq_left, reduceCtorEq, subc_0, subc_1, subc_2, subc_3, subc_4, subc_5, subc_6, subc_7, subc_8, subc_9, subc_10, subc_11, subc_12, sube_2, sube_3, sube_5, sube_8, sube_9, sube_10, rets_ok, va_rfs, true_or, or_true, or_false, false_or, sI_aload_n, sI_getstatic, sI_invokespecial, sI_putfield, sI_return_, ix_196_0, ix_196_1, ix_196_4, ix_196_5, ix_196_8, ix_196_11, mC_196, mS_196, mH_196, zero_z]
  exact hup_hup _ _ _ _
/- the list has one more -/
theorem isL_lt {hz : ∀ q, sz ≤ q → h q = none} {q : Nat} {c : va_E} (k : h q = some c) : q < sz := by
  rcases Nat.lt_or_ge q sz with h1 | h1
  · exact h1
  · rw [hz q h1] at k
    cases k
set_option maxRecDepth 16384 in
theorem sp_203 {ci : Nat} {fs : List Value} (hL : isL E h l arr n f) (hn : n ≤ 400) (hw : h w = some (.inr (ci, fs))) (hci : 1 ≤ ci ∧ ci < 13) (hz : ∀ q, sz ≤ q → h q = none) (hEz : E.2.1 < sz) (hE0 : h E.2.1 = none) : ∃ h' sz' arr', Sp E (d + 8) 203 [.ref l, .ref w] h sz (rets (some (.int (z 1))) h' sz') ∧ isL E h' l arr' (n + 1) (fun i => if i = n then w else f i) ∧ sz ≤ sz' ∧ sz' ≤ sz + 1 ∧ (arr' = arr ∨ arr' = sz) ∧ (∀ q, q < sz → q ≠ l → (q = arr → arr = E.2.1) → h' q = h q) ∧ (∀ q, sz' ≤ q → h' q = none) ∧ E.2.1 < sz' := by
  obtain ⟨mc, cap, g, h0, h1, h2, h3, h4, h5⟩ := hL
  have hlz : l < sz := isL_lt (hz := hz) h0
  have hwz : w < sz := isL_lt (hz := hz) hw
  have hwl : w ≠ l := fun q => by rw [q, h0] at hw; cases hw; omega
  have k0 : hup h l (.inr (0, [.int (z (mc + 1)), .ref arr, .int (z (n : Int))])) l = some (.inr (0, [.int (z (mc + 1)), .ref arr, .int (z (n : Int))])) := hup_eq _ _ _
  have kw : hup h l (.inr (0, [.int (z (mc + 1)), .ref arr, .int (z (n : Int))])) w = some (.inr (ci, fs)) := by rw [hup_ne _ _ hwl, hw]
  have kel : ∀ i, i < n → f i < sz ∧ ∃ ci fs, hup h l (.inr (0, [.int (z (mc + 1)), .ref arr, .int (z (n : Int))])) (f i) = some (.inr (ci, fs)) ∧ ci < 13 := by
    intro i hi
    obtain ⟨ci', fs', e1, e2⟩ := h5 i hi
    refine ⟨isL_lt (hz := hz) e1, ?_⟩
    by_cases hq : f i = l
    · rw [hq]
      exact ⟨_, _, k0, by decide⟩
    · rw [hup_ne _ _ hq]
      exact ⟨_, _, e1, e2⟩
  rcases h1 with ⟨ha, hc, h1⟩ | ⟨hc, h1⟩
  · have hn0 : n = 0 := by omega
    subst hn0
    subst ha
    have kl : hup h l (.inr (0, [.int (z (mc + 1)), .ref E.2.1, .int (z ((0 : Nat) : Int))])) E.2.1 = none := by
      rw [hup_ne _ _ (fun q => by rw [← q, h1] at h0; cases h0), h1]
    have s := sp_202e (E := E) (d := d) (sz := sz) k0 kl hlz kw hci.2 hwz hwl
    refine ⟨hup (hup (hup h l (.inr (0, [.int (z (mc + 1)), .ref E.2.1, .int (z ((0 : Nat) : Int))]))) sz (.inl (3, 10, .inr (.inr (.inr (.inr (va_up (fun _ => none) 0 (some w)))))))) l (.inr (0, [.int (z (mc + 1)), .ref sz, .int (z (0 + 1))])), sz + 1, sz, ?_, ?_, by omega, by omega, Or.inr rfl, ?_, ?_, by omega⟩
    · refine ⟨mi_203, mt_203, Nat.le_of_ble_eq_true rfl, ?_⟩
      change Rr _ _ _ _ mi_203 _ 0 [some (.ref l), some (.ref w)] [] _ _ 0 0
      refine R_run 60 ?_
      simp only [run_s, run_0, isc, Bool.or_false, Bool.false_or, Bool.or_true, Bool.true_or, Bool.or_self, cond_false, cond_true, gl, sl, stl, stl2, c2, isw, nf, pf, lnb, tk, true_and, and_true, nsg0, nsg1, Int.cast_ofNat_Int, Int.natCast_zero, Int.natCast_one, zero_z, z_add, z_sub, z_mul, z_neg, cnd_eq, cnd_ne, cnd_lt, cnd_ge, cnd_gt, cnd_le, vok_0, vok_3r, vok_3n, vok_4, Nat.add_zero, Nat.zero_add, Nat.reduceAdd, Nat.reduceSub, Nat.reduceMod, Nat.reduceDiv, Nat.reduceEqDiff, Nat.reduceLeDiff, Nat.reduceMul, Int.reduceNeg, if_true, if_false, ite_true, ite_false, reduceIte, hup_app, Nat.add_left_cancel_iff, Nat.left_eq_add, Nat.add_eq_left, reduceCtorEq, subc_0, subc_1, subc_2, subc_3, subc_4, subc_5, subc_6, subc_7, subc_8, subc_9, subc_10, subc_11, subc_12, sube_2, sube_3, sube_5, sube_8, sube_9, sube_10, rets_ok, va_rfs, true_or, or_true, or_false, false_or, sI_aload_n, sI_dup, sI_getfield, sI_iadd, sI_iconst, sI_invokevirtual, sI_ireturn, sI_putfield, ix_203_0, ix_203_1, ix_203_2, ix_203_5, ix_203_6, ix_203_7, ix_203_10, ix_203_11, ix_203_12, ix_203_13, ix_203_16, ix_203_17, ix_203_20, ix_203_23, ix_203_24, mC_203, mS_203, mH_203, h0]
      refine R_cV ix_203_20 (by decide) (by decide) rfl (k0) rfl (s) (Nat.le_of_ble_eq_true rfl) (by rw [mcs_202, mC_203]; omega) (by rw [mcs_202, mS_203]; omega) ?_
      simp only [mcs_202, vpu, Nat.add_zero, Nat.zero_add, Nat.reduceAdd]
      refine R_run 60 ?_
      simp only [run_s, run_0, isc, Bool.or_false, Bool.false_or, Bool.or_true, Bool.true_or, Bool.or_self, cond_false, cond_true, gl, sl, stl, stl2, c2, isw, nf, pf, lnb, tk, true_and, and_true, nsg0, nsg1, Int.cast_ofNat_Int, Int.natCast_zero, Int.natCast_one, zero_z, z_add, z_sub, z_mul, z_neg, cnd_eq, cnd_ne, cnd_lt, cnd_ge, cnd_gt, cnd_le, vok_0, vok_3r, vok_3n, vok_4, Nat.add_zero, Nat.zero_add, Nat.reduceAdd, Nat.reduceSub, Nat.reduceMod, Nat.reduceDiv, Nat.reduceEqDiff, Nat.reduceLeDiff, Nat.reduceMul, Int.reduceNeg, if_true, if_false, ite_true, ite_false, reduceIte, hup_app, Nat.add_left_cancel_iff, Nat.left_eq_add, Nat.add_eq_left, reduceCtorEq, subc_0, subc_1, subc_2, subc_3, subc_4, subc_5, subc_6, subc_7, subc_8, subc_9, subc_10, subc_11, subc_12, sube_2, sube_3, sube_5, sube_8, sube_9, sube_10, rets_ok, va_rfs, true_or, or_true, or_false, false_or, sI_aload_n, sI_dup, sI_getfield, sI_iadd, sI_iconst, sI_invokevirtual, sI_ireturn, sI_putfield, ix_203_0, ix_203_1, ix_203_2, ix_203_5, ix_203_6, ix_203_7, ix_203_10, ix_203_11, ix_203_12, ix_203_13, ix_203_16, ix_203_17, ix_203_20, ix_203_23, ix_203_24, mC_203, mS_203, mH_203, vok_z1 (Or.inr rfl)]
    · refine ⟨mc + 1, 10, va_up (fun _ => none) 0 (some w), hup_eq _ _ _, Or.inr ⟨by decide, ?_⟩, by omega, by omega, ?_, ?_⟩
      · rw [hup_ne _ _ (by omega), hup_eq]
      · intro i hi
        have : i = 0 := by omega
        subst this
        rfl
      · intro i hi
        have : i = 0 := by omega
        subst this
        refine ⟨ci, fs, ?_, hci.2⟩
        show hup _ l _ w = _
        rw [hup_ne _ _ hwl, hup_ne _ _ (by omega), hup_ne _ _ hwl, hw]
    · intro q hq q1 q2
      rw [hup_ne _ _ q1, hup_ne _ _ (by omega), hup_ne _ _ q1]
    · intro q hq
      rw [hup_ne _ _ (by omega), hup_ne _ _ (by omega), hup_ne _ _ (by omega), hz q (by omega)]
  · have hal : arr ≠ l := fun q => by rw [q, h0] at h1; cases h1
    have haz : arr < sz := isL_lt (hz := hz) h1
    have k1 : hup h l (.inr (0, [.int (z (mc + 1)), .ref arr, .int (z (n : Int))])) arr = some (.inl (3, cap, .inr (.inr (.inr (.inr g))))) := by rw [hup_ne _ _ hal, h1]
    have hwa : w ≠ arr := fun q => by rw [q, h1] at hw; cases hw
    by_cases hfull : n = cap
    · subst hfull
      have s := sp_202g (E := E) (d := d) (sz := sz) k0 k1 ⟨hc, hn⟩ hlz haz (fun j hj w' hw' => by rw [h4 j hj] at hw'; cases hw'; exact kel j hj) kw hci.2 hwz hwl
      have e3 : n < n + (if 1 < n / 2 then n / 2 else 1) := by split <;> omega
      have e4 : n + (if 1 < n / 2 then n / 2 else 1) ≤ 600 := by split <;> omega
      generalize n + (if 1 < n / 2 then n / 2 else 1) = cq at *
      refine ⟨hup (hup (hup h l (.inr (0, [.int (z (mc + 1)), .ref arr, .int (z (n : Int))]))) sz (.inl (3, cq, .inr (.inr (.inr (.inr (va_up (va_cpy g (fun _ => none) 0 0 n) n (some w)))))))) l (.inr (0, [.int (z (mc + 1)), .ref sz, .int (z ((n : Int) + 1))])), sz + 1, sz, ?_, ?_, by omega, by omega, Or.inr rfl, ?_, ?_, by omega⟩
      · refine ⟨mi_203, mt_203, Nat.le_of_ble_eq_true rfl, ?_⟩
        change Rr _ _ _ _ mi_203 _ 0 [some (.ref l), some (.ref w)] [] _ _ 0 0
        refine R_run 60 ?_
        simp only [run_s, run_0, isc, Bool.or_false, Bool.false_or, Bool.or_true, Bool.true_or, Bool.or_self, cond_false, cond_true, gl, sl, stl, stl2, c2, isw, nf, pf, lnb, tk, true_and, and_true, nsg0, nsg1, Int.cast_ofNat_Int, Int.natCast_zero, Int.natCast_one, zero_z, z_add, z_sub, z_mul, z_neg, cnd_eq, cnd_ne, cnd_lt, cnd_ge, cnd_gt, cnd_le, vok_0, vok_3r, vok_3n, vok_4, Nat.add_zero, Nat.zero_add, Nat.reduceAdd, Nat.reduceSub, Nat.reduceMod, Nat.reduceDiv, Nat.reduceEqDiff, Nat.reduceLeDiff, Nat.reduceMul, Int.reduceNeg, if_true, if_false, ite_true, ite_false, reduceIte, hup_app, Nat.add_left_cancel_iff, Nat.left_eq_add, Nat.add_eq_left, reduceCtorEq, subc_0, subc_1, subc_2, subc_3, subc_4, subc_5, subc_6, subc_7, subc_8, subc_9, subc_10, subc_11, subc_12, sube_2, sube_3, sube_5, sube_8, sube_9, sube_10, rets_ok, va_rfs, true_or, or_true, or_false, false_or, sI_aload_n, sI_dup, sI_getfield, sI_iadd, sI_iconst, sI_invokevirtual, sI_ireturn, sI_putfield, ix_203_0, ix_203_1, ix_203_2, ix_203_5, ix_203_6, ix_203_7, ix_203_10, ix_203_11, ix_203_12, ix_203_13, ix_203_16, ix_203_17, ix_203_20, ix_203_23, ix_203_24, mC_203, mS_203, mH_203, h0]
        refine R_cV ix_203_20 (by decide) (by decide) rfl (k0) rfl (s) (Nat.le_of_ble_eq_true rfl) (by rw [mcs_202, mC_203]; omega) (by rw [mcs_202, mS_203]; omega) ?_
        simp only [mcs_202, vpu, Nat.add_zero, Nat.zero_add, Nat.reduceAdd]
        refine R_run 60 ?_
        simp only [run_s, run_0, isc, Bool.or_false, Bool.false_or, Bool.or_true, Bool.true_or, Bool.or_self, cond_false, cond_true, gl, sl, stl, stl2, c2, isw, nf, pf, lnb, tk, true_and, and_true, nsg0, nsg1, Int.cast_ofNat_Int, Int.natCast_zero, Int.natCast_one, zero_z, z_add, z_sub, z_mul, z_neg, cnd_eq, cnd_ne, cnd_lt, cnd_ge, cnd_gt, cnd_le, vok_0, vok_3r, vok_3n, vok_4, Nat.add_zero, Nat.zero_add, Nat.reduceAdd, Nat.reduceSub, Nat.reduceMod, Nat.reduceDiv, Nat.reduceEqDiff, Nat.reduceLeDiff, Nat.reduceMul, Int.reduceNeg, if_true, if_false, ite_true, ite_false, reduceIte, hup_app, Nat.add_left_cancel_iff, Nat.left_eq_add, Nat.add_eq_left, reduceCtorEq, subc_0, subc_1, subc_2, subc_3, subc_4, subc_5, subc_6, subc_7, subc_8, subc_9, subc_10, subc_11, subc_12, sube_2, sube_3, sube_5, sube_8, sube_9, sube_10, rets_ok, va_rfs, true_or, or_true, or_false, false_or, sI_aload_n, sI_dup, sI_getfield, sI_iadd, sI_iconst, sI_invokevirtual, sI_ireturn, sI_putfield, ix_203_0, ix_203_1, ix_203_2, ix_203_5, ix_203_6, ix_203_7, ix_203_10, ix_203_11, ix_203_12, ix_203_13, ix_203_16, ix_203_17, ix_203_20, ix_203_23, ix_203_24, mC_203, mS_203, mH_203, vok_z1 (Or.inr rfl)]
      · refine ⟨mc + 1, cq, va_up (va_cpy g (fun _ => none) 0 0 n) n (some w), ?_, Or.inr ⟨by omega, ?_⟩, by omega, by omega, ?_, ?_⟩
        · rw [hup_eq, show ((n + 1 : Nat) : Int) = (n : Int) + 1 by omega]
        · rw [hup_ne _ _ (by omega), hup_eq]
        · intro i hi
          unfold va_up
          dsimp only
          by_cases hin : i = n
          · rw [if_pos hin, if_pos hin]
          · rw [if_neg hin, if_neg hin, va_cpy0 (by omega), h4 i (by omega)]
        · intro i hi
          dsimp only
          by_cases hin : i = n
          · rw [if_pos hin, hup_ne _ _ hwl, hup_ne _ _ (by omega), hup_ne _ _ hwl]
            exact ⟨ci, fs, hw, hci.2⟩
          · rw [if_neg hin]
            obtain ⟨e5, ci', fs', e6, e7⟩ := kel i (by omega)
            by_cases hq : f i = l
            · rw [hq]
              exact ⟨_, _, hup_eq _ _ _, by decide⟩
            · rw [hup_ne _ _ hq, hup_ne _ _ (by omega)]
              exact ⟨ci', fs', e6, e7⟩
      · intro q hq q1 q2
        rw [hup_ne _ _ q1, hup_ne _ _ (by omega), hup_ne _ _ q1]
      · intro q hq
        rw [hup_ne _ _ (by omega), hup_ne _ _ (by omega), hup_ne _ _ (by omega), hz q (by omega)]
    · have s := sp_202r (E := E) (d := d) (sz := sz) k0 k1 (by omega) kw hci.2
      refine ⟨hup (hup (hup h l (.inr (0, [.int (z (mc + 1)), .ref arr, .int (z (n : Int))]))) arr (.inl (3, cap, .inr (.inr (.inr (.inr (va_up g n (some w)))))))) l (.inr (0, [.int (z (mc + 1)), .ref arr, .int (z ((n : Int) + 1))])), sz, arr, ?_, ?_, by omega, by omega, Or.inl rfl, ?_, ?_, hEz⟩
      · refine ⟨mi_203, mt_203, Nat.le_of_ble_eq_true rfl, ?_⟩
        change Rr _ _ _ _ mi_203 _ 0 [some (.ref l), some (.ref w)] [] _ _ 0 0
        refine R_run 60 ?_
        simp only [run_s, run_0, isc, Bool.or_false, Bool.false_or, Bool.or_true, Bool.true_or, Bool.or_self, cond_false, cond_true, gl, sl, stl, stl2, c2, isw, nf, pf, lnb, tk, true_and, and_true, nsg0, nsg1, Int.cast_ofNat_Int, Int.natCast_zero, Int.natCast_one, zero_z, z_add, z_sub, z_mul, z_neg, cnd_eq, cnd_ne, cnd_lt, cnd_ge, cnd_gt, cnd_le, vok_0, vok_3r, vok_3n, vok_4, Nat.add_zero, Nat.zero_add, Nat.reduceAdd, Nat.reduceSub, Nat.reduceMod, Nat.reduceDiv, Nat.reduceEqDiff, Nat.reduceLeDiff, Nat.reduceMul, Int.reduceNeg, if_true, if_false, ite_true, ite_false, reduceIte, hup_app, Nat.add_left_cancel_iff, Nat.left_eq_add, Nat.add_eq_left, reduceCtorEq, subc_0, subc_1, subc_2, subc_3, subc_4, subc_5, subc_6, subc_7, subc_8, subc_9, subc_10, subc_11, subc_12, sube_2, sube_3, sube_5, sube_8, sube_9, sube_10, rets_ok, va_rfs, true_or, or_true, or_false, false_or, sI_aload_n, sI_dup, sI_getfield, sI_iadd, sI_iconst, sI_invokevirtual, sI_ireturn, sI_putfield, ix_203_0, ix_203_1, ix_203_2, ix_203_5, ix_203_6, ix_203_7, ix_203_10, ix_203_11, ix_203_12, ix_203_13, ix_203_16, ix_203_17, ix_203_20, ix_203_23, ix_203_24, mC_203, mS_203, mH_203, h0]
        refine R_cV ix_203_20 (by decide) (by decide) rfl (k0) rfl (s) (Nat.le_of_ble_eq_true rfl) (by rw [mcs_202, mC_203]; omega) (by rw [mcs_202, mS_203]; omega) ?_
        simp only [mcs_202, vpu, Nat.add_zero, Nat.zero_add, Nat.reduceAdd]
        refine R_run 60 ?_
        simp only [run_s, run_0, isc, Bool.or_false, Bool.false_or, Bool.or_true, Bool.true_or, Bool.or_self, cond_false, cond_true, gl, sl, stl, stl2, c2, isw, nf, pf, lnb, tk, true_and, and_true, nsg0, nsg1, Int.cast_ofNat_Int, Int.natCast_zero, Int.natCast_one, zero_z, z_add, z_sub, z_mul, z_neg, cnd_eq, cnd_ne, cnd_lt, cnd_ge, cnd_gt, cnd_le, vok_0, vok_3r, vok_3n, vok_4, Nat.add_zero, Nat.zero_add, Nat.reduceAdd, Nat.reduceSub, Nat.reduceMod, Nat.reduceDiv, Nat.reduceEqDiff, Nat.reduceLeDiff, Nat.reduceMul, Int.reduceNeg, if_true, if_false, ite_true, ite_false, reduceIte, hup_app, Nat.add_left_cancel_iff, Nat.left_eq_add, Nat.add_eq_left, reduceCtorEq, subc_0, subc_1, subc_2, subc_3, subc_4, subc_5, subc_6, subc_7, subc_8, subc_9, subc_10, subc_11, subc_12, sube_2, sube_3, sube_5, sube_8, sube_9, sube_10, rets_ok, va_rfs, true_or, or_true, or_false, false_or, sI_aload_n, sI_dup, sI_getfield, sI_iadd, sI_iconst, sI_invokevirtual, sI_ireturn, sI_putfield, ix_203_0, ix_203_1, ix_203_2, ix_203_5, ix_203_6, ix_203_7, ix_203_10, ix_203_11, ix_203_12, ix_203_13, ix_203_16, ix_203_17, ix_203_20, ix_203_23, ix_203_24, mC_203, mS_203, mH_203, vok_z1 (Or.inr rfl)]
      · refine ⟨mc + 1, cap, va_up g n (some w), ?_, Or.inr ⟨hc, ?_⟩, by omega, h3, ?_, ?_⟩
        · rw [hup_eq, show ((n + 1 : Nat) : Int) = (n : Int) + 1 by omega]
        · rw [hup_ne _ _ hal, hup_eq]
        · intro i hi
          unfold va_up
          dsimp only
          by_cases hin : i = n
          · rw [if_pos hin, if_pos hin]
          · rw [if_neg hin, if_neg hin, h4 i (by omega)]
        · intro i hi
          dsimp only
          by_cases hin : i = n
          · rw [if_pos hin, hup_ne _ _ hwl, hup_ne _ _ hwa, hup_ne _ _ hwl]
            exact ⟨ci, fs, hw, hci.2⟩
          · rw [if_neg hin]
            obtain ⟨e5, ci', fs', e6, e7⟩ := kel i (by omega)
            by_cases hq : f i = l
            · rw [hq]
              exact ⟨_, _, hup_eq _ _ _, by decide⟩
            · have hq2 : f i ≠ arr := fun q => by rw [q, k1] at e6; cases e6
              rw [hup_ne _ _ hq, hup_ne _ _ hq2]
              exact ⟨ci', fs', e6, e7⟩
      · intro q hq q1 q2
        have q3 : q ≠ arr := fun e => by
          have := q2 e
          rw [this, hE0] at h1
          cases h1
        rw [hup_ne _ _ q1, hup_ne _ _ q3, hup_ne _ _ q1]
      · intro q hq
        rw [hup_ne _ _ (by omega), hup_ne _ _ (by omega), hup_ne _ _ (by omega), hz q (by omega)]
end LISTS
