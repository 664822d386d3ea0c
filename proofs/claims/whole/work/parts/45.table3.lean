section RALL
variable {E : EX} {mcs : Nat → Nat × Nat} {call : CT} {d : Nat} {r : MI} {Q : QT} {pc n q y ci a : Nat} {L : LV} {S rest as : List Value} {h h' h1 : AH} {sz sz' s1 nc nc' ns ns' : Nat} {b : Bool} {v : Option Value} {fs : List Value}
theorem R_all (e0 : h' = h) (e1 : sz' = sz) (e2 : nc' = nc) (e3 : ns' = ns) (k : Rr E mcs call d r Q pc L S h sz nc ns) : Rr E mcs call d r Q pc L S h' sz' nc' ns' := by rw [e0, e1, e2, e3]; exact k
/- doOn, by the kind of the entry -/
theorem R_cD {x : Nat} (hl : lkp pc (mI r) = some (b, .invokevirtual q, n, x, y)) (hx : x = 500) (ht : tk (y % 16) [] S = some (as, .ref a :: rest)) (ha : h a = some (.inr (ci, fs))) (hci : subc 50 ci = true) (hm : mcs (vdo ci) = (0, 0)) (hs : call (vdo ci) (.ref a :: as) h sz (rets v h1 s1)) (hc : catS rest ≤ 8) (b1 : nc ≤ mC r) (b2 : ns ≤ mS r) (k : Rr E mcs call d r Q n L (vpu v rest) h1 s1 nc ns) : Rr E mcs call d r Q pc L S h sz nc ns := by
  refine R_intro ?_
  unfold stp
  rw [hl]
  show (if x = 1003 then _ else _)
  rw [if_neg (by omega), ht]
  dsimp only
  rw [ha]
  dsimp only
  rw [if_pos hx]
  refine ⟨hci, cal_r hs hc (by rw [hm]; exact b1) (by rw [hm]; exact b2) ?_⟩
  rw [hm]
  exact k
end RALL
section TABLE3
variable {E : EX} {d : Nat} {h : AH} {sz t u : Nat} {ha : Nat → Nat} {T K : TT} {W : Nat → GS}
/- a table becomes another -/
def gBec (G K : GS) : GS := wiH (b_bec (g_bec G K) K) (K 7 11)
def tB (T K : TT) (k : Nat) : TT := fun i => if i < k then gBec (T i) (K i) else T i
theorem tB_s {k : Nat} : tG (tB T K k) k (gBec (T k) (K k)) = tB T K (k + 1) := by
  funext i
  unfold tG tB
  by_cases h1 : i = k
  · subst h1
    rw [if_pos rfl, if_pos (by omega)]
  · rw [if_neg h1]
    by_cases h2 : i < k
    · rw [if_pos h2, if_pos (by omega)]
    · rw [if_neg h2, if_neg (by omega)]
theorem tB_0 : tB T K 0 = T := by
  funext i
  unfold tB
  rw [if_neg (by omega)]
def t_bec (T K : TT) (gc : Nat) : TT := tS (tP (tB (tS (tS T 0 (K 6 1 0)) 1 (K 6 1 1)) K gc) (cp 4 (K 6 0) (T 6 0))) 2 (K 6 1 2)
set_option maxRecDepth 16384 in
theorem sp_55 {gc : Nat} (hT : isT h t ha T) (hK : isT h u ha K) (hd : t + 57 ≤ u ∨ u + 57 ≤ t) (hg : K 6 1 1 = gc) (hgc : gc ≤ 6) (hst : ∀ i, i < gc → K i 7 5 = 0 ∨ K i 7 5 = 1) (hru : ∀ i, i < gc → 0 ≤ K i 7 7 ∧ K i 7 7 ≤ 65535) : Sp E (d + 4) 55 [.ref t, .ref u] h sz (rets none (blk h t 57 (TB t ha (t_bec T K gc))) sz) := by
  have h0 := isT_0 hT
  have k0 := isT_0 hK
  have ne0 : (u = t) = False := eq_false (by omega)
  refine ⟨mi_55, mt_55, Nat.le_of_ble_eq_true rfl, ?_⟩
  change Rr _ _ _ _ mi_55 _ 0 [some (.ref t), some (.ref u), none] [] _ _ 0 0
  refine R_run 60 ?_
  simp only [run_s, run_0, isc, Bool.or_false, Bool.false_or, Bool.or_true, Bool.true_or, Bool.or_self, cond_false, cond_true, gl, sl, stl, stl2, c2, isw, nf, pf, lnb, tk, true_and, and_true, nsg0, nsg1, Int.cast_ofNat_Int, Int.natCast_zero, Int.natCast_one, zero_z, z_add, z_sub, z_mul, z_neg, cnd_eq, cnd_ne, cnd_lt, cnd_ge, cnd_gt, cnd_le, vok_0, vok_3r, vok_3n, vok_4, Nat.add_zero, Nat.zero_add, Nat.reduceAdd, Nat.reduceSub, Nat.reduceMod, Nat.reduceDiv, Nat.reduceEqDiff, Nat.reduceLeDiff, Nat.reduceMul, Int.reduceNeg, if_true, if_false, ite_true, ite_false, reduceIte, hup_app, Nat.add_left_cancel_iff, Nat.left_eq_add, Nat.add_eq_left, reduceCtorEq, subc_0, subc_1, subc_2, subc_3, subc_4, subc_5, subc_6, subc_7, subc_8, subc_9, subc_10, subc_11, subc_12, sube_2, sube_3, sube_5, sube_8, sube_9, sube_10, rets_ok, va_rfs, true_or, or_true, or_false, false_or, sI_aaload, sI_aload_n, sI_bipush, sI_getfield, sI_goto, sI_iconst, sI_if_icmp, sI_iinc, sI_iload_n, sI_invokestatic, sI_invokevirtual, sI_istore_n, sI_putfield, sI_return_, ix_55_0, ix_55_1, ix_55_2, ix_55_5, ix_55_8, ix_55_9, ix_55_10, ix_55_13, ix_55_16, ix_55_17, ix_55_18, ix_55_19, ix_55_20, ix_55_23, ix_55_26, ix_55_27, ix_55_29, ix_55_32, ix_55_33, ix_55_36, ix_55_37, ix_55_38, ix_55_39, ix_55_42, ix_55_43, ix_55_44, ix_55_47, ix_55_50, ix_55_53, ix_55_54, ix_55_57, ix_55_58, ix_55_59, ix_55_62, ix_55_63, ix_55_64, ix_55_67, ix_55_68, ix_55_69, ix_55_72, ix_55_75, mC_55, mS_55, mH_55, h0, k0, ne0]
  have a1 := isT_tS (i := 0) (v := K 6 1 0) hT
  have a2 := (isT_tS (i := 1) (v := K 6 1 1) (isT_blk (h := h) (t := t) (ha := ha) (T := tS T 0 (K 6 1 0)))).trans blk_blk
  rw [← a1, ← tB_0 (T := tS (tS T 0 (K 6 1 0)) 1 (K 6 1 1)) (K := K)] at a2
  refine R_heap a2 ?_
  clear a1 a2
  refine loop_up (P := fun k => Rr E (mcsT mtab) (Sp E (d + 3)) (d + 3) mi_55 (rets none (blk h t 57 (TB t ha (t_bec T K gc))) sz) 18 [some (.ref t), some (.ref u), some (.int (z (k : Int)))] [] (blk h t 57 (TB t ha (tB (tS (tS T 0 (K 6 1 0)) 1 (K 6 1 1)) K k))) sz 0 0) (n := gc) ?_ (fun k hk ih => ?_) 0 (Nat.zero_le _)
  · have hT1 := isT_blk (h := h) (t := t) (ha := ha) (T := tB (tS (tS T 0 (K 6 1 0)) 1 (K 6 1 1)) K gc)
    have h01 := isT_0 hT1
    have h02 := isT_p hT1
    have hK1 := isT_out (a := t) (n := 57) (F := TB t ha (tB (tS (tS T 0 (K 6 1 0)) 1 (K 6 1 1)) K gc)) hK (by omega)
    have k01 := isT_0 hK1
    have k02 := isT_p hK1
    rw [show tB (tS (tS T 0 (K 6 1 0)) 1 (K 6 1 1)) K gc 6 1 1 = gc from by unfold tB; rw [if_neg (by omega)]; exact hg, show tB (tS (tS T 0 (K 6 1 0)) 1 (K 6 1 1)) K gc 6 1 0 = K 6 1 0 from by unfold tB; rw [if_neg (by omega)]; rfl, show tB (tS (tS T 0 (K 6 1 0)) 1 (K 6 1 1)) K gc 6 1 2 = T 6 1 2 from by unfold tB; rw [if_neg (by omega)]; rfl] at h01
    rw [show tB (tS (tS T 0 (K 6 1 0)) 1 (K 6 1 1)) K gc 6 0 = T 6 0 from by unfold tB; rw [if_neg (by omega)]; rfl] at h02
    have e1 := (isT_tP (f := cp 4 (K 6 0) (T 6 0)) hT1).trans blk_blk
    have hT2 := isT_blk (h := h) (t := t) (ha := ha) (T := tP (tB (tS (tS T 0 (K 6 1 0)) 1 (K 6 1 1)) K gc) (cp 4 (K 6 0) (T 6 0)))
    have h03 := isT_0 hT2
    rw [tP_s, show tB (tS (tS T 0 (K 6 1 0)) 1 (K 6 1 1)) K gc 6 1 1 = gc from by unfold tB; rw [if_neg (by omega)]; exact hg, show tB (tS (tS T 0 (K 6 1 0)) 1 (K 6 1 1)) K gc 6 1 0 = K 6 1 0 from by unfold tB; rw [if_neg (by omega)]; rfl, show tB (tS (tS T 0 (K 6 1 0)) 1 (K 6 1 1)) K gc 6 1 2 = T 6 1 2 from by unfold tB; rw [if_neg (by omega)]; rfl] at h03
    have hK2 := isT_out (a := t) (n := 57) (F := TB t ha (tP (tB (tS (tS T 0 (K 6 1 0)) 1 (K 6 1 1)) K gc) (cp 4 (K 6 0) (T 6 0)))) hK (by omega)
    have k03 := isT_0 hK2
    have e2 := (isT_tS (i := 2) (v := K 6 1 2) hT2).trans blk_blk
    have c1 : st1 (tP (tB (tS (tS T 0 (K 6 1 0)) 1 (K 6 1 1)) K gc) (cp 4 (K 6 0) (T 6 0)) 6 1) 2 (K 6 1 2) 0 = K 6 1 0 := by
      show tB (tS (tS T 0 (K 6 1 0)) 1 (K 6 1 1)) K gc 6 1 0 = _
      unfold tB; rw [if_neg (by omega)]; rfl
    have c2 : st1 (tP (tB (tS (tS T 0 (K 6 1 0)) 1 (K 6 1 1)) K gc) (cp 4 (K 6 0) (T 6 0)) 6 1) 2 (K 6 1 2) 1 = gc := by
      show tB (tS (tS T 0 (K 6 1 0)) 1 (K 6 1 1)) K gc 6 1 1 = _
      unfold tB; rw [if_neg (by omega)]; exact hg
    have c3 : st1 (tP (tB (tS (tS T 0 (K 6 1 0)) 1 (K 6 1 1)) K gc) (cp 4 (K 6 0) (T 6 0)) 6 1) 2 (K 6 1 2) 2 = K 6 1 2 := rfl
    rw [c1, c2, c3] at e2
    refine R_hd ix_55_18 60 ?_
    simp only [run_s, run_0, isc, Bool.or_false, Bool.false_or, Bool.or_true, Bool.true_or, Bool.or_self, cond_false, cond_true, gl, sl, stl, stl2, c2, isw, nf, pf, lnb, tk, true_and, and_true, nsg0, nsg1, Int.cast_ofNat_Int, Int.natCast_zero, Int.natCast_one, zero_z, z_add, z_sub, z_mul, z_neg, cnd_eq, cnd_ne, cnd_lt, cnd_ge, cnd_gt, cnd_le, vok_0, vok_3r, vok_3n, vok_4, Nat.add_zero, Nat.zero_add, Nat.reduceAdd, Nat.reduceSub, Nat.reduceMod, Nat.reduceDiv, Nat.reduceEqDiff, Nat.reduceLeDiff, Nat.reduceMul, Int.reduceNeg, if_true, if_false, ite_true, ite_false, reduceIte, hup_app, Nat.add_left_cancel_iff, Nat.left_eq_add, Nat.add_eq_left, reduceCtorEq, subc_0, subc_1, subc_2, subc_3, subc_4, subc_5, subc_6, subc_7, subc_8, subc_9, subc_10, subc_11, subc_12, sube_2, sube_3, sube_5, sube_8, sube_9, sube_10, rets_ok, va_rfs, true_or, or_true, or_false, false_or, sI_aaload, sI_aload_n, sI_bipush, sI_getfield, sI_goto, sI_iconst, sI_if_icmp, sI_iinc, sI_iload_n, sI_invokestatic, sI_invokevirtual, sI_istore_n, sI_putfield, sI_return_, ix_55_0, ix_55_1, ix_55_2, ix_55_5, ix_55_8, ix_55_9, ix_55_10, ix_55_13, ix_55_16, ix_55_17, ix_55_18, ix_55_19, ix_55_20, ix_55_23, ix_55_26, ix_55_27, ix_55_29, ix_55_32, ix_55_33, ix_55_36, ix_55_37, ix_55_38, ix_55_39, ix_55_42, ix_55_43, ix_55_44, ix_55_47, ix_55_50, ix_55_53, ix_55_54, ix_55_57, ix_55_58, ix_55_59, ix_55_62, ix_55_63, ix_55_64, ix_55_67, ix_55_68, ix_55_69, ix_55_72, ix_55_75, mC_55, mS_55, mH_55, h01, k01]
    simp (disch := omega) only [z_lt, z_le, z_eq, z_in, z_nat, Int.toNat_natCast, upd_z, z_l, zl_0, zl_add, zl_sub, zl_mul, zl_i, zl_eq, zl_div, Int.reduceLT, Int.reduceLE, Int.reduceToNat, Nat.reduceAdd, Nat.reduceLeDiff, not_false_eq_true, true_and, and_true]
    refine ⟨fun _ => ?_, fun q => absurd (Int.le_refl _) q⟩
    refine R_cpI (m0 := 4) (m1 := 4) (f := fun k => z (K 6 0 k)) (g := fun k => z (T 6 0 k)) ix_55_64 k02 h02 (by omega) (Nat.le_of_ble_eq_true rfl) (by omega) ?_
    simp only [Int.toNat_zero, Int.reduceToNat, cpy_z]
    refine R_heap e1 ?_
    refine R_run 60 ?_
    simp only [run_s, run_0, isc, Bool.or_false, Bool.false_or, Bool.or_true, Bool.true_or, Bool.or_self, cond_false, cond_true, gl, sl, stl, stl2, c2, isw, nf, pf, lnb, tk, true_and, and_true, nsg0, nsg1, Int.cast_ofNat_Int, Int.natCast_zero, Int.natCast_one, zero_z, z_add, z_sub, z_mul, z_neg, cnd_eq, cnd_ne, cnd_lt, cnd_ge, cnd_gt, cnd_le, vok_0, vok_3r, vok_3n, vok_4, Nat.add_zero, Nat.zero_add, Nat.reduceAdd, Nat.reduceSub, Nat.reduceMod, Nat.reduceDiv, Nat.reduceEqDiff, Nat.reduceLeDiff, Nat.reduceMul, Int.reduceNeg, if_true, if_false, ite_true, ite_false, reduceIte, hup_app, Nat.add_left_cancel_iff, Nat.left_eq_add, Nat.add_eq_left, reduceCtorEq, subc_0, subc_1, subc_2, subc_3, subc_4, subc_5, subc_6, subc_7, subc_8, subc_9, subc_10, subc_11, subc_12, sube_2, sube_3, sube_5, sube_8, sube_9, sube_10, rets_ok, va_rfs, true_or, or_true, or_false, false_or, sI_aaload, sI_aload_n, sI_bipush, sI_getfield, sI_goto, sI_iconst, sI_if_icmp, sI_iinc, sI_iload_n, sI_invokestatic, sI_invokevirtual, sI_istore_n, sI_putfield, sI_return_, ix_55_0, ix_55_1, ix_55_2, ix_55_5, ix_55_8, ix_55_9, ix_55_10, ix_55_13, ix_55_16, ix_55_17, ix_55_18, ix_55_19, ix_55_20, ix_55_23, ix_55_26, ix_55_27, ix_55_29, ix_55_32, ix_55_33, ix_55_36, ix_55_37, ix_55_38, ix_55_39, ix_55_42, ix_55_43, ix_55_44, ix_55_47, ix_55_50, ix_55_53, ix_55_54, ix_55_57, ix_55_58, ix_55_59, ix_55_62, ix_55_63, ix_55_64, ix_55_67, ix_55_68, ix_55_69, ix_55_72, ix_55_75, mC_55, mS_55, mH_55, h03, k03]
    repeat' (first | (with_reducible refine ⟨?_, ?_⟩) | (with_reducible intro _))
    all_goals try (first | exact True.intro | with_reducible rfl | exact absurd True.intro (by assumption) | omega | (exfalso; omega) | (rw [if_pos (by omega)]; done) | (rw [if_neg (by omega)]; done) | exact e2)
  · have hT1 := isT_blk (h := h) (t := t) (ha := ha) (T := tB (tS (tS T 0 (K 6 1 0)) 1 (K 6 1 1)) K k)
    have h01 := isT_0 hT1
    have h02 := isT_1 hT1
    have hg1 := isT_g hT1 (i := k) (by omega)
    rw [show tB (tS (tS T 0 (K 6 1 0)) 1 (K 6 1 1)) K k 6 1 1 = gc from by unfold tB; rw [if_neg (by omega)]; exact hg] at h01
    have ek : tB (tS (tS T 0 (K 6 1 0)) 1 (K 6 1 1)) K k k = T k := by
      unfold tB; rw [if_neg (by omega), tS_g (by omega), tS_g (by omega)]
    rw [ek] at hg1
    have hK1 := isT_out (a := t) (n := 57) (F := TB t ha (tB (tS (tS T 0 (K 6 1 0)) 1 (K 6 1 1)) K k)) hK (by omega)
    have k01 := isT_0 hK1
    have k02 := isT_1 hK1
    have kg1 := isT_g hK1 (i := k) (by omega)
    have s20 := sp_20 (E := E) (d := d) (sz := sz) hg1 kg1 (by omega) (hst k hk) (hru k hk)
    rw [← GB_wiH _ _ _ (K k 7 11), isT_tG (hs := ha (K k 7 11).toNat) (G := wiH (b_bec (g_bec (T k) (K k)) (K k)) (K k 7 11)) hT1 (by omega) rfl, blk_blk, show wiH (b_bec (g_bec (T k) (K k)) (K k)) (K k 7 11) = gBec ((tS (tS T 0 (K 6 1 0)) 1 (K 6 1 1)) k) (K k) from by rw [tS_g (by omega), tS_g (by omega)]; rfl, tB_s] at s20
    rw [show ((k + 1 : Nat) : Int) = (k : Int) + 1 by omega] at ih
    refine R_hd ix_55_18 60 ?_
    simp only [run_s, run_0, isc, Bool.or_false, Bool.false_or, Bool.or_true, Bool.true_or, Bool.or_self, cond_false, cond_true, gl, sl, stl, stl2, c2, isw, nf, pf, lnb, tk, true_and, and_true, nsg0, nsg1, Int.cast_ofNat_Int, Int.natCast_zero, Int.natCast_one, zero_z, z_add, z_sub, z_mul, z_neg, cnd_eq, cnd_ne, cnd_lt, cnd_ge, cnd_gt, cnd_le, vok_0, vok_3r, vok_3n, vok_4, Nat.add_zero, Nat.zero_add, Nat.reduceAdd, Nat.reduceSub, Nat.reduceMod, Nat.reduceDiv, Nat.reduceEqDiff, Nat.reduceLeDiff, Nat.reduceMul, Int.reduceNeg, if_true, if_false, ite_true, ite_false, reduceIte, hup_app, Nat.add_left_cancel_iff, Nat.left_eq_add, Nat.add_eq_left, reduceCtorEq, subc_0, subc_1, subc_2, subc_3, subc_4, subc_5, subc_6, subc_7, subc_8, subc_9, subc_10, subc_11, subc_12, sube_2, sube_3, sube_5, sube_8, sube_9, sube_10, rets_ok, va_rfs, true_or, or_true, or_false, false_or, sI_aaload, sI_aload_n, sI_bipush, sI_getfield, sI_goto, sI_iconst, sI_if_icmp, sI_iinc, sI_iload_n, sI_invokestatic, sI_invokevirtual, sI_istore_n, sI_putfield, sI_return_, ix_55_0, ix_55_1, ix_55_2, ix_55_5, ix_55_8, ix_55_9, ix_55_10, ix_55_13, ix_55_16, ix_55_17, ix_55_18, ix_55_19, ix_55_20, ix_55_23, ix_55_26, ix_55_27, ix_55_29, ix_55_32, ix_55_33, ix_55_36, ix_55_37, ix_55_38, ix_55_39, ix_55_42, ix_55_43, ix_55_44, ix_55_47, ix_55_50, ix_55_53, ix_55_54, ix_55_57, ix_55_58, ix_55_59, ix_55_62, ix_55_63, ix_55_64, ix_55_67, ix_55_68, ix_55_69, ix_55_72, ix_55_75, mC_55, mS_55, mH_55, h01, h02, k01, k02]
    simp (disch := omega) only [z_lt, z_le, z_eq, z_in, z_nat, Int.toNat_natCast, upd_z, z_l, zl_0, zl_add, zl_sub, zl_mul, zl_i, zl_eq, zl_div, Int.reduceLT, Int.reduceLE, Int.reduceToNat, Nat.reduceAdd, Nat.reduceLeDiff, not_false_eq_true, true_and, and_true, if_pos, va_rfs]
    refine ⟨fun q => absurd q (by omega), fun _ => ⟨fun q => absurd q (by omega), fun _ => ⟨by omega, by omega, ?_⟩⟩⟩
    refine R_cV ix_55_44 (by decide) (by decide) rfl hg1.1 rfl (s20) (Nat.le_of_ble_eq_true rfl) (by rw [mcs_20, mC_55]; omega) (by rw [mcs_20, mS_55]; omega) ?_
    simp only [mcs_20, vpu, Nat.add_zero, Nat.zero_add, Nat.reduceAdd]
    refine R_run 60 ?_
    simp only [run_s, run_0, isc, Bool.or_false, Bool.false_or, Bool.or_true, Bool.true_or, Bool.or_self, cond_false, cond_true, gl, sl, stl, stl2, c2, isw, nf, pf, lnb, tk, true_and, and_true, nsg0, nsg1, Int.cast_ofNat_Int, Int.natCast_zero, Int.natCast_one, zero_z, z_add, z_sub, z_mul, z_neg, cnd_eq, cnd_ne, cnd_lt, cnd_ge, cnd_gt, cnd_le, vok_0, vok_3r, vok_3n, vok_4, Nat.add_zero, Nat.zero_add, Nat.reduceAdd, Nat.reduceSub, Nat.reduceMod, Nat.reduceDiv, Nat.reduceEqDiff, Nat.reduceLeDiff, Nat.reduceMul, Int.reduceNeg, if_true, if_false, ite_true, ite_false, reduceIte, hup_app, Nat.add_left_cancel_iff, Nat.left_eq_add, Nat.add_eq_left, reduceCtorEq, subc_0, subc_1, subc_2, subc_3, subc_4, subc_5, subc_6, subc_7, subc_8, subc_9, subc_10, subc_11, subc_12, sube_2, sube_3, sube_5, sube_8, sube_9, sube_10, rets_ok, va_rfs, true_or, or_true, or_false, false_or, sI_aaload, sI_aload_n, sI_bipush, sI_getfield, sI_goto, sI_iconst, sI_if_icmp, sI_iinc, sI_iload_n, sI_invokestatic, sI_invokevirtual, sI_istore_n, sI_putfield, sI_return_, ix_55_0, ix_55_1, ix_55_2, ix_55_5, ix_55_8, ix_55_9, ix_55_10, ix_55_13, ix_55_16, ix_55_17, ix_55_18, ix_55_19, ix_55_20, ix_55_23, ix_55_26, ix_55_27, ix_55_29, ix_55_32, ix_55_33, ix_55_36, ix_55_37, ix_55_38, ix_55_39, ix_55_42, ix_55_43, ix_55_44, ix_55_47, ix_55_50, ix_55_53, ix_55_54, ix_55_57, ix_55_58, ix_55_59, ix_55_62, ix_55_63, ix_55_64, ix_55_67, ix_55_68, ix_55_69, ix_55_72, ix_55_75, mC_55, mS_55, mH_55]
    exact ih
/- a table like another -/
set_option maxRecDepth 16384 in
theorem sp_56 {gc : Nat} (hT : isT h t ha T) (hK : isT h u ha K) (hg : T 6 1 1 = gc) (hgc : gc ≤ 6) (hs : ∀ i, i < gc → Sp E (d + 2) 21 [.ref (t + 2 + 9 * i), .ref (u + 2 + 9 * i)] h sz (rets (some (.int (z 1))) h sz)) (e0 : K 6 1 0 = T 6 1 0) (e1 : K 6 1 1 = T 6 1 1) (e2 : K 6 1 2 = T 6 1 2) (ep : ∀ k, k < 4 → K 6 0 k = T 6 0 k) : Sp E (d + 3) 56 [.ref t, .ref u] h sz (rets (some (.int (z 1))) h sz) := by
  have h0 := isT_0 hT
  have h1 := isT_1 hT
  have h2 := isT_p hT
  have k0 := isT_0 hK
  have k1 := isT_1 hK
  have k2 := isT_p hK
  refine ⟨mi_56, mt_56, Nat.le_of_ble_eq_true rfl, ?_⟩
  change Rr _ _ _ _ mi_56 _ 0 [some (.ref t), some (.ref u), none, none] [] _ _ 0 0
  refine R_run 60 ?_
  simp only [run_s, run_0, isc, Bool.or_false, Bool.false_or, Bool.or_true, Bool.true_or, Bool.or_self, cond_false, cond_true, gl, sl, stl, stl2, c2, isw, nf, pf, lnb, tk, true_and, and_true, nsg0, nsg1, Int.cast_ofNat_Int, Int.natCast_zero, Int.natCast_one, zero_z, z_add, z_sub, z_mul, z_neg, cnd_eq, cnd_ne, cnd_lt, cnd_ge, cnd_gt, cnd_le, vok_0, vok_3r, vok_3n, vok_4, Nat.add_zero, Nat.zero_add, Nat.reduceAdd, Nat.reduceSub, Nat.reduceMod, Nat.reduceDiv, Nat.reduceEqDiff, Nat.reduceLeDiff, Nat.reduceMul, Int.reduceNeg, if_true, if_false, ite_true, ite_false, reduceIte, hup_app, Nat.add_left_cancel_iff, Nat.left_eq_add, Nat.add_eq_left, reduceCtorEq, subc_0, subc_1, subc_2, subc_3, subc_4, subc_5, subc_6, subc_7, subc_8, subc_9, subc_10, subc_11, subc_12, sube_2, sube_3, sube_5, sube_8, sube_9, sube_10, rets_ok, va_rfs, true_or, or_true, or_false, false_or, sI_aaload, sI_aload_n, sI_bipush, sI_getfield, sI_goto, sI_iaload, sI_iconst, sI_ifCond, sI_if_icmp, sI_iinc, sI_iload_n, sI_invokevirtual, sI_ireturn, sI_istore_n, ix_56_0, ix_56_1, ix_56_4, ix_56_5, ix_56_8, ix_56_11, ix_56_12, ix_56_15, ix_56_16, ix_56_19, ix_56_22, ix_56_23, ix_56_26, ix_56_27, ix_56_30, ix_56_33, ix_56_34, ix_56_37, ix_56_38, ix_56_39, ix_56_40, ix_56_41, ix_56_42, ix_56_45, ix_56_46, ix_56_47, ix_56_50, ix_56_53, ix_56_54, ix_56_56, ix_56_59, ix_56_60, ix_56_63, ix_56_64, ix_56_65, ix_56_66, ix_56_69, ix_56_70, ix_56_71, ix_56_74, ix_56_75, ix_56_78, ix_56_81, ix_56_82, ix_56_83, ix_56_84, ix_56_87, ix_56_88, ix_56_89, ix_56_92, ix_56_93, ix_56_96, ix_56_97, ix_56_98, ix_56_99, ix_56_102, ix_56_103, ix_56_104, ix_56_107, ix_56_108, ix_56_111, ix_56_112, ix_56_113, ix_56_116, ix_56_119, ix_56_120, mC_56, mS_56, mH_56, h0, k0, e0, e1, e2, not_true_eq_false, not_false_eq_true, false_implies, true_implies, forall_const, implies_true, true_and, and_true]
  refine loop_up (P := fun k => Rr E (mcsT mtab) (Sp E (d + 2)) (d + 2) mi_56 (rets (some (.int (z 1))) h sz) 41 [some (.ref t), some (.ref u), some (.int (z 1)), some (.int (z (k : Int)))] [] h sz 0 0) (n := gc) ?_ (fun k hk ih => ?_) 0 (Nat.zero_le _)
  · refine R_hd ix_56_41 60 ?_
    simp only [run_s, run_0, isc, Bool.or_false, Bool.false_or, Bool.or_true, Bool.true_or, Bool.or_self, cond_false, cond_true, gl, sl, stl, stl2, c2, isw, nf, pf, lnb, tk, true_and, and_true, nsg0, nsg1, Int.cast_ofNat_Int, Int.natCast_zero, Int.natCast_one, zero_z, z_add, z_sub, z_mul, z_neg, cnd_eq, cnd_ne, cnd_lt, cnd_ge, cnd_gt, cnd_le, vok_0, vok_3r, vok_3n, vok_4, Nat.add_zero, Nat.zero_add, Nat.reduceAdd, Nat.reduceSub, Nat.reduceMod, Nat.reduceDiv, Nat.reduceEqDiff, Nat.reduceLeDiff, Nat.reduceMul, Int.reduceNeg, if_true, if_false, ite_true, ite_false, reduceIte, hup_app, Nat.add_left_cancel_iff, Nat.left_eq_add, Nat.add_eq_left, reduceCtorEq, subc_0, subc_1, subc_2, subc_3, subc_4, subc_5, subc_6, subc_7, subc_8, subc_9, subc_10, subc_11, subc_12, sube_2, sube_3, sube_5, sube_8, sube_9, sube_10, rets_ok, va_rfs, true_or, or_true, or_false, false_or, sI_aaload, sI_aload_n, sI_bipush, sI_getfield, sI_goto, sI_iaload, sI_iconst, sI_ifCond, sI_if_icmp, sI_iinc, sI_iload_n, sI_invokevirtual, sI_ireturn, sI_istore_n, ix_56_0, ix_56_1, ix_56_4, ix_56_5, ix_56_8, ix_56_11, ix_56_12, ix_56_15, ix_56_16, ix_56_19, ix_56_22, ix_56_23, ix_56_26, ix_56_27, ix_56_30, ix_56_33, ix_56_34, ix_56_37, ix_56_38, ix_56_39, ix_56_40, ix_56_41, ix_56_42, ix_56_45, ix_56_46, ix_56_47, ix_56_50, ix_56_53, ix_56_54, ix_56_56, ix_56_59, ix_56_60, ix_56_63, ix_56_64, ix_56_65, ix_56_66, ix_56_69, ix_56_70, ix_56_71, ix_56_74, ix_56_75, ix_56_78, ix_56_81, ix_56_82, ix_56_83, ix_56_84, ix_56_87, ix_56_88, ix_56_89, ix_56_92, ix_56_93, ix_56_96, ix_56_97, ix_56_98, ix_56_99, ix_56_102, ix_56_103, ix_56_104, ix_56_107, ix_56_108, ix_56_111, ix_56_112, ix_56_113, ix_56_116, ix_56_119, ix_56_120, mC_56, mS_56, mH_56, h0, hg]
    simp (disch := omega) only [z_lt, z_le, z_eq, z_in, z_nat, Int.toNat_natCast, upd_z, z_l, zl_0, zl_add, zl_sub, zl_mul, zl_i, zl_eq, zl_div, Int.reduceLT, Int.reduceLE, Int.reduceToNat, Nat.reduceAdd, Nat.reduceLeDiff, not_false_eq_true, true_and, and_true]
    refine ⟨fun q => absurd q (by decide), fun _ => ⟨fun _ => ?_, fun q => absurd (Int.le_refl _) q⟩⟩
    refine loop_up (P := fun k => Rr E (mcsT mtab) (Sp E (d + 2)) (d + 2) mi_56 (rets (some (.int (z 1))) h sz) 83 [some (.ref t), some (.ref u), some (.int (z 1)), some (.int (z (k : Int)))] [] h sz 0 0) (n := 4) ?_ (fun k hk ih => ?_) 0 (Nat.zero_le _)
    · refine R_hd ix_56_83 60 ?_
      simp only [run_s, run_0, isc, Bool.or_false, Bool.false_or, Bool.or_true, Bool.true_or, Bool.or_self, cond_false, cond_true, gl, sl, stl, stl2, c2, isw, nf, pf, lnb, tk, true_and, and_true, nsg0, nsg1, Int.cast_ofNat_Int, Int.natCast_zero, Int.natCast_one, zero_z, z_add, z_sub, z_mul, z_neg, cnd_eq, cnd_ne, cnd_lt, cnd_ge, cnd_gt, cnd_le, vok_0, vok_3r, vok_3n, vok_4, Nat.add_zero, Nat.zero_add, Nat.reduceAdd, Nat.reduceSub, Nat.reduceMod, Nat.reduceDiv, Nat.reduceEqDiff, Nat.reduceLeDiff, Nat.reduceMul, Int.reduceNeg, if_true, if_false, ite_true, ite_false, reduceIte, hup_app, Nat.add_left_cancel_iff, Nat.left_eq_add, Nat.add_eq_left, reduceCtorEq, subc_0, subc_1, subc_2, subc_3, subc_4, subc_5, subc_6, subc_7, subc_8, subc_9, subc_10, subc_11, subc_12, sube_2, sube_3, sube_5, sube_8, sube_9, sube_10, rets_ok, va_rfs, true_or, or_true, or_false, false_or, sI_aaload, sI_aload_n, sI_bipush, sI_getfield, sI_goto, sI_iaload, sI_iconst, sI_ifCond, sI_if_icmp, sI_iinc, sI_iload_n, sI_invokevirtual, sI_ireturn, sI_istore_n, ix_56_0, ix_56_1, ix_56_4, ix_56_5, ix_56_8, ix_56_11, ix_56_12, ix_56_15, ix_56_16, ix_56_19, ix_56_22, ix_56_23, ix_56_26, ix_56_27, ix_56_30, ix_56_33, ix_56_34, ix_56_37, ix_56_38, ix_56_39, ix_56_40, ix_56_41, ix_56_42, ix_56_45, ix_56_46, ix_56_47, ix_56_50, ix_56_53, ix_56_54, ix_56_56, ix_56_59, ix_56_60, ix_56_63, ix_56_64, ix_56_65, ix_56_66, ix_56_69, ix_56_70, ix_56_71, ix_56_74, ix_56_75, ix_56_78, ix_56_81, ix_56_82, ix_56_83, ix_56_84, ix_56_87, ix_56_88, ix_56_89, ix_56_92, ix_56_93, ix_56_96, ix_56_97, ix_56_98, ix_56_99, ix_56_102, ix_56_103, ix_56_104, ix_56_107, ix_56_108, ix_56_111, ix_56_112, ix_56_113, ix_56_116, ix_56_119, ix_56_120, mC_56, mS_56, mH_56, vok_z1 (Or.inr rfl)]
      simp (disch := omega) only [z_lt, z_le, z_eq, z_in, z_nat, Int.toNat_natCast, upd_z, z_l, zl_0, zl_add, zl_sub, zl_mul, zl_i, zl_eq, zl_div, Int.reduceLT, Int.reduceLE, Int.reduceToNat, Nat.reduceAdd, Nat.reduceLeDiff, not_false_eq_true, true_and, and_true]
      repeat' (first | (with_reducible refine ⟨?_, ?_⟩) | (with_reducible intro _))
      all_goals try (first | exact True.intro | with_reducible rfl | exact absurd True.intro (by assumption) | omega | (exfalso; omega) | (rw [if_pos (by omega)]; done) | (rw [if_neg (by omega)]; done))
    · have e3 := ep k hk
      rw [show ((k + 1 : Nat) : Int) = (k : Int) + 1 by omega] at ih
      refine R_hd ix_56_83 60 ?_
      simp only [run_s, run_0, isc, Bool.or_false, Bool.false_or, Bool.or_true, Bool.true_or, Bool.or_self, cond_false, cond_true, gl, sl, stl, stl2, c2, isw, nf, pf, lnb, tk, true_and, and_true, nsg0, nsg1, Int.cast_ofNat_Int, Int.natCast_zero, Int.natCast_one, zero_z, z_add, z_sub, z_mul, z_neg, cnd_eq, cnd_ne, cnd_lt, cnd_ge, cnd_gt, cnd_le, vok_0, vok_3r, vok_3n, vok_4, Nat.add_zero, Nat.zero_add, Nat.reduceAdd, Nat.reduceSub, Nat.reduceMod, Nat.reduceDiv, Nat.reduceEqDiff, Nat.reduceLeDiff, Nat.reduceMul, Int.reduceNeg, if_true, if_false, ite_true, ite_false, reduceIte, hup_app, Nat.add_left_cancel_iff, Nat.left_eq_add, Nat.add_eq_left, reduceCtorEq, subc_0, subc_1, subc_2, subc_3, subc_4, subc_5, subc_6, subc_7, subc_8, subc_9, subc_10, subc_11, subc_12, sube_2, sube_3, sube_5, sube_8, sube_9, sube_10, rets_ok, va_rfs, true_or, or_true, or_false, false_or, sI_aaload, sI_aload_n, sI_bipush, sI_getfield, sI_goto, sI_iaload, sI_iconst, sI_ifCond, sI_if_icmp, sI_iinc, sI_iload_n, sI_invokevirtual, sI_ireturn, sI_istore_n, ix_56_0, ix_56_1, ix_56_4, ix_56_5, ix_56_8, ix_56_11, ix_56_12, ix_56_15, ix_56_16, ix_56_19, ix_56_22, ix_56_23, ix_56_26, ix_56_27, ix_56_30, ix_56_33, ix_56_34, ix_56_37, ix_56_38, ix_56_39, ix_56_40, ix_56_41, ix_56_42, ix_56_45, ix_56_46, ix_56_47, ix_56_50, ix_56_53, ix_56_54, ix_56_56, ix_56_59, ix_56_60, ix_56_63, ix_56_64, ix_56_65, ix_56_66, ix_56_69, ix_56_70, ix_56_71, ix_56_74, ix_56_75, ix_56_78, ix_56_81, ix_56_82, ix_56_83, ix_56_84, ix_56_87, ix_56_88, ix_56_89, ix_56_92, ix_56_93, ix_56_96, ix_56_97, ix_56_98, ix_56_99, ix_56_102, ix_56_103, ix_56_104, ix_56_107, ix_56_108, ix_56_111, ix_56_112, ix_56_113, ix_56_116, ix_56_119, ix_56_120, mC_56, mS_56, mH_56, h0, h2, k0, k2]
      simp (disch := omega) only [z_lt, z_le, z_eq, z_in, z_nat, Int.toNat_natCast, upd_z, z_l, zl_0, zl_add, zl_sub, zl_mul, zl_i, zl_eq, zl_div, Int.reduceLT, Int.reduceLE, Int.reduceToNat, Nat.reduceAdd, Nat.reduceLeDiff, not_false_eq_true, true_and, and_true, e3, not_true_eq_false, false_implies, forall_const, implies_true]
      repeat' (first | (with_reducible refine ⟨?_, ?_⟩) | (with_reducible intro _))
      all_goals try (first | exact True.intro | with_reducible rfl | exact absurd True.intro (by assumption) | omega | (exfalso; omega) | (rw [if_pos (by omega)]; done) | (rw [if_neg (by omega)]; done) | exact ih)
  · rw [show ((k + 1 : Nat) : Int) = (k : Int) + 1 by omega] at ih
    refine R_hd ix_56_41 60 ?_
    simp only [run_s, run_0, isc, Bool.or_false, Bool.false_or, Bool.or_true, Bool.true_or, Bool.or_self, cond_false, cond_true, gl, sl, stl, stl2, c2, isw, nf, pf, lnb, tk, true_and, and_true, nsg0, nsg1, Int.cast_ofNat_Int, Int.natCast_zero, Int.natCast_one, zero_z, z_add, z_sub, z_mul, z_neg, cnd_eq, cnd_ne, cnd_lt, cnd_ge, cnd_gt, cnd_le, vok_0, vok_3r, vok_3n, vok_4, Nat.add_zero, Nat.zero_add, Nat.reduceAdd, Nat.reduceSub, Nat.reduceMod, Nat.reduceDiv, Nat.reduceEqDiff, Nat.reduceLeDiff, Nat.reduceMul, Int.reduceNeg, if_true, if_false, ite_true, ite_false, reduceIte, hup_app, Nat.add_left_cancel_iff, Nat.left_eq_add, Nat.add_eq_left, reduceCtorEq, subc_0, subc_1, subc_2, subc_3, subc_4, subc_5, subc_6, subc_7, subc_8, subc_9, subc_10, subc_11, subc_12, sube_2, sube_3, sube_5, sube_8, sube_9, sube_10, rets_ok, va_rfs, true_or, or_true, or_false, false_or, sI_aaload, sI_aload_n, sI_bipush, sI_getfield, sI_goto, sI_iaload, sI_iconst, sI_ifCond, sI_if_icmp, sI_iinc, sI_iload_n, sI_invokevirtual, sI_ireturn, sI_istore_n, ix_56_0, ix_56_1, ix_56_4, ix_56_5, ix_56_8, ix_56_11, ix_56_12, ix_56_15, ix_56_16, ix_56_19, ix_56_22, ix_56_23, ix_56_26, ix_56_27, ix_56_30, ix_56_33, ix_56_34, ix_56_37, ix_56_38, ix_56_39, ix_56_40, ix_56_41, ix_56_42, ix_56_45, ix_56_46, ix_56_47, ix_56_50, ix_56_53, ix_56_54, ix_56_56, ix_56_59, ix_56_60, ix_56_63, ix_56_64, ix_56_65, ix_56_66, ix_56_69, ix_56_70, ix_56_71, ix_56_74, ix_56_75, ix_56_78, ix_56_81, ix_56_82, ix_56_83, ix_56_84, ix_56_87, ix_56_88, ix_56_89, ix_56_92, ix_56_93, ix_56_96, ix_56_97, ix_56_98, ix_56_99, ix_56_102, ix_56_103, ix_56_104, ix_56_107, ix_56_108, ix_56_111, ix_56_112, ix_56_113, ix_56_116, ix_56_119, ix_56_120, mC_56, mS_56, mH_56, h0, h1, k0, k1, hg]
    simp (disch := omega) only [z_lt, z_le, z_eq, z_in, z_nat, Int.toNat_natCast, upd_z, z_l, zl_0, zl_add, zl_sub, zl_mul, zl_i, zl_eq, zl_div, Int.reduceLT, Int.reduceLE, Int.reduceToNat, Nat.reduceAdd, Nat.reduceLeDiff, not_false_eq_true, true_and, and_true, if_pos, va_rfs]
    refine ⟨fun q => absurd q (by decide), fun _ => ⟨fun q => absurd q (by omega), fun _ => ⟨fun q => absurd q (by omega), fun _ => ⟨by omega, by omega, ?_⟩⟩⟩⟩
    refine R_cV ix_56_71 (by decide) (by decide) rfl (isT_g hT (i := k) (by omega)).1 rfl (hs k hk) (Nat.le_of_ble_eq_true rfl) (by rw [mcs_21, mC_56]; omega) (by rw [mcs_21, mS_56]; omega) ?_
    simp only [mcs_21, vpu, Nat.add_zero, Nat.zero_add, Nat.reduceAdd]
    refine R_run 60 ?_
    simp only [run_s, run_0, isc, Bool.or_false, Bool.false_or, Bool.or_true, Bool.true_or, Bool.or_self, cond_false, cond_true, gl, sl, stl, stl2, c2, isw, nf, pf, lnb, tk, true_and, and_true, nsg0, nsg1, Int.cast_ofNat_Int, Int.natCast_zero, Int.natCast_one, zero_z, z_add, z_sub, z_mul, z_neg, cnd_eq, cnd_ne, cnd_lt, cnd_ge, cnd_gt, cnd_le, vok_0, vok_3r, vok_3n, vok_4, Nat.add_zero, Nat.zero_add, Nat.reduceAdd, Nat.reduceSub, Nat.reduceMod, Nat.reduceDiv, Nat.reduceEqDiff, Nat.reduceLeDiff, Nat.reduceMul, Int.reduceNeg, if_true, if_false, ite_true, ite_false, reduceIte, hup_app, Nat.add_left_cancel_iff, Nat.left_eq_add, Nat.add_eq_left, reduceCtorEq, subc_0, subc_1, subc_2, subc_3, subc_4, subc_5, subc_6, subc_7, subc_8, subc_9, subc_10, subc_11, subc_12, sube_2, sube_3, sube_5, sube_8, sube_9, sube_10, rets_ok, va_rfs, true_or, or_true, or_false, false_or, sI_aaload, sI_aload_n, sI_bipush, sI_getfield, sI_goto, sI_iaload, sI_iconst, sI_ifCond, sI_if_icmp, sI_iinc, sI_iload_n, sI_invokevirtual, sI_ireturn, sI_istore_n, ix_56_0, ix_56_1, ix_56_4, ix_56_5, ix_56_8, ix_56_11, ix_56_12, ix_56_15, ix_56_16, ix_56_19, ix_56_22, ix_56_23, ix_56_26, ix_56_27, ix_56_30, ix_56_33, ix_56_34, ix_56_37, ix_56_38, ix_56_39, ix_56_40, ix_56_41, ix_56_42, ix_56_45, ix_56_46, ix_56_47, ix_56_50, ix_56_53, ix_56_54, ix_56_56, ix_56_59, ix_56_60, ix_56_63, ix_56_64, ix_56_65, ix_56_66, ix_56_69, ix_56_70, ix_56_71, ix_56_74, ix_56_75, ix_56_78, ix_56_81, ix_56_82, ix_56_83, ix_56_84, ix_56_87, ix_56_88, ix_56_89, ix_56_92, ix_56_93, ix_56_96, ix_56_97, ix_56_98, ix_56_99, ix_56_102, ix_56_103, ix_56_104, ix_56_107, ix_56_108, ix_56_111, ix_56_112, ix_56_113, ix_56_116, ix_56_119, ix_56_120, mC_56, mS_56, mH_56]
    exact ih
/- a new table -/
def T0 : TT := fun i => if i = 6 then (fun r => if r = 0 then cp 4 (fun _ => 100) (fun _ => 0) else fun _ => 0) else wiH (fun _ _ => 0) 4
def PB (t hz : Nat) (k : Nat) : Nat → va_E := fun j =>
  if j = 0 then .inr (7, [.int (z 0), .int (z 0), .ref (t + 1), .null, .int (z 0)])
  else if j = 1 then .inl (2, 6, .inr (.inr (.inr (.inr fun i => if i < k then some (t + 2 + 9 * i) else none))))
  else GB (t + 2 + 9 * ((j - 2) / 9)) hz (fun _ _ => 0) ((j - 2) % 9)
theorem PB_up {hz k : Nat} {H : AH} (hH : H = hup (blk (hup (blk h t (2 + 9 * k) (PB t hz k)) (t + (2 + 9 * k)) (.inr (4, dfl 4))) (t + (2 + 9 * k)) 9 (GB (t + (2 + 9 * k)) hz (fun _ _ => 0))) (t + 1) (.inl (2, 6, refA (va_up (fun i => if i < k then some (t + 2 + 9 * i) else none) k (some (t + (2 + 9 * k))))))) : H = blk h t (2 + 9 * (k + 1)) (PB t hz (k + 1)) := by
  subst hH
  refine blk_eq (fun j hj => ?_) (fun q hq => ?_)
  · by_cases h1 : j = 1
    · subst h1
      rw [hup_eq]
      unfold PB
      rw [if_neg (by decide), if_pos rfl]
      congr 7
      funext i
      unfold va_up
      by_cases h2 : i = k
      · subst h2
        rw [if_pos rfl, if_pos (by omega)]
        congr 1
        omega
      · rw [if_neg h2]
        dsimp only
        by_cases h3 : i < k
        · rw [if_pos h3, if_pos (by omega)]
        · rw [if_neg h3, if_neg (by omega)]
    · rw [hup_ne _ _ (by omega)]
      by_cases h2 : j < 2 + 9 * k
      · rw [blk_out (by omega), hup_ne _ _ (by omega), blk_at h2]
        unfold PB
        by_cases h0 : j = 0
        · rw [if_pos h0, if_pos h0]
        · rw [if_neg h0, if_neg h0, if_neg h1, if_neg h1]
      · have ej : t + j = t + (2 + 9 * k) + (j - (2 + 9 * k)) := by omega
        rw [ej, blk_at (by omega)]
        unfold PB
        rw [if_neg (by omega), if_neg h1, show (j - 2) / 9 = k by omega, show (j - 2) % 9 = j - (2 + 9 * k) by omega, show t + 2 + 9 * k = t + (2 + 9 * k) by omega]
  · rw [hup_ne _ _ (by omega), blk_out (by omega), hup_ne _ _ (by omega), blk_out (by omega)]
set_option maxRecDepth 16384 in
theorem sp_53 {hz : Nat} (h0 : h t = some (.inr (7, dfl 7))) (hhz : ha 4 = hz) : Sp E (d + 4) 53 [.ref t, .ref hz] h (t + 1) (rets none (blk h t 57 (TB t ha T0)) (t + 57)) := by
  refine ⟨mi_53, mt_53, Nat.le_of_ble_eq_true rfl, ?_⟩
  change Rr _ _ _ _ mi_53 _ 0 [some (.ref t), some (.ref hz), none] [] _ _ 0 0
  refine R_run 60 ?_
  simp only [run_s, run_0, isc, Bool.or_false, Bool.false_or, Bool.or_true, Bool.true_or, Bool.or_self, cond_false, cond_true, gl, sl, stl, stl2, c2, isw, nf, pf, lnb, tk, true_and, and_true, nsg0, nsg1, Int.cast_ofNat_Int, Int.natCast_zero, Int.natCast_one, zero_z, z_add, z_sub, z_mul, z_neg, cnd_eq, cnd_ne, cnd_lt, cnd_ge, cnd_gt, cnd_le, vok_0, vok_3r, vok_3n, vok_4, Nat.add_zero, Nat.zero_add, Nat.reduceAdd, Nat.reduceSub, Nat.reduceMod, Nat.reduceDiv, Nat.reduceEqDiff, Nat.reduceLeDiff, Nat.reduceMul, Int.reduceNeg, if_true, if_false, ite_true, ite_false, reduceIte, hup_app, Nat.add_left_cancel_iff, Nat.left_eq_add, Nat.add_eq_left, reduceCtorEq, subc_0, subc_1, subc_2, subc_3, subc_4, subc_5, subc_6, subc_7, subc_8, subc_9, subc_10, subc_11, subc_12, sube_2, sube_3, sube_5, sube_8, sube_9, sube_10, rets_ok, va_rfs, true_or, or_true, or_false, false_or, sI_aastore, sI_aload_n, sI_anewarray, sI_bipush, sI_dup, sI_getfield, sI_goto, sI_iastore, sI_iconst, sI_if_icmp, sI_iinc, sI_iload_n, sI_invokespecial, sI_istore_n, sI_new, sI_newarray, sI_putfield, sI_return_, ix_53_0, ix_53_1, ix_53_4, ix_53_5, ix_53_7, ix_53_10, ix_53_13, ix_53_14, ix_53_15, ix_53_16, ix_53_18, ix_53_21, ix_53_22, ix_53_25, ix_53_26, ix_53_29, ix_53_30, ix_53_31, ix_53_34, ix_53_35, ix_53_38, ix_53_41, ix_53_42, ix_53_43, ix_53_45, ix_53_48, ix_53_49, ix_53_50, ix_53_51, ix_53_52, ix_53_55, ix_53_56, ix_53_59, ix_53_60, ix_53_62, ix_53_63, ix_53_66, ix_53_69, mC_53, mS_53, mH_53]
  refine R_obj ix_53_1 (Nat.le_of_ble_eq_true rfl) (by omega) ?_
  refine R_run 60 ?_
  simp only [run_s, run_0, isc, Bool.or_false, Bool.false_or, Bool.or_true, Bool.true_or, Bool.or_self, cond_false, cond_true, gl, sl, stl, stl2, c2, isw, nf, pf, lnb, tk, true_and, and_true, nsg0, nsg1, Int.cast_ofNat_Int, Int.natCast_zero, Int.natCast_one, zero_z, z_add, z_sub, z_mul, z_neg, cnd_eq, cnd_ne, cnd_lt, cnd_ge, cnd_gt, cnd_le, vok_0, vok_3r, vok_3n, vok_4, Nat.add_zero, Nat.zero_add, Nat.reduceAdd, Nat.reduceSub, Nat.reduceMod, Nat.reduceDiv, Nat.reduceEqDiff, Nat.reduceLeDiff, Nat.reduceMul, Int.reduceNeg, if_true, if_false, ite_true, ite_false, reduceIte, hup_app, Nat.add_left_cancel_iff, Nat.left_eq_add, Nat.add_eq_left, reduceCtorEq, subc_0, subc_1, subc_2, subc_3, subc_4, subc_5, subc_6, subc_7, subc_8, subc_9, subc_10, subc_11, subc_12, sube_2, sube_3, sube_5, sube_8, sube_9, sube_10, rets_ok, va_rfs, true_or, or_true, or_false, false_or, sI_aastore, sI_aload_n, sI_anewarray, sI_bipush, sI_dup, sI_getfield, sI_goto, sI_iastore, sI_iconst, sI_if_icmp, sI_iinc, sI_iload_n, sI_invokespecial, sI_istore_n, sI_new, sI_newarray, sI_putfield, sI_return_, ix_53_0, ix_53_1, ix_53_4, ix_53_5, ix_53_7, ix_53_10, ix_53_13, ix_53_14, ix_53_15, ix_53_16, ix_53_18, ix_53_21, ix_53_22, ix_53_25, ix_53_26, ix_53_29, ix_53_30, ix_53_31, ix_53_34, ix_53_35, ix_53_38, ix_53_41, ix_53_42, ix_53_43, ix_53_45, ix_53_48, ix_53_49, ix_53_50, ix_53_51, ix_53_52, ix_53_55, ix_53_56, ix_53_59, ix_53_60, ix_53_62, ix_53_63, ix_53_66, ix_53_69, mC_53, mS_53, mH_53, h0, dfl, dfa]
  simp (disch := omega) only [z_lt, z_le, z_eq, z_in, z_nat, Int.toNat_natCast, upd_z, z_l, zl_0, zl_add, zl_sub, zl_mul, zl_i, zl_eq, zl_div, Int.reduceLT, Int.reduceLE, Int.reduceToNat, Nat.reduceAdd, Nat.reduceLeDiff, not_false_eq_true, true_and, and_true]
  refine R_heap (h := blk h t (2 + 9 * 0) (PB t hz 0)) ?_ ?_
  · refine blk_eq (fun j hj => ?_) (fun q hq => ?_)
    · match j, hj with
      | 0, _ =>
        simp only [hup_app, Nat.add_left_cancel_iff, Nat.left_eq_add, Nat.add_eq_left, Nat.reduceEqDiff, reduceCtorEq, if_true, if_false, ite_true, ite_false, reduceIte, h0]
        rfl
      | 1, _ =>
        simp only [hup_app, Nat.add_left_cancel_iff, Nat.left_eq_add, Nat.add_eq_left, Nat.reduceEqDiff, reduceCtorEq, if_true, if_false, ite_true, ite_false, reduceIte, h0]
        rfl
    · rw [hup_ne _ _ (by omega), hup_ne _ _ (by omega)]
  refine loop_up (P := fun k => Rr E (mcsT mtab) (Sp E (d + 3)) (d + 3) mi_53 (rets none (blk h t 57 (TB t ha T0)) (t + 57)) 15 [some (.ref t), some (.ref hz), some (.int (z (k : Int)))] [] (blk h t (2 + 9 * k) (PB t hz k)) (t + (2 + 9 * k)) (1 + 9 * k) (6 + 121 * k)) (n := 6) ?_ (fun k hk ih => ?_) 0 (Nat.zero_le _)
  · have f0 : blk h t (2 + 9 * 6) (PB t hz 6) t = some (.inr (7, [.int (z 0), .int (z 0), .ref (t + 1), .null, .int (z 0)])) := blk_at (k := 0) (by decide)
    refine R_hd ix_53_15 60 ?_
    simp only [run_s, run_0, isc, Bool.or_false, Bool.false_or, Bool.or_true, Bool.true_or, Bool.or_self, cond_false, cond_true, gl, sl, stl, stl2, c2, isw, nf, pf, lnb, tk, true_and, and_true, nsg0, nsg1, Int.cast_ofNat_Int, Int.natCast_zero, Int.natCast_one, zero_z, z_add, z_sub, z_mul, z_neg, cnd_eq, cnd_ne, cnd_lt, cnd_ge, cnd_gt, cnd_le, vok_0, vok_3r, vok_3n, vok_4, Nat.add_zero, Nat.zero_add, Nat.reduceAdd, Nat.reduceSub, Nat.reduceMod, Nat.reduceDiv, Nat.reduceEqDiff, Nat.reduceLeDiff, Nat.reduceMul, Int.reduceNeg, if_true, if_false, ite_true, ite_false, reduceIte, hup_app, Nat.add_left_cancel_iff, Nat.left_eq_add, Nat.add_eq_left, reduceCtorEq, subc_0, subc_1, subc_2, subc_3, subc_4, subc_5, subc_6, subc_7, subc_8, subc_9, subc_10, subc_11, subc_12, sube_2, sube_3, sube_5, sube_8, sube_9, sube_10, rets_ok, va_rfs, true_or, or_true, or_false, false_or, sI_aastore, sI_aload_n, sI_anewarray, sI_bipush, sI_dup, sI_getfield, sI_goto, sI_iastore, sI_iconst, sI_if_icmp, sI_iinc, sI_iload_n, sI_invokespecial, sI_istore_n, sI_new, sI_newarray, sI_putfield, sI_return_, ix_53_0, ix_53_1, ix_53_4, ix_53_5, ix_53_7, ix_53_10, ix_53_13, ix_53_14, ix_53_15, ix_53_16, ix_53_18, ix_53_21, ix_53_22, ix_53_25, ix_53_26, ix_53_29, ix_53_30, ix_53_31, ix_53_34, ix_53_35, ix_53_38, ix_53_41, ix_53_42, ix_53_43, ix_53_45, ix_53_48, ix_53_49, ix_53_50, ix_53_51, ix_53_52, ix_53_55, ix_53_56, ix_53_59, ix_53_60, ix_53_62, ix_53_63, ix_53_66, ix_53_69, mC_53, mS_53, mH_53, f0, dfa]
    simp (disch := omega) only [z_lt, z_le, z_eq, z_in, z_nat, Int.toNat_natCast, upd_z, z_l, zl_0, zl_add, zl_sub, zl_mul, zl_i, zl_eq, zl_div, Int.reduceLT, Int.reduceLE, Int.reduceToNat, Nat.reduceAdd, Nat.reduceLeDiff, not_false_eq_true, true_and, and_true]
    refine ⟨fun _ => ?_, fun q => absurd trivial q⟩
    refine R_heap (h := blk h t 57 (TB t ha (tP T0 (cp 0 (fun _ => 100) (fun _ => 0))))) ?_ ?_
    · refine blk_eq (fun j hj => ?_) (fun q hq => ?_)
      · by_cases j0 : j = 0
        · subst j0
          exact hup_eq _ _ _
        · rw [hup_ne _ _ (by omega)]
          by_cases j1 : j = 56
          · subst j1
            exact hup_eq _ _ _
          · rw [hup_ne _ _ (by omega), blk_at (by omega)]
            unfold PB TB
            rw [if_neg j0, if_neg j0]
            by_cases j2 : j = 1
            · subst j2
              rfl
            · rw [if_neg j2, if_neg j2, if_neg j1, tP_g (by omega)]
              show _ = some (GB _ (ha (T0 ((j - 2) / 9) 7 11).toNat) (T0 ((j - 2) / 9)) _)
              rw [show T0 ((j - 2) / 9) = wiH (fun _ _ => 0) 4 from if_neg (by omega), GB_wiH, ← hhz]
              rfl
      · rw [hup_ne _ _ (by omega), hup_ne _ _ (by omega), blk_out (by omega)]
    clear f0
    refine loop_up (P := fun k => Rr E (mcsT mtab) (Sp E (d + 3)) (d + 3) mi_53 (rets none (blk h t 57 (TB t ha T0)) (t + 57)) 50 [some (.ref t), some (.ref hz), some (.int (z (k : Int)))] [] (blk h t 57 (TB t ha (tP T0 (cp k (fun _ => 100) (fun _ => 0))))) (t + 57) 56 736) (n := 4) ?_ (fun k hk ih => ?_) 0 (Nat.zero_le _)
    · refine R_hd ix_53_50 60 ?_
      simp only [run_s, run_0, isc, Bool.or_false, Bool.false_or, Bool.or_true, Bool.true_or, Bool.or_self, cond_false, cond_true, gl, sl, stl, stl2, c2, isw, nf, pf, lnb, tk, true_and, and_true, nsg0, nsg1, Int.cast_ofNat_Int, Int.natCast_zero, Int.natCast_one, zero_z, z_add, z_sub, z_mul, z_neg, cnd_eq, cnd_ne, cnd_lt, cnd_ge, cnd_gt, cnd_le, vok_0, vok_3r, vok_3n, vok_4, Nat.add_zero, Nat.zero_add, Nat.reduceAdd, Nat.reduceSub, Nat.reduceMod, Nat.reduceDiv, Nat.reduceEqDiff, Nat.reduceLeDiff, Nat.reduceMul, Int.reduceNeg, if_true, if_false, ite_true, ite_false, reduceIte, hup_app, Nat.add_left_cancel_iff, Nat.left_eq_add, Nat.add_eq_left, reduceCtorEq, subc_0, subc_1, subc_2, subc_3, subc_4, subc_5, subc_6, subc_7, subc_8, subc_9, subc_10, subc_11, subc_12, sube_2, sube_3, sube_5, sube_8, sube_9, sube_10, rets_ok, va_rfs, true_or, or_true, or_false, false_or, sI_aastore, sI_aload_n, sI_anewarray, sI_bipush, sI_dup, sI_getfield, sI_goto, sI_iastore, sI_iconst, sI_if_icmp, sI_iinc, sI_iload_n, sI_invokespecial, sI_istore_n, sI_new, sI_newarray, sI_putfield, sI_return_, ix_53_0, ix_53_1, ix_53_4, ix_53_5, ix_53_7, ix_53_10, ix_53_13, ix_53_14, ix_53_15, ix_53_16, ix_53_18, ix_53_21, ix_53_22, ix_53_25, ix_53_26, ix_53_29, ix_53_30, ix_53_31, ix_53_34, ix_53_35, ix_53_38, ix_53_41, ix_53_42, ix_53_43, ix_53_45, ix_53_48, ix_53_49, ix_53_50, ix_53_51, ix_53_52, ix_53_55, ix_53_56, ix_53_59, ix_53_60, ix_53_62, ix_53_63, ix_53_66, ix_53_69, mC_53, mS_53, mH_53]
      simp (disch := omega) only [z_lt, z_le, z_eq, z_in, z_nat, Int.toNat_natCast, upd_z, z_l, zl_0, zl_add, zl_sub, zl_mul, zl_i, zl_eq, zl_div, Int.reduceLT, Int.reduceLE, Int.reduceToNat, Nat.reduceAdd, Nat.reduceLeDiff, not_false_eq_true, true_and, and_true]
      repeat' (first | (with_reducible refine ⟨?_, ?_⟩) | (with_reducible intro _))
      all_goals try (first | exact True.intro | with_reducible rfl | exact absurd True.intro (by assumption) | omega | (exfalso; omega) | (rw [if_pos (by omega)]; done) | (rw [if_neg (by omega)]; done))
      refine blk_cong (fun j hj => ?_)
      unfold TB
      by_cases j0 : j = 0
      · subst j0
        rfl
      · rw [if_neg j0, if_neg j0]
        by_cases j1 : j = 1
        · subst j1
          rfl
        · rw [if_neg j1, if_neg j1]
          by_cases j2 : j = 56
          · subst j2
            rfl
          · rw [if_neg j2, if_neg j2, tP_g (by omega)]
    · have hT1 := isT_blk (h := h) (t := t) (ha := ha) (T := tP T0 (cp k (fun _ => 100) (fun _ => 0)))
      have h01 := isT_0 hT1
      have h02 := isT_p hT1
      rw [tP_p] at h02
      have e1 := (isT_tP (f := cp (k + 1) (fun _ => 100) (fun _ => 0)) hT1).trans blk_blk
      rw [tP_tP] at e1
      rw [show ((k + 1 : Nat) : Int) = (k : Int) + 1 by omega] at ih
      refine R_hd ix_53_50 60 ?_
      simp only [run_s, run_0, isc, Bool.or_false, Bool.false_or, Bool.or_true, Bool.true_or, Bool.or_self, cond_false, cond_true, gl, sl, stl, stl2, c2, isw, nf, pf, lnb, tk, true_and, and_true, nsg0, nsg1, Int.cast_ofNat_Int, Int.natCast_zero, Int.natCast_one, zero_z, z_add, z_sub, z_mul, z_neg, cnd_eq, cnd_ne, cnd_lt, cnd_ge, cnd_gt, cnd_le, vok_0, vok_3r, vok_3n, vok_4, Nat.add_zero, Nat.zero_add, Nat.reduceAdd, Nat.reduceSub, Nat.reduceMod, Nat.reduceDiv, Nat.reduceEqDiff, Nat.reduceLeDiff, Nat.reduceMul, Int.reduceNeg, if_true, if_false, ite_true, ite_false, reduceIte, hup_app, Nat.add_left_cancel_iff, Nat.left_eq_add, Nat.add_eq_left, reduceCtorEq, subc_0, subc_1, subc_2, subc_3, subc_4, subc_5, subc_6, subc_7, subc_8, subc_9, subc_10, subc_11, subc_12, sube_2, sube_3, sube_5, sube_8, sube_9, sube_10, rets_ok, va_rfs, true_or, or_true, or_false, false_or, sI_aastore, sI_aload_n, sI_anewarray, sI_bipush, sI_dup, sI_getfield, sI_goto, sI_iastore, sI_iconst, sI_if_icmp, sI_iinc, sI_iload_n, sI_invokespecial, sI_istore_n, sI_new, sI_newarray, sI_putfield, sI_return_, ix_53_0, ix_53_1, ix_53_4, ix_53_5, ix_53_7, ix_53_10, ix_53_13, ix_53_14, ix_53_15, ix_53_16, ix_53_18, ix_53_21, ix_53_22, ix_53_25, ix_53_26, ix_53_29, ix_53_30, ix_53_31, ix_53_34, ix_53_35, ix_53_38, ix_53_41, ix_53_42, ix_53_43, ix_53_45, ix_53_48, ix_53_49, ix_53_50, ix_53_51, ix_53_52, ix_53_55, ix_53_56, ix_53_59, ix_53_60, ix_53_62, ix_53_63, ix_53_66, ix_53_69, mC_53, mS_53, mH_53, h01, h02]
      simp (disch := omega) only [z_lt, z_le, z_eq, z_in, z_nat, Int.toNat_natCast, upd_z, z_l, zl_0, zl_add, zl_sub, zl_mul, zl_i, zl_eq, zl_div, Int.reduceLT, Int.reduceLE, Int.reduceToNat, Nat.reduceAdd, Nat.reduceLeDiff, not_false_eq_true, true_and, and_true]
      have e2 := cp_s (fun _ => 100) (fun _ => 0) k
      rw [e2]
      refine ⟨fun q => absurd q (by omega), fun _ => ⟨by omega, ?_⟩⟩
      exact R_heap e1 ih
  · have f0 : blk h t (2 + 9 * k) (PB t hz k) t = some (.inr (7, [.int (z 0), .int (z 0), .ref (t + 1), .null, .int (z 0)])) := blk_at (k := 0) (by omega)
    have f1 : blk h t (2 + 9 * k) (PB t hz k) (t + 1) = some (.inl (2, 6, .inr (.inr (.inr (.inr fun i => if i < k then some (t + 2 + 9 * i) else none))))) := blk_at (k := 1) (by omega)
    have s16 := sp_16 (E := E) (d := d) (h := hup (blk h t (2 + 9 * k) (PB t hz k)) (t + (2 + 9 * k)) (.inr (4, dfl 4))) (g := t + (2 + 9 * k)) (hz := hz) (hup_eq _ _ _)
    have f2 : blk (hup (blk h t (2 + 9 * k) (PB t hz k)) (t + (2 + 9 * k)) (.inr (4, dfl 4))) (t + (2 + 9 * k)) 9 (GB (t + (2 + 9 * k)) hz (fun _ _ => 0)) (t + 1) = some (.inl (2, 6, .inr (.inr (.inr (.inr fun i => if i < k then some (t + 2 + 9 * i) else none))))) := by
      rw [blk_out (by omega), hup_ne _ _ (by omega), f1]
    have f3 : blk (hup (blk h t (2 + 9 * k) (PB t hz k)) (t + (2 + 9 * k)) (.inr (4, dfl 4))) (t + (2 + 9 * k)) 9 (GB (t + (2 + 9 * k)) hz (fun _ _ => 0)) (t + (2 + 9 * k)) = some (GB (t + (2 + 9 * k)) hz (fun _ _ => 0) 0) := blk_at (k := 0) (by decide)
    have e1 := PB_up (h := h) (t := t) (hz := hz) (k := k) rfl
    rw [show ((k + 1 : Nat) : Int) = (k : Int) + 1 by omega] at ih
    have ex : z (k : Int) = z (k : Int) := rfl
    refine R_hd ix_53_15 60 ?_
    simp only [run_s, run_0, isc, Bool.or_false, Bool.false_or, Bool.or_true, Bool.true_or, Bool.or_self, cond_false, cond_true, gl, sl, stl, stl2, c2, isw, nf, pf, lnb, tk, true_and, and_true, nsg0, nsg1, Int.cast_ofNat_Int, Int.natCast_zero, Int.natCast_one, zero_z, z_add, z_sub, z_mul, z_neg, cnd_eq, cnd_ne, cnd_lt, cnd_ge, cnd_gt, cnd_le, vok_0, vok_3r, vok_3n, vok_4, Nat.add_zero, Nat.zero_add, Nat.reduceAdd, Nat.reduceSub, Nat.reduceMod, Nat.reduceDiv, Nat.reduceEqDiff, Nat.reduceLeDiff, Nat.reduceMul, Int.reduceNeg, if_true, if_false, ite_true, ite_false, reduceIte, hup_app, Nat.add_left_cancel_iff, Nat.left_eq_add, Nat.add_eq_left, reduceCtorEq, subc_0, subc_1, subc_2, subc_3, subc_4, subc_5, subc_6, subc_7, subc_8, subc_9, subc_10, subc_11, subc_12, sube_2, sube_3, sube_5, sube_8, sube_9, sube_10, rets_ok, va_rfs, true_or, or_true, or_false, false_or, sI_aastore, sI_aload_n, sI_anewarray, sI_bipush, sI_dup, sI_getfield, sI_goto, sI_iastore, sI_iconst, sI_if_icmp, sI_iinc, sI_iload_n, sI_invokespecial, sI_istore_n, sI_new, sI_newarray, sI_putfield, sI_return_, ix_53_0, ix_53_1, ix_53_4, ix_53_5, ix_53_7, ix_53_10, ix_53_13, ix_53_14, ix_53_15, ix_53_16, ix_53_18, ix_53_21, ix_53_22, ix_53_25, ix_53_26, ix_53_29, ix_53_30, ix_53_31, ix_53_34, ix_53_35, ix_53_38, ix_53_41, ix_53_42, ix_53_43, ix_53_45, ix_53_48, ix_53_49, ix_53_50, ix_53_51, ix_53_52, ix_53_55, ix_53_56, ix_53_59, ix_53_60, ix_53_62, ix_53_63, ix_53_66, ix_53_69, mC_53, mS_53, mH_53, f0]
    simp (disch := omega) only [z_lt, z_le, z_eq, z_in, z_nat, Int.toNat_natCast, upd_z, z_l, zl_0, zl_add, zl_sub, zl_mul, zl_i, zl_eq, zl_div, Int.reduceLT, Int.reduceLE, Int.reduceToNat, Nat.reduceAdd, Nat.reduceLeDiff, not_false_eq_true, true_and, and_true]
    refine ⟨fun q => absurd q (by omega), fun _ => ⟨by omega, by omega, ?_⟩⟩
    refine R_cI ix_53_31 (by decide) rfl (s16) (Nat.le_of_ble_eq_true rfl) (by rw [mcs_16, mC_53]; omega) (by rw [mcs_16, mS_53]; omega) ?_
    simp only [mcs_16, vpu, Nat.add_zero, Nat.zero_add, Nat.reduceAdd]
    refine R_run 60 ?_
    simp only [run_s, run_0, isc, Bool.or_false, Bool.false_or, Bool.or_true, Bool.true_or, Bool.or_self, cond_false, cond_true, gl, sl, stl, stl2, c2, isw, nf, pf, lnb, tk, true_and, and_true, nsg0, nsg1, Int.cast_ofNat_Int, Int.natCast_zero, Int.natCast_one, zero_z, z_add, z_sub, z_mul, z_neg, cnd_eq, cnd_ne, cnd_lt, cnd_ge, cnd_gt, cnd_le, vok_0, vok_3r, vok_3n, vok_4, Nat.add_zero, Nat.zero_add, Nat.reduceAdd, Nat.reduceSub, Nat.reduceMod, Nat.reduceDiv, Nat.reduceEqDiff, Nat.reduceLeDiff, Nat.reduceMul, Int.reduceNeg, if_true, if_false, ite_true, ite_false, reduceIte, hup_app, Nat.add_left_cancel_iff, Nat.left_eq_add, Nat.add_eq_left, reduceCtorEq, subc_0, subc_1, subc_2, subc_3, subc_4, subc_5, subc_6, subc_7, subc_8, subc_9, subc_10, subc_11, subc_12, sube_2, sube_3, sube_5, sube_8, sube_9, sube_10, rets_ok, va_rfs, true_or, or_true, or_false, false_or, sI_aastore, sI_aload_n, sI_anewarray, sI_bipush, sI_dup, sI_getfield, sI_goto, sI_iastore, sI_iconst, sI_if_icmp, sI_iinc, sI_iload_n, sI_invokespecial, sI_istore_n, sI_new, sI_newarray, sI_putfield, sI_return_, ix_53_0, ix_53_1, ix_53_4, ix_53_5, ix_53_7, ix_53_10, ix_53_13, ix_53_14, ix_53_15, ix_53_16, ix_53_18, ix_53_21, ix_53_22, ix_53_25, ix_53_26, ix_53_29, ix_53_30, ix_53_31, ix_53_34, ix_53_35, ix_53_38, ix_53_41, ix_53_42, ix_53_43, ix_53_45, ix_53_48, ix_53_49, ix_53_50, ix_53_51, ix_53_52, ix_53_55, ix_53_56, ix_53_59, ix_53_60, ix_53_62, ix_53_63, ix_53_66, ix_53_69, mC_53, mS_53, mH_53, f2, f3, GB, refA]
    simp (disch := omega) only [z_lt, z_le, z_eq, z_in, z_nat, Int.toNat_natCast, upd_z, z_l, zl_0, zl_add, zl_sub, zl_mul, zl_i, zl_eq, zl_div, Int.reduceLT, Int.reduceLE, Int.reduceToNat, Nat.reduceAdd, Nat.reduceLeDiff, not_false_eq_true, true_and, and_true]
    refine ⟨by omega, ?_⟩
    refine R_all e1 (by omega) (by omega) (by omega) ih
end TABLE3
