/-! ===== the law, a call: answers compared at once ===== -/
section OPSC
variable {E : EX} {d : Nat} {h h1 : AH} {sz s1 x m : Nat} {H H' : HT} {nh nh' : Nat} {J J' : GS} {n n' fl fl' : Nat} {cu cu' : Nat → Nat} {nc nc' : Nat} {rf uf ue rf' uf' ue' : Int} {N N' : TT} {M M' : GS} {f : Nat → Int64} {g g' : Nat → UInt64}
def AnsD (E : EX) (x cl cm : Nat) (ty : Value → Prop) (h : AH) (sz : Nat) : Prop := ∃ (v : Value) (h1 : AH) (s1 : Nat), Sp E 12 cl [.ref x] h sz (rets (some v) h1 s1) ∧ ty v ∧ ∃ h2 : AH, Sp E 12 cm [.ref (x + 122)] h1 s1 (rets (some v) h2 s1) ∧ JS E x h2 s1 ∧ (∃ fs, h x = some (.inr (11, fs))) ∧ (∃ fs, h1 (x + 122) = some (.inr (12, fs))) ∧ h1 E.1.1 = none
theorem JX_x (j : JX E h sz x H nh J n fl cu nc rf uf ue N M f g) : ∃ fs, h x = some (.inr (11, fs)) := by
  obtain ⟨⟨ha, ea, ca, a1, a2, a3, A, C, hCx⟩, -⟩ := j
  exact ⟨_, hCx.1⟩
theorem ansD {cl cm : Nat} {ty : Value → Prop} {v : Value} (j : JX E h sz x H nh J n fl cu nc rf uf ue N M f g) (fr : frm h h1 x (x + 157)) (hC1 : isC E h1 s1 x (x + 157) H' nh' J' n' fl' cu' nc' rf' uf' ue' N') (hS1 : sC H' nh' J' n' fl' cu' nc' rf' uf' ue') (hs : Sp E 20 cl [.ref x] h sz (rets (some v) h1 s1)) (r1 : cl < 238) (r2 : cm < 238) (hm : ∀ (k : AH) (s2 : Nat), ∃ M', Sp E 21 cm [.ref (x + 122)] (mh k (x + 122) M) s2 (rets (some v) (mh k (x + 122) M') s2) ∧ rC H' nh' J' n' fl' cu' nc' rf' uf' ue' N' M') (ht : ty v) : AnsD E x cl cm ty h sz := by
  obtain ⟨M', hs2, hr⟩ := hm h1 s1
  obtain ⟨k1, k2, k3, k4⟩ := JX_fr j fr
  obtain ⟨e1, j'⟩ := JX_to j fr hC1 hS1 (Nat.le_refl s1) (hw := h1) (fun _ _ _ => rfl) k2 k3 hr
  rw [e1] at hs2
  refine ⟨v, h1, s1, Sp_low 12 20 cl _ _ _ _ (rk12 cl r1) (by decide) hs, ht, _, Sp_low 12 21 cm _ _ _ _ (rk12 cm r2) (by decide) hs2, ⟨_, _, _, _, _, _, _, _, _, _, _, _, _, _, j'⟩, JX_x j, ⟨MF (x + 122) (M 0), ?_⟩, k4⟩
  exact mh_at (j := 0) k1 (by decide)
theorem od_99 (jj : JS E x h sz) : AnsD E x 99 171 tI h sz := by
  obtain ⟨H, nh, J, n, fl, cu, nc, rf, uf, ue, N, M, f, gd, j⟩ := jj
  obtain ⟨hC, hS, hR, -, ho, ho2, -⟩ := id j
  obtain ⟨ha, ea, ca, aa1, aa2, aa3, A, C, hCx⟩ := id hC
  have q0 := (isC_z hC).2.2
  obtain ⟨hV, -⟩ := cNV hS q0
  have hM := cNM hS q0
  have hH := hS.1
  obtain ⟨hX, hL, hT, hkk, hxz⟩ := cx hCx
  exact ansD j frm_r hC hS (sp_99y (d := 0) hX hT) (by decide) (by decide) (fun k s2 => ⟨_, m_171 (d := 0) hR, rC_th 0 hR⟩) ⟨_, rfl⟩
theorem od_102 (jj : JS E x h sz) : AnsD E x 102 175 tI h sz := by
  obtain ⟨H, nh, J, n, fl, cu, nc, rf, uf, ue, N, M, f, gd, j⟩ := jj
  obtain ⟨hC, hS, hR, -, ho, ho2, -⟩ := id j
  obtain ⟨ha, ea, ca, aa1, aa2, aa3, A, C, hCx⟩ := id hC
  have q0 := (isC_z hC).2.2
  obtain ⟨hV, -⟩ := cNV hS q0
  have hM := cNM hS q0
  have hH := hS.1
  obtain ⟨hX, hL, hT, hkk, hxz⟩ := cx hCx
  exact ansD j frm_r hC hS (sp_102y (d := 0) hX hL) (by decide) (by decide) (fun k s2 => ⟨_, m_175 (d := 0) hR, rC_th 0 hR⟩) ⟨_, rfl⟩
theorem od_103 (jj : JS E x h sz) : AnsD E x 103 176 tI h sz := by
  obtain ⟨H, nh, J, n, fl, cu, nc, rf, uf, ue, N, M, f, gd, j⟩ := jj
  obtain ⟨hC, hS, hR, -, ho, ho2, -⟩ := id j
  obtain ⟨ha, ea, ca, aa1, aa2, aa3, A, C, hCx⟩ := id hC
  have q0 := (isC_z hC).2.2
  obtain ⟨hV, -⟩ := cNV hS q0
  have hM := cNM hS q0
  have hH := hS.1
  obtain ⟨hX, hL, hT, hkk, hxz⟩ := cx hCx
  exact ansD j frm_r hC hS (sp_103y (d := 0) hX hL) (by decide) (by decide) (fun k s2 => ⟨_, m_176 (d := 0) hR, rC_th 0 hR⟩) ⟨_, rfl⟩
theorem od_106 (jj : JS E x h sz) : AnsD E x 106 180 tI h sz := by
  obtain ⟨H, nh, J, n, fl, cu, nc, rf, uf, ue, N, M, f, gd, j⟩ := jj
  obtain ⟨hC, hS, hR, -, ho, ho2, -⟩ := id j
  obtain ⟨ha, ea, ca, aa1, aa2, aa3, A, C, hCx⟩ := id hC
  have q0 := (isC_z hC).2.2
  obtain ⟨hV, -⟩ := cNV hS q0
  have hM := cNM hS q0
  have hH := hS.1
  obtain ⟨hX, hL, hT, hkk, hxz⟩ := cx hCx
  have hS' : sC H nh J n n cu nc rf uf ue := by
    obtain ⟨s1, s2, s3, s4, s5, s6, s7⟩ := hS
    exact ⟨s1, s2, s3, Nat.le_refl _, s5, fun c hc => Nat.le_trans (s6 c hc) s4, s7⟩
  exact ansD j (frm_x (by omega)) ⟨ha, ea, ca, aa1, aa2, aa3, A, C, isCx_x (fl' := n) (rf' := rf) (uf' := uf) (ue' := ue) hCx⟩ hS' (sp_106y (d := 0) hX hL) (by decide) (by decide) (fun k s2 => by
    obtain ⟨M', s, r, -⟩ := m_180 (E := E) (d := 0) (h := k) (m := x + 122) (sz := s2) hR
    exact ⟨M', s, r⟩) ⟨_, rfl⟩
theorem od_107 (jj : JS E x h sz) : AnsD E x 107 181 tI h sz := by
  obtain ⟨H, nh, J, n, fl, cu, nc, rf, uf, ue, N, M, f, gd, j⟩ := jj
  obtain ⟨hC, hS, hR, -, ho, ho2, -⟩ := id j
  obtain ⟨ha, ea, ca, aa1, aa2, aa3, A, C, hCx⟩ := id hC
  have q0 := (isC_z hC).2.2
  obtain ⟨hV, -⟩ := cNV hS q0
  have hM := cNM hS q0
  have hH := hS.1
  obtain ⟨hX, hL, hT, hkk, hxz⟩ := cx hCx
  obtain ⟨h', N', s, hC1, fr⟩ := sp_107y (E := E) (d := 0) hS hC
  have q1 := (isC_z hC1).2.2
  exact ansD j fr hC1 (sC_cr hS) s (by decide) (by decide) (fun k s2 => by
    obtain ⟨M', s, r, -⟩ := m_181 (E := E) (d := 0) (h := k) (m := x + 122) (sz := s2) hS hR q1
    exact ⟨M', s, r⟩) ⟨_, rfl⟩
theorem od_111 (jj : JS E x h sz) : AnsD E x 111 187 tL h sz := by
  obtain ⟨H, nh, J, n, fl, cu, nc, rf, uf, ue, N, M, f, gd, j⟩ := jj
  obtain ⟨hC, hS, hR, -, ho, ho2, -⟩ := id j
  obtain ⟨ha, ea, ca, aa1, aa2, aa3, A, C, hCx⟩ := id hC
  have q0 := (isC_z hC).2.2
  obtain ⟨hV, -⟩ := cNV hS q0
  have hM := cNM hS q0
  have hH := hS.1
  obtain ⟨hX, hL, hT, hkk, hxz⟩ := cx hCx
  exact ansD j frm_r hC hS (sp_111v (d := 0) hS hC) (by decide) (by decide) (fun k s2 => ⟨_, m_187 (d := 0) hS q0 hR, rC_th 0 hR⟩) ⟨_, rfl⟩
def tD (v : Value) : Prop := ∃ b : UInt64, v = .double b ∧ Jvm.FP.Core.dIsNaN b = false
theorem od_113 (jj : JS E x h sz) : AnsD E x 113 189 tD h sz := by
  obtain ⟨H, nh, J, n, fl, cu, nc, rf, uf, ue, N, M, f, gd, j⟩ := jj
  obtain ⟨hC, hS, hR, -, ho, ho2, -⟩ := id j
  obtain ⟨ha, ea, ca, aa1, aa2, aa3, A, C, hCx⟩ := id hC
  have q0 := (isC_z hC).2.2
  obtain ⟨hV, -⟩ := cNV hS q0
  have hM := cNM hS q0
  have hH := hS.1
  obtain ⟨hX, hL, hT, hkk, hxz⟩ := cx hCx
  exact ansD j frm_r hC hS (sp_113y (d := 0) hX hT) (by decide) (by decide) (fun k s2 => ⟨_, m_189 (d := 0) hR, rC_th 0 hR⟩) ⟨_, rfl, div_d _⟩
theorem od_114 (jj : JS E x h sz) : AnsD E x 114 190 tI h sz := by
  obtain ⟨H, nh, J, n, fl, cu, nc, rf, uf, ue, N, M, f, gd, j⟩ := jj
  obtain ⟨hC, hS, hR, -, ho, ho2, -⟩ := id j
  obtain ⟨ha, ea, ca, aa1, aa2, aa3, A, C, hCx⟩ := id hC
  have q0 := (isC_z hC).2.2
  obtain ⟨hV, -⟩ := cNV hS q0
  have hM := cNM hS q0
  have hH := hS.1
  obtain ⟨hX, hL, hT, hkk, hxz⟩ := cx hCx
  obtain ⟨h', s, hC1, fr⟩ := sp_114y (E := E) (d := 0) hS hC
  exact ansD j fr hC1 hS s (by decide) (by decide) (fun k s2 => ⟨_, m_190 (d := 0), rC_th 0 hR⟩) ⟨_, rfl⟩
/- the share played -/
set_option maxRecDepth 16384 in
theorem m_188e (k : rC H nh J n fl cu nc rf uf ue N M) (h0 : N 6 1 1 = 0) : Sp E (d + 21) 188 [.ref m] (mh h m M) sz (rets (some (.float FP.fconst0)) (mh h m (th M 1)) sz) := by
  have m16 : M 0 16 = 0 := by rw [← h0]; exact k.2.2.2.2.2.1.1
  have m16' : th M 1 0 16 = 0 := m16
  have m00' : th M 1 0 0 = 1 := th_0 1
  refine ⟨mi_188, mt_188, Nat.le_of_ble_eq_true rfl, ?_⟩
  change Rr _ _ _ _ mi_188 _ 0 [some (.ref m), none, none] [] _ _ 0 0
  refine R_run 8 ?_
  simp only [run_s, run_0, isc, Bool.or_false, Bool.false_or, Bool.or_true, Bool.true_or, Bool.or_self, cond_false, cond_true, gl, sl, stl, stl2, c2, isw, nf, pf, lnb, tk, true_and, and_true, nsg0, nsg1, Int.cast_ofNat_Int, Int.natCast_zero, Int.natCast_one, zero_z, z_add, z_sub, z_mul, z_neg, cnd_eq, cnd_ne, cnd_lt, cnd_ge, cnd_gt, cnd_le, vok_0, vok_3r, vok_3n, vok_4, Nat.add_zero, Nat.zero_add, Nat.reduceAdd, Nat.reduceSub, Nat.reduceMod, Nat.reduceDiv, Nat.reduceEqDiff, Nat.reduceLeDiff, Nat.reduceMul, Int.reduceNeg, if_true, if_false, ite_true, ite_false, reduceIte, hup_app, Nat.add_left_cancel_iff, Nat.left_eq_add, Nat.add_eq_left, reduceCtorEq, subc_0, subc_1, subc_2, subc_3, subc_4, subc_5, subc_6, subc_7, subc_8, subc_9, subc_10, subc_11, subc_12, sube_2, sube_3, sube_5, sube_8, sube_9, sube_10, rets_ok, va_rfs, true_or, or_true, or_false, false_or, sI_aload_n, sI_fconst, sI_fdiv, sI_freturn, sI_getfield, sI_goto, sI_i2f, sI_iadd, sI_iconst, sI_ifCond, sI_if_icmp, sI_iinc, sI_iload_n, sI_invokevirtual, sI_istore_n, sI_putfield, ix_188_0, ix_188_1, ix_188_2, ix_188_5, ix_188_8, ix_188_9, ix_188_12, ix_188_13, ix_188_16, ix_188_17, ix_188_18, ix_188_19, ix_188_20, ix_188_21, ix_188_22, ix_188_25, ix_188_28, ix_188_29, ix_188_30, ix_188_31, ix_188_34, ix_188_37, ix_188_38, ix_188_41, ix_188_42, ix_188_43, ix_188_44, ix_188_47, ix_188_50, ix_188_51, ix_188_54, ix_188_57, ix_188_58, ix_188_61, ix_188_62, ix_188_63, ix_188_64, ix_188_67, ix_188_68, ix_188_69, mC_188, mS_188, mH_188, sr_at, mr_0, mn_0, mn_16, mp_0, ml_0, mw_0, m16, st1_at]
  try simp (disch := omega) only [z_lt, z_le, z_eq, z_in, z_nat, Int.toNat_natCast, upd_z, z_l, zl_0, zl_add, zl_sub, zl_mul, zl_i, zl_eq, zl_div, Int.reduceLT, Int.reduceLE, Int.reduceToNat, Nat.reduceAdd, Nat.reduceLeDiff, not_false_eq_true, true_and, and_true]
  repeat' (first | (with_reducible refine ⟨?_, ?_⟩) | (with_reducible intro _))
  all_goals try (first | exact True.intro | with_reducible rfl | exact absurd True.intro (by assumption) | omega | (exfalso; omega) | (rw [if_pos (by omega)]; done) | (rw [if_neg (by omega)]; done))
  refine R_heap (h := mh h m (th M 1)) rfl ?_
  refine R_run 60 ?_
  simp only [run_s, run_0, isc, Bool.or_false, Bool.false_or, Bool.or_true, Bool.true_or, Bool.or_self, cond_false, cond_true, gl, sl, stl, stl2, c2, isw, nf, pf, lnb, tk, true_and, and_true, nsg0, nsg1, Int.cast_ofNat_Int, Int.natCast_zero, Int.natCast_one, zero_z, z_add, z_sub, z_mul, z_neg, cnd_eq, cnd_ne, cnd_lt, cnd_ge, cnd_gt, cnd_le, vok_0, vok_3r, vok_3n, vok_4, Nat.add_zero, Nat.zero_add, Nat.reduceAdd, Nat.reduceSub, Nat.reduceMod, Nat.reduceDiv, Nat.reduceEqDiff, Nat.reduceLeDiff, Nat.reduceMul, Int.reduceNeg, if_true, if_false, ite_true, ite_false, reduceIte, hup_app, Nat.add_left_cancel_iff, Nat.left_eq_add, Nat.add_eq_left, reduceCtorEq, subc_0, subc_1, subc_2, subc_3, subc_4, subc_5, subc_6, subc_7, subc_8, subc_9, subc_10, subc_11, subc_12, sube_2, sube_3, sube_5, sube_8, sube_9, sube_10, rets_ok, va_rfs, true_or, or_true, or_false, false_or, sI_aload_n, sI_fconst, sI_fdiv, sI_freturn, sI_getfield, sI_goto, sI_i2f, sI_iadd, sI_iconst, sI_ifCond, sI_if_icmp, sI_iinc, sI_iload_n, sI_invokevirtual, sI_istore_n, sI_putfield, ix_188_0, ix_188_1, ix_188_2, ix_188_5, ix_188_8, ix_188_9, ix_188_12, ix_188_13, ix_188_16, ix_188_17, ix_188_18, ix_188_19, ix_188_20, ix_188_21, ix_188_22, ix_188_25, ix_188_28, ix_188_29, ix_188_30, ix_188_31, ix_188_34, ix_188_37, ix_188_38, ix_188_41, ix_188_42, ix_188_43, ix_188_44, ix_188_47, ix_188_50, ix_188_51, ix_188_54, ix_188_57, ix_188_58, ix_188_61, ix_188_62, ix_188_63, ix_188_64, ix_188_67, ix_188_68, ix_188_69, mC_188, mS_188, mH_188, sr_at, mr_0, mn_0, mn_16, mp_0, ml_0, mw_0]
  refine R_hd ix_188_20 60 ?_
  simp only [run_s, run_0, isc, Bool.or_false, Bool.false_or, Bool.or_true, Bool.true_or, Bool.or_self, cond_false, cond_true, gl, sl, stl, stl2, c2, isw, nf, pf, lnb, tk, true_and, and_true, nsg0, nsg1, Int.cast_ofNat_Int, Int.natCast_zero, Int.natCast_one, zero_z, z_add, z_sub, z_mul, z_neg, cnd_eq, cnd_ne, cnd_lt, cnd_ge, cnd_gt, cnd_le, vok_0, vok_3r, vok_3n, vok_4, Nat.add_zero, Nat.zero_add, Nat.reduceAdd, Nat.reduceSub, Nat.reduceMod, Nat.reduceDiv, Nat.reduceEqDiff, Nat.reduceLeDiff, Nat.reduceMul, Int.reduceNeg, if_true, if_false, ite_true, ite_false, reduceIte, hup_app, Nat.add_left_cancel_iff, Nat.left_eq_add, Nat.add_eq_left, reduceCtorEq, subc_0, subc_1, subc_2, subc_3, subc_4, subc_5, subc_6, subc_7, subc_8, subc_9, subc_10, subc_11, subc_12, sube_2, sube_3, sube_5, sube_8, sube_9, sube_10, rets_ok, va_rfs, true_or, or_true, or_false, false_or, sI_aload_n, sI_fconst, sI_fdiv, sI_freturn, sI_getfield, sI_goto, sI_i2f, sI_iadd, sI_iconst, sI_ifCond, sI_if_icmp, sI_iinc, sI_iload_n, sI_invokevirtual, sI_istore_n, sI_putfield, ix_188_0, ix_188_1, ix_188_2, ix_188_5, ix_188_8, ix_188_9, ix_188_12, ix_188_13, ix_188_16, ix_188_17, ix_188_18, ix_188_19, ix_188_20, ix_188_21, ix_188_22, ix_188_25, ix_188_28, ix_188_29, ix_188_30, ix_188_31, ix_188_34, ix_188_37, ix_188_38, ix_188_41, ix_188_42, ix_188_43, ix_188_44, ix_188_47, ix_188_50, ix_188_51, ix_188_54, ix_188_57, ix_188_58, ix_188_61, ix_188_62, ix_188_63, ix_188_64, ix_188_67, ix_188_68, ix_188_69, mC_188, mS_188, mH_188, sr_at, mr_0, mn_0, mn_16, mp_0, ml_0, mw_0, m16', m00']
  try simp (disch := omega) only [z_lt, z_le, z_eq, z_in, z_nat, Int.toNat_natCast, upd_z, z_l, zl_0, zl_add, zl_sub, zl_mul, zl_i, zl_eq, zl_div, Int.reduceLT, Int.reduceLE, Int.reduceToNat, Nat.reduceAdd, Nat.reduceLeDiff, not_false_eq_true, true_and, and_true]
  repeat' (first | (with_reducible refine ⟨?_, ?_⟩) | (with_reducible intro _))
  all_goals try (first | exact True.intro | with_reducible rfl | exact absurd True.intro (by assumption) | omega | (exfalso; omega) | (rw [if_pos (by omega)]; done) | (rw [if_neg (by omega)]; done))
def AnsF (E : EX) (x : Nat) (h : AH) (sz : Nat) : Prop :=
  ∃ (c : Int) (h1 : AH) (s1 : Nat), (0 ≤ c ∧ c ≤ 4) ∧ Sp E 12 237 [.ref x, .ref (x + 156)] h sz (retg (some (.int (z c))) h1 s1) ∧ ∀ s2, s1 ≤ s2 → ∃ (b : UInt32) (h2 : AH), Sp E 12 188 [.ref (x + 122)] h1 s2 (rets (some (.float b)) h2 s2) ∧ Sp E 12 125 [.ref (x + 122)] h2 s2 (rets (some (.int (z c))) h2 s2) ∧ (c = 0 → Jvm.FP.Core.dIsNaN (FP.f2d b) = false ∧ ∃ g, h2 (x + 156) = some (.inl (5, 1, .inr (.inr (.inr (.inl g))))) ∧ g 0 = FP.f2d b) ∧ JS E x h2 s2 ∧ (∃ fs, h1 (x + 122) = some (.inr (12, fs))) ∧ (∃ fs, h2 (x + 122) = some (.inr (12, fs))) ∧ h1 E.1.1 = none
theorem ansF {c : Int} {b : UInt32} (j : JX E h sz x H nh J n fl cu nc rf uf ue N M f g) (hc : 0 ≤ c ∧ c ≤ 4) (hw : Sp E 21 237 [.ref x, .ref (x + 156)] h sz (retg (some (.int (z c))) (hup h (x + 156) (LD g')) sz)) (hm : ∀ (k : AH) (s2 : Nat), Sp E 21 188 [.ref (x + 122)] (mh k (x + 122) M) s2 (rets (some (.float b)) (mh k (x + 122) (th M c)) s2)) (hv : c = 0 → Jvm.FP.Core.dIsNaN (FP.f2d b) = false ∧ g' 0 = FP.f2d b) : AnsF E x h sz := by
  have hC := j.1
  have hS := j.2.1
  have hr : rC H nh J n fl cu nc rf uf ue N (th M c) := rC_th c j.2.2.1
  have h0 : th M c 0 0 = c := th_0 c
  refine ⟨c, _, sz, hc, Sp_low 12 21 237 _ _ _ _ (rk12 237 (by decide)) (by decide) hw, fun s2 hle => ?_⟩
  have hs := hm (hup h (x + 156) (LD g')) s2
  obtain ⟨k1, k2, k3, k4⟩ := JX_fr j (frm_r)
  obtain ⟨e1, j'⟩ := JX_to j frm_r hC hS hle (hw := hup h (x + 156) (LD g')) (fun q _ hq => hup_ne _ _ hq) (by rw [hup_ne _ _ (by omega), k2]) (hup_eq _ _ _) hr
  rw [e1] at hs
  have t := m_125 (E := E) (d := 0) (h := hup h (x + 156) (LD g')) (m := x + 122) (M := th M c) (sz := s2)
  rw [h0] at t
  refine ⟨b, _, Sp_low 12 21 188 _ _ _ _ (rk12 188 (by decide)) (by decide) hs, Sp_low 12 21 125 _ _ _ _ (rk12 125 (by decide)) (by decide) t, fun c0 => ⟨(hv c0).1, g', j'.2.2.2.2.2.1, (hv c0).2⟩, ⟨_, _, _, _, _, _, _, _, _, _, _, _, _, _, j'⟩, ⟨MF (x + 122) (M 0), ?_⟩, ⟨_, mr_0⟩, ?_⟩
  · exact mh_at (j := 0) e1 (by decide)
  · rw [hup_ne _ _ (by have := j.2.2.2.2.2.2.1; omega), k4]
theorem op_237 (jj : JS E x h sz) : AnsF E x h sz := by
  obtain ⟨H, nh, J, n, fl, cu, nc, rf, uf, ue, N, M, f, gd, j⟩ := jj
  obtain ⟨hC, hS, hR, -, ho, ho2, -⟩ := id j
  obtain ⟨ha, ea, ca, aa1, aa2, aa3, A, C, hCx⟩ := id hC
  have q0 := (isC_z hC).2.2
  obtain ⟨hV, -⟩ := cNV hS q0
  have hM := cNM hS q0
  have hH := hS.1
  obtain ⟨hX, hL, hT, hkk, hxz⟩ := cx hCx
  have h6 := hV.1
  by_cases h0 : N 6 1 1 = 0
  · refine ansF (c := 1) j (by decide) ?_ (fun k s2 => m_188e (d := 0) hR h0) (fun q => absurd q (by decide)) (g' := gd)
    rw [hup_self ho2]
    exact wt_237_1 (d := 0) hX (sp_112e (d := 0) hX hT h0)
  · have hnn : Jvm.FP.Core.dIsNaN (FP.f2d (FP.fdiv (FP.i2f (z (dnC N (N 6 1 1).toNat))) (FP.i2f (z (N 6 1 1))))) = false := ((Jvm.FP.f2d_nan _).trans (div_f _ (fun q => by
      rw [zero_z, z_eq (by omega) (by omega) (by omega) (by omega)] at q
      omega)))
    refine ansF (c := 0) j (by decide) (wy_237 (d := 0) (n64_of hnn) hX (sp_112y (d := 0) hX hT hV hH h0) ho2) (fun k s2 => m_188y (d := 0) hS hV hR h0) (fun _ => ⟨hnn, ?_⟩)
    unfold vf_upd
    rw [if_pos rfl]
end OPSC
