theorem z_div {a b : Int} (h1 : 0 ≤ a) (h2 : a ≤ 2147483647) (h3 : 0 < b) (h4 : b ≤ 2147483647) : z a / z b = z (a / b) := by
  apply Int32.toInt_inj.mp
  have h5 : 0 ≤ a / b := Int.ediv_nonneg h1 (by omega)
  have h6 : a / b ≤ a := Int.ediv_le_self _ h1
  rw [Int32.toInt_div, z_toInt (by omega) h2, z_toInt (by omega) h4, z_toInt (by omega) (by omega), Int.tdiv_eq_ediv_of_nonneg h1]
  exact Int.bmod_eq_of_le (by omega) (by omega)
section MMX
variable {E : EX} {mcs : Nat → Nat × Nat} {call : CT} {d : Nat} {r : MI} {Q : QT} {pc n y q : Nat} {L : LV} {rest : List Value} {h : AH} {sz nc ns : Nat} {b : Bool}
theorem R_min {a c : Int} (hl : lkp pc (mI r) = some (b, .invokestatic q, n, 1004, y)) (ha : -2147483648 ≤ a ∧ a ≤ 2147483647) (hb : -2147483648 ≤ c ∧ c ≤ 2147483647) (hc : catS rest ≤ 8) (hd : 1 ≤ d) (k : Rr E mcs call d r Q n L (.int (z (if c < a then c else a)) :: rest) h sz nc ns) : Rr E mcs call d r Q pc L (.int (z c) :: .int (z a) :: rest) h sz nc ns := by
  refine R_intro ?_
  unfold stp
  rw [hl]
  dsimp only
  rw [sI_invokestatic, if_neg (by decide), if_neg (by decide), if_pos rfl]
  refine ⟨hc, hd, ?_⟩
  have e : (if z c < z a then z c else z a) = z (if c < a then c else a) := by
    by_cases h9 : c < a
    · rw [if_pos h9, if_pos ((z_lt hb.1 hb.2 ha.1 ha.2).mpr h9)]
    · rw [if_neg h9, if_neg (fun q => h9 ((z_lt hb.1 hb.2 ha.1 ha.2).mp q))]
  rw [e]
  exact k
theorem R_max {a c : Int} (hl : lkp pc (mI r) = some (b, .invokestatic q, n, 1005, y)) (ha : -2147483648 ≤ a ∧ a ≤ 2147483647) (hb : -2147483648 ≤ c ∧ c ≤ 2147483647) (hc : catS rest ≤ 8) (hd : 1 ≤ d) (k : Rr E mcs call d r Q n L (.int (z (if a < c then c else a)) :: rest) h sz nc ns) : Rr E mcs call d r Q pc L (.int (z c) :: .int (z a) :: rest) h sz nc ns := by
  refine R_intro ?_
  unfold stp
  rw [hl]
  dsimp only
  rw [sI_invokestatic, if_neg (by decide), if_neg (by decide), if_neg (by decide), if_pos rfl]
  refine ⟨hc, hd, ?_⟩
  have e : (if z a < z c then z c else z a) = z (if a < c then c else a) := by
    by_cases h9 : a < c
    · rw [if_pos h9, if_pos ((z_lt ha.1 ha.2 hb.1 hb.2).mpr h9)]
    · rw [if_neg h9, if_neg (fun q => h9 ((z_lt ha.1 ha.2 hb.1 hb.2).mp q))]
  rw [e]
  exact k
end MMX
/-- the tile of two numbers -/
def tileN (p a c : Nat) : Nat := tri p (if c < a then c else a) + ((if a < c then c else a) - (if c < a then c else a))
section HOUSE2
variable {E : EX} {d : Nat} {h : AH} {sz b : Nat} {W : GS}
set_option maxRecDepth 16384 in
theorem sp_52 {p a c : Nat} (hH : isH h b W) (hp : W 3 0 = p) (hp2 : p < 7) (ha : a ≤ p) (hc : c ≤ p) : Sp E (d + 2) 52 [.ref b, .int (z (a : Int)), .int (z (c : Int))] h sz (rets (some (.int (z ((tileN p a c : Nat) : Int)))) h sz) := by
  obtain ⟨h0, h1, h2, h3⟩ := hH
  refine ⟨mi_52, mt_52, Nat.le_of_ble_eq_true rfl, ?_⟩
  change Rr _ _ _ _ mi_52 _ 0 [some (.ref b), some (.int (z (a : Int))), some (.int (z (c : Int))), none, none] [] _ _ 0 0
  refine R_run 60 ?_
  simp only [run_s, run_0, isc, Bool.or_false, Bool.false_or, Bool.or_true, Bool.true_or, Bool.or_self, cond_false, cond_true, gl, sl, stl, stl2, c2, isw, nf, pf, lnb, tk, true_and, and_true, nsg0, nsg1, Int.cast_ofNat_Int, Int.natCast_zero, Int.natCast_one, zero_z, z_add, z_sub, z_mul, z_neg, cnd_eq, cnd_ne, cnd_lt, cnd_ge, cnd_gt, cnd_le, vok_0, vok_3r, vok_3n, vok_4, Nat.add_zero, Nat.zero_add, Nat.reduceAdd, Nat.reduceSub, Nat.reduceMod, Nat.reduceDiv, Nat.reduceEqDiff, Nat.reduceLeDiff, Nat.reduceMul, Int.reduceNeg, if_true, if_false, ite_true, ite_false, reduceIte, hup_app, Nat.add_left_cancel_iff, Nat.left_eq_add, Nat.add_eq_left, reduceCtorEq, subc_0, subc_1, subc_2, subc_3, subc_4, subc_5, subc_6, subc_7, subc_8, subc_9, subc_10, subc_11, subc_12, sube_2, sube_3, sube_5, sube_8, sube_9, sube_10, rets_ok, sI_aload_n, sI_getfield, sI_iadd, sI_iconst, sI_idiv, sI_iload, sI_iload_n, sI_imul, sI_invokestatic, sI_ireturn, sI_istore, sI_istore_n, sI_isub, ix_52_0, ix_52_1, ix_52_2, ix_52_5, ix_52_6, ix_52_7, ix_52_8, ix_52_11, ix_52_13, ix_52_14, ix_52_15, ix_52_18, ix_52_19, ix_52_20, ix_52_21, ix_52_22, ix_52_23, ix_52_24, ix_52_25, ix_52_26, ix_52_27, ix_52_28, ix_52_29, ix_52_31, ix_52_32, ix_52_33, ix_52_34, mC_52, mS_52, mH_52]
  refine R_min ix_52_2 (by omega) (by omega) (Nat.le_of_ble_eq_true rfl) (by omega) ?_
  refine R_run 60 ?_
  simp only [run_s, run_0, isc, Bool.or_false, Bool.false_or, Bool.or_true, Bool.true_or, Bool.or_self, cond_false, cond_true, gl, sl, stl, stl2, c2, isw, nf, pf, lnb, tk, true_and, and_true, nsg0, nsg1, Int.cast_ofNat_Int, Int.natCast_zero, Int.natCast_one, zero_z, z_add, z_sub, z_mul, z_neg, cnd_eq, cnd_ne, cnd_lt, cnd_ge, cnd_gt, cnd_le, vok_0, vok_3r, vok_3n, vok_4, Nat.add_zero, Nat.zero_add, Nat.reduceAdd, Nat.reduceSub, Nat.reduceMod, Nat.reduceDiv, Nat.reduceEqDiff, Nat.reduceLeDiff, Nat.reduceMul, Int.reduceNeg, if_true, if_false, ite_true, ite_false, reduceIte, hup_app, Nat.add_left_cancel_iff, Nat.left_eq_add, Nat.add_eq_left, reduceCtorEq, subc_0, subc_1, subc_2, subc_3, subc_4, subc_5, subc_6, subc_7, subc_8, subc_9, subc_10, subc_11, subc_12, sube_2, sube_3, sube_5, sube_8, sube_9, sube_10, rets_ok, sI_aload_n, sI_getfield, sI_iadd, sI_iconst, sI_idiv, sI_iload, sI_iload_n, sI_imul, sI_invokestatic, sI_ireturn, sI_istore, sI_istore_n, sI_isub, ix_52_0, ix_52_1, ix_52_2, ix_52_5, ix_52_6, ix_52_7, ix_52_8, ix_52_11, ix_52_13, ix_52_14, ix_52_15, ix_52_18, ix_52_19, ix_52_20, ix_52_21, ix_52_22, ix_52_23, ix_52_24, ix_52_25, ix_52_26, ix_52_27, ix_52_28, ix_52_29, ix_52_31, ix_52_32, ix_52_33, ix_52_34, mC_52, mS_52, mH_52]
  refine R_max ix_52_8 (by omega) (by omega) (Nat.le_of_ble_eq_true rfl) (by omega) ?_
  refine R_run 60 ?_
  simp only [run_s, run_0, isc, Bool.or_false, Bool.false_or, Bool.or_true, Bool.true_or, Bool.or_self, cond_false, cond_true, gl, sl, stl, stl2, c2, isw, nf, pf, lnb, tk, true_and, and_true, nsg0, nsg1, Int.cast_ofNat_Int, Int.natCast_zero, Int.natCast_one, zero_z, z_add, z_sub, z_mul, z_neg, cnd_eq, cnd_ne, cnd_lt, cnd_ge, cnd_gt, cnd_le, vok_0, vok_3r, vok_3n, vok_4, Nat.add_zero, Nat.zero_add, Nat.reduceAdd, Nat.reduceSub, Nat.reduceMod, Nat.reduceDiv, Nat.reduceEqDiff, Nat.reduceLeDiff, Nat.reduceMul, Int.reduceNeg, if_true, if_false, ite_true, ite_false, reduceIte, hup_app, Nat.add_left_cancel_iff, Nat.left_eq_add, Nat.add_eq_left, reduceCtorEq, subc_0, subc_1, subc_2, subc_3, subc_4, subc_5, subc_6, subc_7, subc_8, subc_9, subc_10, subc_11, subc_12, sube_2, sube_3, sube_5, sube_8, sube_9, sube_10, rets_ok, sI_aload_n, sI_getfield, sI_iadd, sI_iconst, sI_idiv, sI_iload, sI_iload_n, sI_imul, sI_invokestatic, sI_ireturn, sI_istore, sI_istore_n, sI_isub, ix_52_0, ix_52_1, ix_52_2, ix_52_5, ix_52_6, ix_52_7, ix_52_8, ix_52_11, ix_52_13, ix_52_14, ix_52_15, ix_52_18, ix_52_19, ix_52_20, ix_52_21, ix_52_22, ix_52_23, ix_52_24, ix_52_25, ix_52_26, ix_52_27, ix_52_28, ix_52_29, ix_52_31, ix_52_32, ix_52_33, ix_52_34, mC_52, mS_52, mH_52, h0, HB, hp]
  have key : ∀ p : Nat, p < 7 → ∀ a : Nat, a < 7 → ∀ c : Nat, c < 7 → a ≤ p → c ≤ p → z ((if (c : Int) < (a : Int) then (c : Int) else (a : Int)) * ((p : Int) + 1)) - z ((if (c : Int) < (a : Int) then (c : Int) else (a : Int)) * ((if (c : Int) < (a : Int) then (c : Int) else (a : Int)) - 1)) / z 2 + z (if (a : Int) < (c : Int) then (c : Int) else (a : Int)) - z (if (c : Int) < (a : Int) then (c : Int) else (a : Int)) = z ((tileN p a c : Nat) : Int) := by decide +kernel
  exact ⟨by decide, by rw [key p hp2 a (by omega) c (by omega) ha hc]⟩
end HOUSE2
/-! ===== a game: nine cells; rows 0 order, 1 hands, 2 chain, 3 to 6 its bets, 7 the rest ===== -/
def GB (g hs : Nat) (G : GS) : Nat → va_E
  | 0 => .inr (4, [.ref hs, .ref (g + 1), .int (z (G 7 0)), .ref (g + 2), .ref (g + 3), .int (z (G 7 1)), .int (z (G 7 2)), .int (z (G 7 3)), .int (z (G 7 4)), .int (z (G 7 5)), .int (z (G 7 6)), .int (z (G 7 7)), .int (z (G 7 8)), .ref (g + 4)])
  | 1 => .inl (0, 28, .inl fun k => z (G 0 k))
  | 2 => .inl (0, 4, .inl fun k => z (G 1 k))
  | 3 => .inl (0, 29, .inl fun k => z (G 2 k))
  | k + 4 => BB (g + 4) G k
def isG (h : AH) (g hs : Nat) (G : GS) : Prop := h g = some (GB g hs G 0) ∧ h (g + 1) = some (GB g hs G 1) ∧ h (g + 2) = some (GB g hs G 2) ∧ h (g + 3) = some (GB g hs G 3) ∧ isB h (g + 4) G
theorem isG_blk {h : AH} {g hs : Nat} {G : GS} : isG (blk h g 9 (GB g hs G)) g hs G := ⟨blk_at (k := 0) (by decide), blk_at (by decide), blk_at (by decide), blk_at (by decide), blk_at (k := 4) (by decide), blk_at (k := 5) (by decide), blk_at (k := 6) (by decide), blk_at (k := 7) (by decide), blk_at (k := 8) (by decide)⟩
theorem isG_eq {h h' : AH} {g hs : Nat} {G : GS} (k : isG h' g hs G) (hout : ∀ q, q < g ∨ g + 9 ≤ q → h' q = h q) : h' = blk h g 9 (GB g hs G) := by
  obtain ⟨h0, h1, h2, h3, h4, h5, h6, h7, h8⟩ := k
  refine blk_eq (fun k hk => ?_) hout
  match k, hk with
  | 0, _ => exact h0
  | 1, _ => exact h1
  | 2, _ => exact h2
  | 3, _ => exact h3
  | 4, _ => exact h4
  | 5, _ => exact h5
  | 6, _ => exact h6
  | 7, _ => exact h7
  | 8, _ => exact h8
def fG (h : AH) (g hs : Nat) (G : GS) : Prop := h g = some (GB g hs G 0) ∧ h (g + 1) = some (GB g hs G 1) ∧ h (g + 2) = some (GB g hs G 2) ∧ h (g + 3) = some (GB g hs G 3) ∧ h (g + 4) = some (BB (g + 4) G 0) ∧ h (g + 5) = some (BB (g + 4) G 1) ∧ h (g + 6) = some (BB (g + 4) G 2) ∧ h (g + 7) = some (BB (g + 4) G 3) ∧ h (g + 8) = some (BB (g + 4) G 4)
theorem isG_f {h : AH} {g hs : Nat} {G : GS} (k : isG h g hs G) : fG h g hs G := k
theorem fG_eq {h h' : AH} {g hs : Nat} {G : GS} (k : fG h' g hs G) (hout : ∀ q, q < g ∨ g + 9 ≤ q → h' q = h q) : h' = blk h g 9 (GB g hs G) := isG_eq k hout
section GAME
variable {E : EX} {d : Nat} {h : AH} {sz g hs : Nat} {G W : GS}
set_option maxRecDepth 16384 in
theorem sp_23 {k : Int} (hG : isG h g hs G) (hH : isH h hs W) (hk : -2147483648 ≤ k ∧ k ≤ 2147483647) (hw : 0 ≤ W 3 1 ∧ W 3 1 ≤ 4) : Sp E (d + 1) 23 [.ref g, .int (z k)] h sz (rets (some (.int (z (if 0 ≤ k ∧ k < W 3 1 then 1 else 0)))) h sz) := by
  obtain ⟨h0, h1, h2, h3, h4⟩ := hG
  obtain ⟨w0, w1, w2, w3⟩ := hH
  refine ⟨mi_23, mt_23, Nat.le_of_ble_eq_true rfl, ?_⟩
  change Rr _ _ _ _ mi_23 _ 0 [some (.ref g), some (.int (z k))] [] _ _ 0 0
  refine R_run 60 ?_
  simp only [run_s, run_0, isc, Bool.or_false, Bool.false_or, Bool.or_true, Bool.true_or, Bool.or_self, cond_false, cond_true, gl, sl, stl, stl2, c2, isw, nf, pf, lnb, tk, true_and, and_true, nsg0, nsg1, Int.cast_ofNat_Int, Int.natCast_zero, Int.natCast_one, zero_z, z_add, z_sub, z_mul, z_neg, cnd_eq, cnd_ne, cnd_lt, cnd_ge, cnd_gt, cnd_le, vok_0, vok_3r, vok_3n, vok_4, Nat.add_zero, Nat.zero_add, Nat.reduceAdd, Nat.reduceSub, Nat.reduceMod, Nat.reduceDiv, Nat.reduceEqDiff, Nat.reduceLeDiff, Nat.reduceMul, Int.reduceNeg, if_true, if_false, ite_true, ite_false, reduceIte, hup_app, Nat.add_left_cancel_iff, Nat.left_eq_add, Nat.add_eq_left, reduceCtorEq, subc_0, subc_1, subc_2, subc_3, subc_4, subc_5, subc_6, subc_7, subc_8, subc_9, subc_10, subc_11, subc_12, sube_2, sube_3, sube_5, sube_8, sube_9, sube_10, rets_ok, sI_aload_n, sI_getfield, sI_goto, sI_iconst, sI_ifCond, sI_if_icmp, sI_iload_n, sI_ireturn, ix_23_0, ix_23_1, ix_23_4, ix_23_5, ix_23_6, ix_23_9, ix_23_12, ix_23_15, ix_23_16, ix_23_19, ix_23_20, mC_23, mS_23, mH_23, h0, w0, GB, HB, vok_z1 (Or.inr rfl), vok_z1 (Or.inl rfl)]
  simp (disch := omega) only [z_lt, z_le, z_eq, z_in, z_nat, Int.toNat_natCast, upd_z, z_l, zl_0, zl_add, zl_sub, zl_mul, zl_i, zl_eq, zl_div, Int.reduceLT, Int.reduceLE, Int.reduceToNat, Nat.reduceAdd, Nat.reduceLeDiff, not_false_eq_true, true_and, and_true]
  refine ⟨fun q => ?_, fun q => ⟨fun q2 => ?_, fun q2 => ?_⟩⟩
  · rw [if_neg (by omega)]
  · rw [if_neg (by omega)]
  · rw [if_pos (by omega)]
set_option maxRecDepth 16384 in
theorem sp_24 (hG : isG h g hs G) (hw : -2 ≤ G 7 6 ∧ G 7 6 ≤ 4) : Sp E (d + 1) 24 [.ref g] h sz (rets (some (.int (z (if G 7 6 = -2 then 0 else 1)))) h sz) := by
  obtain ⟨h0, h1, h2, h3, h4⟩ := hG
  refine ⟨mi_24, mt_24, Nat.le_of_ble_eq_true rfl, ?_⟩
  change Rr _ _ _ _ mi_24 _ 0 [some (.ref g)] [] _ _ 0 0
  refine R_run 60 ?_
  simp only [run_s, run_0, isc, Bool.or_false, Bool.false_or, Bool.or_true, Bool.true_or, Bool.or_self, cond_false, cond_true, gl, sl, stl, stl2, c2, isw, nf, pf, lnb, tk, true_and, and_true, nsg0, nsg1, Int.cast_ofNat_Int, Int.natCast_zero, Int.natCast_one, zero_z, z_add, z_sub, z_mul, z_neg, cnd_eq, cnd_ne, cnd_lt, cnd_ge, cnd_gt, cnd_le, vok_0, vok_3r, vok_3n, vok_4, Nat.add_zero, Nat.zero_add, Nat.reduceAdd, Nat.reduceSub, Nat.reduceMod, Nat.reduceDiv, Nat.reduceEqDiff, Nat.reduceLeDiff, Nat.reduceMul, Int.reduceNeg, if_true, if_false, ite_true, ite_false, reduceIte, hup_app, Nat.add_left_cancel_iff, Nat.left_eq_add, Nat.add_eq_left, reduceCtorEq, subc_0, subc_1, subc_2, subc_3, subc_4, subc_5, subc_6, subc_7, subc_8, subc_9, subc_10, subc_11, subc_12, sube_2, sube_3, sube_5, sube_8, sube_9, sube_10, rets_ok, sI_aload_n, sI_bipush, sI_getfield, sI_goto, sI_iconst, sI_if_icmp, sI_ireturn, ix_24_0, ix_24_1, ix_24_4, ix_24_6, ix_24_9, ix_24_10, ix_24_13, ix_24_14, mC_24, mS_24, mH_24, h0, GB, vok_z1 (Or.inr rfl), vok_z1 (Or.inl rfl)]
  simp (disch := omega) only [z_lt, z_le, z_eq, z_in, z_nat, Int.toNat_natCast, upd_z, z_l, zl_0, zl_add, zl_sub, zl_mul, zl_i, zl_eq, zl_div, Int.reduceLT, Int.reduceLE, Int.reduceToNat, Nat.reduceAdd, Nat.reduceLeDiff, not_false_eq_true, true_and, and_true]
  refine ⟨fun q => ?_, fun q => ?_⟩
  · rw [if_pos q]
  · rw [if_neg q]
set_option maxRecDepth 16384 in
theorem sp_25 {k : Int} (hG : isG h g hs G) (hk : -2147483648 ≤ k ∧ k ≤ 2147483647) : Sp E (d + 1) 25 [.ref g, .int (z k)] h sz (rets (some (.int (z (if 0 ≤ k ∧ k < 4 then G 1 k.toNat else 0)))) h sz) := by
  obtain ⟨h0, h1, h2, h3, h4⟩ := hG
  refine ⟨mi_25, mt_25, Nat.le_of_ble_eq_true rfl, ?_⟩
  change Rr _ _ _ _ mi_25 _ 0 [some (.ref g), some (.int (z k))] [] _ _ 0 0
  refine R_run 60 ?_
  simp only [run_s, run_0, isc, Bool.or_false, Bool.false_or, Bool.or_true, Bool.true_or, Bool.or_self, cond_false, cond_true, gl, sl, stl, stl2, c2, isw, nf, pf, lnb, tk, true_and, and_true, nsg0, nsg1, Int.cast_ofNat_Int, Int.natCast_zero, Int.natCast_one, zero_z, z_add, z_sub, z_mul, z_neg, cnd_eq, cnd_ne, cnd_lt, cnd_ge, cnd_gt, cnd_le, vok_0, vok_3r, vok_3n, vok_4, Nat.add_zero, Nat.zero_add, Nat.reduceAdd, Nat.reduceSub, Nat.reduceMod, Nat.reduceDiv, Nat.reduceEqDiff, Nat.reduceLeDiff, Nat.reduceMul, Int.reduceNeg, if_true, if_false, ite_true, ite_false, reduceIte, hup_app, Nat.add_left_cancel_iff, Nat.left_eq_add, Nat.add_eq_left, reduceCtorEq, subc_0, subc_1, subc_2, subc_3, subc_4, subc_5, subc_6, subc_7, subc_8, subc_9, subc_10, subc_11, subc_12, sube_2, sube_3, sube_5, sube_8, sube_9, sube_10, rets_ok, sI_aload_n, sI_getfield, sI_goto, sI_iaload, sI_iconst, sI_ifCond, sI_if_icmp, sI_iload_n, sI_ireturn, ix_25_0, ix_25_1, ix_25_4, ix_25_5, ix_25_6, ix_25_9, ix_25_10, ix_25_13, ix_25_14, ix_25_15, ix_25_18, ix_25_19, mC_25, mS_25, mH_25, h0, h2, GB]
  simp (disch := omega) only [z_lt, z_le, z_eq, z_in, z_nat, Int.toNat_natCast, upd_z, z_l, zl_0, zl_add, zl_sub, zl_mul, zl_i, zl_eq, zl_div, Int.reduceLT, Int.reduceLE, Int.reduceToNat, Nat.reduceAdd, Nat.reduceLeDiff, not_false_eq_true, true_and, and_true]
  refine ⟨fun q => ?_, fun q => ⟨fun q2 => ?_, fun q2 => ⟨by omega, ?_⟩⟩⟩
  · rw [if_neg (by omega)]
  · rw [if_neg (by omega)]
  · rw [if_pos (by omega)]
set_option maxRecDepth 16384 in
theorem sp_28 {k : Int} (hG : isG h g hs G) (hk : 0 ≤ k ∧ k ≤ 28) : Sp E (d + 1) 28 [.ref g, .int (z k)] h sz (rets (some (.int (z (G 2 k.toNat)))) h sz) := by
  obtain ⟨h0, h1, h2, h3, h4⟩ := hG
  refine ⟨mi_28, mt_28, Nat.le_of_ble_eq_true rfl, ?_⟩
  change Rr _ _ _ _ mi_28 _ 0 [some (.ref g), some (.int (z k))] [] _ _ 0 0
  refine R_run 60 ?_
  simp only [run_s, run_0, isc, Bool.or_false, Bool.false_or, Bool.or_true, Bool.true_or, Bool.or_self, cond_false, cond_true, gl, sl, stl, stl2, c2, isw, nf, pf, lnb, tk, true_and, and_true, nsg0, nsg1, Int.cast_ofNat_Int, Int.natCast_zero, Int.natCast_one, zero_z, z_add, z_sub, z_mul, z_neg, cnd_eq, cnd_ne, cnd_lt, cnd_ge, cnd_gt, cnd_le, vok_0, vok_3r, vok_3n, vok_4, Nat.add_zero, Nat.zero_add, Nat.reduceAdd, Nat.reduceSub, Nat.reduceMod, Nat.reduceDiv, Nat.reduceEqDiff, Nat.reduceLeDiff, Nat.reduceMul, Int.reduceNeg, if_true, if_false, ite_true, ite_false, reduceIte, hup_app, Nat.add_left_cancel_iff, Nat.left_eq_add, Nat.add_eq_left, reduceCtorEq, subc_0, subc_1, subc_2, subc_3, subc_4, subc_5, subc_6, subc_7, subc_8, subc_9, subc_10, subc_11, subc_12, sube_2, sube_3, sube_5, sube_8, sube_9, sube_10, rets_ok, sI_aload_n, sI_bipush, sI_getfield, sI_goto, sI_iaload, sI_iconst, sI_ifCond, sI_if_icmp, sI_iload_n, sI_ireturn, ix_28_0, ix_28_1, ix_28_4, ix_28_5, ix_28_7, ix_28_10, ix_28_11, ix_28_14, ix_28_15, ix_28_16, ix_28_19, ix_28_20, mC_28, mS_28, mH_28, h0, h3, GB]
  simp (disch := omega) only [z_lt, z_le, z_eq, z_in, z_nat, Int.toNat_natCast, upd_z, z_l, zl_0, zl_add, zl_sub, zl_mul, zl_i, zl_eq, zl_div, Int.reduceLT, Int.reduceLE, Int.reduceToNat, Nat.reduceAdd, Nat.reduceLeDiff, not_false_eq_true, true_and, and_true]
  exact ⟨fun q => absurd q (by omega), fun q => ⟨fun q2 => absurd q2 (by omega), fun q2 => by omega⟩⟩
set_option maxRecDepth 16384 in
theorem sp_26 {t m : Nat} {w : Int} (hG : isG h g hs G) (hw : G 7 2 = w) (hw2 : 0 ≤ w ∧ w < 4) (hm : G 1 w.toNat = m) (hm2 : m < 2 ^ 28) (ht : t < 28) : Sp E (d + 2) 26 [.ref g, .int (z (t : Int))] h sz (rets (some (.int (z (if m.testBit t = true then 1 else 0)))) h sz) := by
  have hG' := hG
  obtain ⟨h0, h1, h2, h3, h4⟩ := hG
  have s25 := sp_25 (E := E) (d := d) (sz := sz) (k := w) hG' (by omega)
  rw [if_pos hw2, hm] at s25
  refine ⟨mi_26, mt_26, Nat.le_of_ble_eq_true rfl, ?_⟩
  change Rr _ _ _ _ mi_26 _ 0 [some (.ref g), some (.int (z (t : Int)))] [] _ _ 0 0
  refine R_run 60 ?_
  simp only [run_s, run_0, isc, Bool.or_false, Bool.false_or, Bool.or_true, Bool.true_or, Bool.or_self, cond_false, cond_true, gl, sl, stl, stl2, c2, isw, nf, pf, lnb, tk, true_and, and_true, nsg0, nsg1, Int.cast_ofNat_Int, Int.natCast_zero, Int.natCast_one, zero_z, z_add, z_sub, z_mul, z_neg, cnd_eq, cnd_ne, cnd_lt, cnd_ge, cnd_gt, cnd_le, vok_0, vok_3r, vok_3n, vok_4, Nat.add_zero, Nat.zero_add, Nat.reduceAdd, Nat.reduceSub, Nat.reduceMod, Nat.reduceDiv, Nat.reduceEqDiff, Nat.reduceLeDiff, Nat.reduceMul, Int.reduceNeg, if_true, if_false, ite_true, ite_false, reduceIte, hup_app, Nat.add_left_cancel_iff, Nat.left_eq_add, Nat.add_eq_left, reduceCtorEq, subc_0, subc_1, subc_2, subc_3, subc_4, subc_5, subc_6, subc_7, subc_8, subc_9, subc_10, subc_11, subc_12, sube_2, sube_3, sube_5, sube_8, sube_9, sube_10, rets_ok, sI_aload_n, sI_getfield, sI_goto, sI_iand, sI_iconst, sI_ifCond, sI_iload_n, sI_invokevirtual, sI_ireturn, sI_ishl, ix_26_0, ix_26_1, ix_26_2, ix_26_5, ix_26_8, ix_26_9, ix_26_10, ix_26_11, ix_26_12, ix_26_15, ix_26_16, ix_26_19, ix_26_20, mC_26, mS_26, mH_26, h0, GB, hw]
  refine R_cV ix_26_5 (by decide) (by decide) rfl h0 rfl (s25) (Nat.le_of_ble_eq_true rfl) (by rw [mcs_25, mC_26]; omega) (by rw [mcs_25, mS_26]; omega) ?_
  simp only [mcs_25, vpu, Nat.add_zero, Nat.zero_add, Nat.reduceAdd]
  refine R_run 60 ?_
  simp only [run_s, run_0, isc, Bool.or_false, Bool.false_or, Bool.or_true, Bool.true_or, Bool.or_self, cond_false, cond_true, gl, sl, stl, stl2, c2, isw, nf, pf, lnb, tk, true_and, and_true, nsg0, nsg1, Int.cast_ofNat_Int, Int.natCast_zero, Int.natCast_one, zero_z, z_add, z_sub, z_mul, z_neg, cnd_eq, cnd_ne, cnd_lt, cnd_ge, cnd_gt, cnd_le, vok_0, vok_3r, vok_3n, vok_4, Nat.add_zero, Nat.zero_add, Nat.reduceAdd, Nat.reduceSub, Nat.reduceMod, Nat.reduceDiv, Nat.reduceEqDiff, Nat.reduceLeDiff, Nat.reduceMul, Int.reduceNeg, if_true, if_false, ite_true, ite_false, reduceIte, hup_app, Nat.add_left_cancel_iff, Nat.left_eq_add, Nat.add_eq_left, reduceCtorEq, subc_0, subc_1, subc_2, subc_3, subc_4, subc_5, subc_6, subc_7, subc_8, subc_9, subc_10, subc_11, subc_12, sube_2, sube_3, sube_5, sube_8, sube_9, sube_10, rets_ok, sI_aload_n, sI_getfield, sI_goto, sI_iand, sI_iconst, sI_ifCond, sI_iload_n, sI_invokevirtual, sI_ireturn, sI_ishl, ix_26_0, ix_26_1, ix_26_2, ix_26_5, ix_26_8, ix_26_9, ix_26_10, ix_26_11, ix_26_12, ix_26_15, ix_26_16, ix_26_19, ix_26_20, mC_26, mS_26, mH_26, vok_z1 (Or.inr rfl), vok_z1 (Or.inl rfl)]
  rw [z_31, z_shl1 (by omega), z_and]
  have hmb : z ((m &&& 2 ^ t : Nat) : Int) = z 0 ↔ m.testBit t = false := by
    rw [← mask_bit, z_lit0, ← nI_z, ← nI_z]
    have hle : m &&& 2 ^ t ≤ 2 ^ t := Nat.and_le_right
    have h28 : 2 ^ t ≤ 2 ^ 28 := Nat.pow_le_pow_right (by decide) (by omega)
    exact nI_eq (by omega) (by decide)
  rw [hmb]
  refine ⟨fun q => ?_, fun q => ?_⟩
  · rw [q]; rfl
  · rw [if_pos (by simpa using q)]
set_option maxRecDepth 16384 in
theorem sp_27 {l : Int} {b1 : Int} (hG : isG h g hs G) (hl : G 7 1 = l) (hl2 : 0 ≤ l ∧ l ≤ 28) (hb : b1 = 0 ∨ b1 = 1) : Sp E (d + 2) 27 [.ref g, .int (z b1)] h sz (rets (some (.int (z (G 2 (if b1 = 0 then l.toNat else 0))))) h sz) := by
  have hG' := hG
  obtain ⟨h0, h1, h2, h3, h4⟩ := hG
  refine ⟨mi_27, mt_27, Nat.le_of_ble_eq_true rfl, ?_⟩
  change Rr _ _ _ _ mi_27 _ 0 [some (.ref g), some (.int (z b1))] [] _ _ 0 0
  refine R_run 60 ?_
  simp only [run_s, run_0, isc, Bool.or_false, Bool.false_or, Bool.or_true, Bool.true_or, Bool.or_self, cond_false, cond_true, gl, sl, stl, stl2, c2, isw, nf, pf, lnb, tk, true_and, and_true, nsg0, nsg1, Int.cast_ofNat_Int, Int.natCast_zero, Int.natCast_one, zero_z, z_add, z_sub, z_mul, z_neg, cnd_eq, cnd_ne, cnd_lt, cnd_ge, cnd_gt, cnd_le, vok_0, vok_3r, vok_3n, vok_4, Nat.add_zero, Nat.zero_add, Nat.reduceAdd, Nat.reduceSub, Nat.reduceMod, Nat.reduceDiv, Nat.reduceEqDiff, Nat.reduceLeDiff, Nat.reduceMul, Int.reduceNeg, if_true, if_false, ite_true, ite_false, reduceIte, hup_app, Nat.add_left_cancel_iff, Nat.left_eq_add, Nat.add_eq_left, reduceCtorEq, subc_0, subc_1, subc_2, subc_3, subc_4, subc_5, subc_6, subc_7, subc_8, subc_9, subc_10, subc_11, subc_12, sube_2, sube_3, sube_5, sube_8, sube_9, sube_10, rets_ok, sI_aload_n, sI_getfield, sI_goto, sI_iconst, sI_ifCond, sI_iload_n, sI_invokevirtual, sI_ireturn, ix_27_0, ix_27_1, ix_27_2, ix_27_5, ix_27_6, ix_27_9, ix_27_10, ix_27_13, ix_27_16, mC_27, mS_27, mH_27, h0, GB, hl]
  simp (disch := omega) only [z_lt, z_le, z_eq, z_in, z_nat, Int.toNat_natCast, upd_z, z_l, zl_0, zl_add, zl_sub, zl_mul, zl_i, zl_eq, zl_div, Int.reduceLT, Int.reduceLE, Int.reduceToNat, Nat.reduceAdd, Nat.reduceLeDiff, not_false_eq_true, true_and, and_true]
  refine ⟨fun q => ?_, fun q => ?_⟩
  · rw [if_pos q]
    refine R_cV ix_27_13 (by decide) (by decide) rfl h0 rfl (sp_28 hG' hl2) (Nat.le_of_ble_eq_true rfl) (by rw [mcs_28, mC_27]; omega) (by rw [mcs_28, mS_27]; omega) ?_
    simp only [mcs_28, vpu, Nat.add_zero, Nat.zero_add, Nat.reduceAdd]
    refine R_run 60 ?_
    simp only [run_s, run_0, isc, Bool.or_false, Bool.false_or, Bool.or_true, Bool.true_or, Bool.or_self, cond_false, cond_true, gl, sl, stl, stl2, c2, isw, nf, pf, lnb, tk, true_and, and_true, nsg0, nsg1, Int.cast_ofNat_Int, Int.natCast_zero, Int.natCast_one, zero_z, z_add, z_sub, z_mul, z_neg, cnd_eq, cnd_ne, cnd_lt, cnd_ge, cnd_gt, cnd_le, vok_0, vok_3r, vok_3n, vok_4, Nat.add_zero, Nat.zero_add, Nat.reduceAdd, Nat.reduceSub, Nat.reduceMod, Nat.reduceDiv, Nat.reduceEqDiff, Nat.reduceLeDiff, Nat.reduceMul, Int.reduceNeg, if_true, if_false, ite_true, ite_false, reduceIte, hup_app, Nat.add_left_cancel_iff, Nat.left_eq_add, Nat.add_eq_left, reduceCtorEq, subc_0, subc_1, subc_2, subc_3, subc_4, subc_5, subc_6, subc_7, subc_8, subc_9, subc_10, subc_11, subc_12, sube_2, sube_3, sube_5, sube_8, sube_9, sube_10, rets_ok, sI_aload_n, sI_getfield, sI_goto, sI_iconst, sI_ifCond, sI_iload_n, sI_invokevirtual, sI_ireturn, ix_27_0, ix_27_1, ix_27_2, ix_27_5, ix_27_6, ix_27_9, ix_27_10, ix_27_13, ix_27_16, mC_27, mS_27, mH_27]
  · rw [if_neg q]
    refine R_cV ix_27_13 (by decide) (by decide) rfl h0 rfl (sp_28 hG' (k := 0) (by omega)) (Nat.le_of_ble_eq_true rfl) (by rw [mcs_28, mC_27]; omega) (by rw [mcs_28, mS_27]; omega) ?_
    simp only [mcs_28, vpu, Nat.add_zero, Nat.zero_add, Nat.reduceAdd]
    refine R_run 60 ?_
    simp only [run_s, run_0, isc, Bool.or_false, Bool.false_or, Bool.or_true, Bool.true_or, Bool.or_self, cond_false, cond_true, gl, sl, stl, stl2, c2, isw, nf, pf, lnb, tk, true_and, and_true, nsg0, nsg1, Int.cast_ofNat_Int, Int.natCast_zero, Int.natCast_one, zero_z, z_add, z_sub, z_mul, z_neg, cnd_eq, cnd_ne, cnd_lt, cnd_ge, cnd_gt, cnd_le, vok_0, vok_3r, vok_3n, vok_4, Nat.add_zero, Nat.zero_add, Nat.reduceAdd, Nat.reduceSub, Nat.reduceMod, Nat.reduceDiv, Nat.reduceEqDiff, Nat.reduceLeDiff, Nat.reduceMul, Int.reduceNeg, if_true, if_false, ite_true, ite_false, reduceIte, hup_app, Nat.add_left_cancel_iff, Nat.left_eq_add, Nat.add_eq_left, reduceCtorEq, subc_0, subc_1, subc_2, subc_3, subc_4, subc_5, subc_6, subc_7, subc_8, subc_9, subc_10, subc_11, subc_12, sube_2, sube_3, sube_5, sube_8, sube_9, sube_10, rets_ok, sI_aload_n, sI_getfield, sI_goto, sI_iconst, sI_ifCond, sI_iload_n, sI_invokevirtual, sI_ireturn, ix_27_0, ix_27_1, ix_27_2, ix_27_5, ix_27_6, ix_27_9, ix_27_10, ix_27_13, ix_27_16, mC_27, mS_27, mH_27]
    rfl
set_option maxRecDepth 16384 in
theorem sp_31 {n de : Int} (hG : isG h g hs G) (hH : isH h hs W) (hn : W 3 5 = n) (hd : G 7 0 = de) (hn2 : 0 ≤ n ∧ n ≤ 28) (hd2 : 0 ≤ de ∧ de ≤ 28) (hdr : W 3 3 = 0 ∨ W 3 3 = 1) : Sp E (d + 1) 31 [.ref g] h sz (rets (some (.int (z (if W 3 3 = 1 ∧ de < n then 1 else 0)))) h sz) := by
  obtain ⟨h0, h1, h2, h3, h4⟩ := hG
  obtain ⟨w0, w1, w2, w3⟩ := hH
  refine ⟨mi_31, mt_31, Nat.le_of_ble_eq_true rfl, ?_⟩
  change Rr _ _ _ _ mi_31 _ 0 [some (.ref g)] [] _ _ 0 0
  refine R_run 60 ?_
  simp only [run_s, run_0, isc, Bool.or_false, Bool.false_or, Bool.or_true, Bool.true_or, Bool.or_self, cond_false, cond_true, gl, sl, stl, stl2, c2, isw, nf, pf, lnb, tk, true_and, and_true, nsg0, nsg1, Int.cast_ofNat_Int, Int.natCast_zero, Int.natCast_one, zero_z, z_add, z_sub, z_mul, z_neg, cnd_eq, cnd_ne, cnd_lt, cnd_ge, cnd_gt, cnd_le, vok_0, vok_3r, vok_3n, vok_4, Nat.add_zero, Nat.zero_add, Nat.reduceAdd, Nat.reduceSub, Nat.reduceMod, Nat.reduceDiv, Nat.reduceEqDiff, Nat.reduceLeDiff, Nat.reduceMul, Int.reduceNeg, if_true, if_false, ite_true, ite_false, reduceIte, hup_app, Nat.add_left_cancel_iff, Nat.left_eq_add, Nat.add_eq_left, reduceCtorEq, subc_0, subc_1, subc_2, subc_3, subc_4, subc_5, subc_6, subc_7, subc_8, subc_9, subc_10, subc_11, subc_12, sube_2, sube_3, sube_5, sube_8, sube_9, sube_10, rets_ok, sI_aload_n, sI_getfield, sI_goto, sI_iconst, sI_ifCond, sI_if_icmp, sI_ireturn, ix_31_0, ix_31_1, ix_31_4, ix_31_7, ix_31_10, ix_31_11, ix_31_14, ix_31_15, ix_31_18, ix_31_21, ix_31_24, ix_31_25, ix_31_28, ix_31_29, mC_31, mS_31, mH_31, h0, w0, GB, HB, hn, hd, vok_z1 (Or.inr rfl), vok_z1 (Or.inl rfl)]
  simp (disch := omega) only [z_lt, z_le, z_eq, z_in, z_nat, Int.toNat_natCast, upd_z, z_l, zl_0, zl_add, zl_sub, zl_mul, zl_i, zl_eq, zl_div, Int.reduceLT, Int.reduceLE, Int.reduceToNat, Nat.reduceAdd, Nat.reduceLeDiff, not_false_eq_true, true_and, and_true]
  refine ⟨fun q => ?_, fun q => ⟨fun q2 => ?_, fun q2 => ?_⟩⟩
  · rw [if_neg (by omega)]
  · rw [if_neg (by omega)]
  · rw [if_pos (by omega)]
set_option maxRecDepth 16384 in
theorem sp_32 {de : Int} (hG : isG h g hs G) (hd : G 7 0 = de) (hd2 : 0 ≤ de ∧ de < 28) : Sp E (d + 1) 32 [.ref g] h sz (rets (some (.int (z (G 0 de.toNat)))) h sz) := by
  obtain ⟨h0, h1, h2, h3, h4⟩ := hG
  refine ⟨mi_32, mt_32, Nat.le_of_ble_eq_true rfl, ?_⟩
  change Rr _ _ _ _ mi_32 _ 0 [some (.ref g)] [] _ _ 0 0
  refine R_run 60 ?_
  simp only [run_s, run_0, isc, Bool.or_false, Bool.false_or, Bool.or_true, Bool.true_or, Bool.or_self, cond_false, cond_true, gl, sl, stl, stl2, c2, isw, nf, pf, lnb, tk, true_and, and_true, nsg0, nsg1, Int.cast_ofNat_Int, Int.natCast_zero, Int.natCast_one, zero_z, z_add, z_sub, z_mul, z_neg, cnd_eq, cnd_ne, cnd_lt, cnd_ge, cnd_gt, cnd_le, vok_0, vok_3r, vok_3n, vok_4, Nat.add_zero, Nat.zero_add, Nat.reduceAdd, Nat.reduceSub, Nat.reduceMod, Nat.reduceDiv, Nat.reduceEqDiff, Nat.reduceLeDiff, Nat.reduceMul, Int.reduceNeg, if_true, if_false, ite_true, ite_false, reduceIte, hup_app, Nat.add_left_cancel_iff, Nat.left_eq_add, Nat.add_eq_left, reduceCtorEq, subc_0, subc_1, subc_2, subc_3, subc_4, subc_5, subc_6, subc_7, subc_8, subc_9, subc_10, subc_11, subc_12, sube_2, sube_3, sube_5, sube_8, sube_9, sube_10, rets_ok, sI_aload_n, sI_bipush, sI_getfield, sI_goto, sI_iaload, sI_iconst, sI_ifCond, sI_if_icmp, sI_ireturn, ix_32_0, ix_32_1, ix_32_4, ix_32_7, ix_32_8, ix_32_11, ix_32_13, ix_32_16, ix_32_17, ix_32_20, ix_32_21, ix_32_24, ix_32_25, ix_32_28, ix_32_29, mC_32, mS_32, mH_32, h0, h1, GB, hd]
  simp (disch := omega) only [z_lt, z_le, z_eq, z_in, z_nat, Int.toNat_natCast, upd_z, z_l, zl_0, zl_add, zl_sub, zl_mul, zl_i, zl_eq, zl_div, Int.reduceLT, Int.reduceLE, Int.reduceToNat, Nat.reduceAdd, Nat.reduceLeDiff, not_false_eq_true, true_and, and_true]
  exact ⟨fun q => absurd q (by omega), fun q => ⟨fun q2 => absurd q2 (by omega), fun q2 => by omega⟩⟩
end GAME
