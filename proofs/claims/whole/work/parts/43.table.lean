/-! ===== a table: 57 cells; T i is the game i, T 6 holds the purses (row 0) and done, gameCount, clubCoins (row 1); a game's house stands in its row 7 at 11 ===== -/
abbrev TT : Type := Nat → GS
def TB (t : Nat) (ha : Nat → Nat) (T : TT) : Nat → va_E := fun k =>
  if k = 0 then .inr (7, [.int (z (T 6 1 0)), .int (z (T 6 1 1)), .ref (t + 1), .ref (t + 56), .int (z (T 6 1 2))])
  else if k = 1 then .inl (2, 6, .inr (.inr (.inr (.inr fun i => if i < 6 then some (t + 2 + 9 * i) else none))))
  else if k = 56 then .inl (0, 4, .inl fun j => z (T 6 0 j))
  else GB (t + 2 + 9 * ((k - 2) / 9)) (ha (T ((k - 2) / 9) 7 11).toNat) (T ((k - 2) / 9)) ((k - 2) % 9)
def isT (h : AH) (t : Nat) (ha : Nat → Nat) (T : TT) : Prop := ∀ k, k < 57 → h (t + k) = some (TB t ha T k)
section TABLE0
variable {h h' : AH} {t : Nat} {ha : Nat → Nat} {T T' : TT}
theorem isT_0 (k : isT h t ha T) : h t = some (.inr (7, [.int (z (T 6 1 0)), .int (z (T 6 1 1)), .ref (t + 1), .ref (t + 56), .int (z (T 6 1 2))])) := k 0 (by decide)
theorem isT_1 (k : isT h t ha T) : h (t + 1) = some (.inl (2, 6, .inr (.inr (.inr (.inr fun i => if i < 6 then some (t + 2 + 9 * i) else none))))) := k 1 (by decide)
theorem isT_p (k : isT h t ha T) : h (t + 56) = some (.inl (0, 4, .inl fun j => z (T 6 0 j))) := k 56 (by decide)
theorem TB_g {i j : Nat} (hi : i < 6) (hj : j < 9) : TB t ha T (2 + 9 * i + j) = GB (t + 2 + 9 * i) (ha (T i 7 11).toNat) (T i) j := by
  unfold TB
  rw [if_neg (by omega), if_neg (by omega), if_neg (by omega), show (2 + 9 * i + j - 2) / 9 = i by omega, show (2 + 9 * i + j - 2) % 9 = j by omega]
theorem isT_gj (k : isT h t ha T) {i j : Nat} (hi : i < 6) (hj : j < 9) : h (t + 2 + 9 * i + j) = some (GB (t + 2 + 9 * i) (ha (T i 7 11).toNat) (T i) j) := by
  have e := k (2 + 9 * i + j) (by omega)
  rw [TB_g hi hj] at e
  rw [← e]
  congr 1
  omega
theorem isT_g (k : isT h t ha T) {i : Nat} (hi : i < 6) : isG h (t + 2 + 9 * i) (ha (T i 7 11).toNat) (T i) :=
  ⟨isT_gj k hi (j := 0) (by decide), isT_gj k hi (j := 1) (by decide), isT_gj k hi (j := 2) (by decide), isT_gj k hi (j := 3) (by decide), isT_gj k hi (j := 4) (by decide), isT_gj k hi (j := 5) (by decide), isT_gj k hi (j := 6) (by decide), isT_gj k hi (j := 7) (by decide), isT_gj k hi (j := 8) (by decide)⟩
theorem isT_blk : isT (blk h t 57 (TB t ha T)) t ha T := fun _ hk => blk_at hk
theorem isT_eq (k : isT h' t ha T) (hout : ∀ q, q < t ∨ t + 57 ≤ q → h' q = h q) : h' = blk h t 57 (TB t ha T) := blk_eq (fun j hj => k j hj) hout
theorem isT_self (k : isT h t ha T) : blk h t 57 (TB t ha T) = h := blk_self (fun j hj => k j hj)
/- the scalars of a table -/
theorem isT_obj (k : isT h t ha T) (hg : ∀ i, i < 6 → T' i = T i) (hp : T' 6 0 = T 6 0) : hup h t (.inr (7, [.int (z (T' 6 1 0)), .int (z (T' 6 1 1)), .ref (t + 1), .ref (t + 56), .int (z (T' 6 1 2))])) = blk h t 57 (TB t ha T') := by
  refine isT_eq (fun j hj => ?_) (fun q hq => hup_ne _ _ (by omega))
  by_cases h0 : j = 0
  · subst h0
    exact hup_eq _ _ _
  · rw [hup_ne _ _ (by omega), k j hj]
    unfold TB
    rw [if_neg h0, if_neg h0]
    by_cases h1 : j = 1
    · rw [if_pos h1, if_pos h1]
    · rw [if_neg h1, if_neg h1]
      by_cases h2 : j = 56
      · rw [if_pos h2, if_pos h2, hp]
      · rw [if_neg h2, if_neg h2, hg _ (by omega)]
/- its purses -/
theorem isT_pur (k : isT h t ha T) (hg : ∀ i, i < 6 → T' i = T i) (hs : T' 6 1 = T 6 1) : hup h (t + 56) (.inl (0, 4, .inl fun j => z (T' 6 0 j))) = blk h t 57 (TB t ha T') := by
  refine isT_eq (fun j hj => ?_) (fun q hq => hup_ne _ _ (by omega))
  by_cases h2 : j = 56
  · subst h2
    exact hup_eq _ _ _
  · rw [hup_ne _ _ (by omega), k j hj]
    unfold TB
    by_cases h0 : j = 0
    · rw [if_pos h0, if_pos h0, hs]
    · rw [if_neg h0, if_neg h0]
      by_cases h1 : j = 1
      · rw [if_pos h1, if_pos h1]
      · rw [if_neg h1, if_neg h1, if_neg h2, if_neg h2, hg _ (by omega)]
/- one of its games -/
theorem isT_gam {i hs : Nat} {G : GS} (k : isT h t ha T) (hi : i < 6) (hg : ∀ j, j < 6 → j ≠ i → T' j = T j) (hG : T' i = G) (hh : hs = ha (G 7 11).toNat) (hs6 : T' 6 = T 6) : blk h (t + 2 + 9 * i) 9 (GB (t + 2 + 9 * i) hs G) = blk h t 57 (TB t ha T') := by
  refine isT_eq (fun j hj => ?_) (fun q hq => blk_out (by omega))
  by_cases h0 : j = 0
  · subst h0
    rw [blk_out (by omega), k 0 (by decide)]
    unfold TB
    rw [if_pos rfl, if_pos rfl, hs6]
  · by_cases h1 : j = 1
    · subst h1
      rw [blk_out (by omega), k 1 (by decide)]
      unfold TB
      rw [if_neg (by decide), if_pos rfl, if_neg (by decide), if_pos rfl]
    · by_cases h2 : j = 56
      · subst h2
        rw [blk_out (by omega), k 56 (by decide)]
        unfold TB
        rw [if_neg (by decide), if_neg (by decide), if_pos rfl, if_neg (by decide), if_neg (by decide), if_pos rfl, hs6]
      · have ej : j = 2 + 9 * ((j - 2) / 9) + (j - 2) % 9 := by omega
        have hd6 : (j - 2) / 9 < 6 := by omega
        have hm9 : (j - 2) % 9 < 9 := by omega
        generalize (j - 2) / 9 = u at *
        generalize (j - 2) % 9 = v at *
        rw [ej, TB_g hd6 hm9, show t + (2 + 9 * u + v) = t + 2 + 9 * u + v by omega]
        by_cases hu : u = i
        · subst hu
          rw [blk_at hm9, hG, hh]
        · rw [blk_out (by omega), isT_gj k hd6 hm9, hg u hd6 hu]
theorem isT_out {a n : Nat} {F : Nat → va_E} (k : isT h t ha T) (hd : t + 57 ≤ a ∨ a + n ≤ t) : isT (blk h a n F) t ha T := fun j hj => by rw [blk_out (by omega)]; exact k j hj
def tS (T : TT) (k : Nat) (v : Int) : TT := fun i => if i = 6 then sr (T 6) 1 (st1 (T 6 1) k v) else T i
def tP (T : TT) (f : Nat → Int) : TT := fun i => if i = 6 then sr (T 6) 0 f else T i
def tG (T : TT) (i : Nat) (G : GS) : TT := fun j => if j = i then G else T j
theorem tS_g {i k : Nat} {v : Int} (hi : i < 6) : tS T k v i = T i := if_neg (by omega)
theorem tS_6 {k : Nat} {v : Int} : tS T k v 6 = sr (T 6) 1 (st1 (T 6 1) k v) := if_pos rfl
theorem tS_p {k : Nat} {v : Int} : tS T k v 6 0 = T 6 0 := rfl
theorem tS_s {k : Nat} {v : Int} : tS T k v 6 1 = st1 (T 6 1) k v := rfl
theorem tP_g {i : Nat} {f : Nat → Int} (hi : i < 6) : tP T f i = T i := if_neg (by omega)
theorem tP_p {f : Nat → Int} : tP T f 6 0 = f := rfl
theorem tP_s {f : Nat → Int} : tP T f 6 1 = T 6 1 := rfl
theorem tG_6 {i : Nat} {G : GS} (hi : i < 6) : tG T i G 6 = T 6 := if_neg (by omega)
theorem tG_i {i : Nat} {G : GS} : tG T i G i = G := if_pos rfl
theorem tG_n {i j : Nat} {G : GS} (hj : j ≠ i) : tG T i G j = T j := if_neg hj
theorem isT_tS (k : isT h t ha T) {i : Nat} {v : Int} : hup h t (.inr (7, [.int (z (st1 (T 6 1) i v 0)), .int (z (st1 (T 6 1) i v 1)), .ref (t + 1), .ref (t + 56), .int (z (st1 (T 6 1) i v 2))])) = blk h t 57 (TB t ha (tS T i v)) := isT_obj k (fun _ hi => tS_g hi) rfl
theorem isT_tP (k : isT h t ha T) {f : Nat → Int} : hup h (t + 56) (.inl (0, 4, .inl fun j => z (f j))) = blk h t 57 (TB t ha (tP T f)) := isT_pur (T' := tP T f) k (fun _ hi => tP_g hi) rfl
theorem isT_tG (k : isT h t ha T) {i hs : Nat} {G : GS} (hi : i < 6) (hh : hs = ha (G 7 11).toNat) : blk h (t + 2 + 9 * i) 9 (GB (t + 2 + 9 * i) hs G) = blk h t 57 (TB t ha (tG T i G)) := isT_gam k hi (fun _ _ hj => tG_n hj) tG_i hh (tG_6 hi)
/- the bets of a game are a part of it -/
theorem gB_blk {g hs : Nat} {G G' : GS} (k : isG h g hs G) (h0 : G' 0 = G 0) (h1 : G' 1 = G 1) (h2 : G' 2 = G 2) (h7 : ∀ j, j < 9 → G' 7 j = G 7 j) : blk h (g + 4) 5 (BB (g + 4) G') = blk h g 9 (GB g hs G') := by
  obtain ⟨k0, k1, k2, k3, k4⟩ := k
  have hb := isB_blk (h := h) (b := g + 4) (G := G')
  refine isG_eq ⟨?_, ?_, ?_, ?_, hb⟩ (fun q hq => blk_out (by omega))
  · rw [blk_out (by omega), k0]
    unfold GB
    rw [h7 0 (by decide), h7 1 (by decide), h7 2 (by decide), h7 3 (by decide), h7 4 (by decide), h7 5 (by decide), h7 6 (by decide), h7 7 (by decide), h7 8 (by decide)]
  · rw [blk_out (by omega), k1]
    unfold GB
    rw [h0]
  · rw [blk_out (by omega), k2]
    unfold GB
    rw [h1]
  · rw [blk_out (by omega), k3]
    unfold GB
    rw [h2]
/- the house's number, which no cell shows -/
def wiH (G : GS) (v : Int) : GS := sr G 7 (st1 (G 7) 11 v)
theorem GB_wiH (g hs : Nat) (G : GS) (v : Int) : GB g hs (wiH G v) = GB g hs G := by
  funext k
  match k with
  | 0 => rfl
  | 1 => rfl
  | 2 => rfl
  | 3 => rfl
  | 4 => rfl
  | 5 => rfl
  | 6 => rfl
  | 7 => rfl
  | k + 8 => rfl
end TABLE0
section TABLE1
variable {E : EX} {d : Nat} {h : AH} {sz t : Nat} {ha : Nat → Nat} {T : TT} {W : GS}
set_option maxRecDepth 16384 in
theorem sp_57y {k : Nat} {gc : Int} (hT : isT h t ha T) (hg : T 6 1 1 = gc) (hk : (k : Int) < gc) (hk2 : k < 6) (hgc : gc ≤ 6) : Sp E (d + 1) 57 [.ref t, .int (z (k : Int))] h sz (rets (some (.ref (t + 2 + 9 * k))) h sz) := by
  have h0 := isT_0 hT
  have h1 := isT_1 hT
  refine ⟨mi_57, mt_57, Nat.le_of_ble_eq_true rfl, ?_⟩
  change Rr _ _ _ _ mi_57 _ 0 [some (.ref t), some (.int (z (k : Int)))] [] _ _ 0 0
  refine R_run 60 ?_
  simp only [run_s, run_0, isc, Bool.or_false, Bool.false_or, Bool.or_true, Bool.true_or, Bool.or_self, cond_false, cond_true, gl, sl, stl, stl2, c2, isw, nf, pf, lnb, tk, true_and, and_true, nsg0, nsg1, Int.cast_ofNat_Int, Int.natCast_zero, Int.natCast_one, zero_z, z_add, z_sub, z_mul, z_neg, cnd_eq, cnd_ne, cnd_lt, cnd_ge, cnd_gt, cnd_le, vok_0, vok_3r, vok_3n, vok_4, Nat.add_zero, Nat.zero_add, Nat.reduceAdd, Nat.reduceSub, Nat.reduceMod, Nat.reduceDiv, Nat.reduceEqDiff, Nat.reduceLeDiff, Nat.reduceMul, Int.reduceNeg, if_true, if_false, ite_true, ite_false, reduceIte, hup_app, Nat.add_left_cancel_iff, Nat.left_eq_add, Nat.add_eq_left, reduceCtorEq, subc_0, subc_1, subc_2, subc_3, subc_4, subc_5, subc_6, subc_7, subc_8, subc_9, subc_10, subc_11, subc_12, sube_2, sube_3, sube_5, sube_8, sube_9, sube_10, rets_ok, va_rfs, true_or, or_true, or_false, false_or, sI_aaload, sI_aconst_null, sI_aload_n, sI_areturn, sI_bipush, sI_getfield, sI_goto, sI_ifCond, sI_if_icmp, sI_iload_n, ix_57_0, ix_57_1, ix_57_4, ix_57_5, ix_57_6, ix_57_9, ix_57_12, ix_57_13, ix_57_15, ix_57_18, ix_57_19, ix_57_22, ix_57_23, ix_57_24, ix_57_27, ix_57_28, mC_57, mS_57, mH_57, h0, h1, hg]
  simp (disch := omega) only [z_lt, z_le, z_eq, z_in, z_nat, Int.toNat_natCast, upd_z, z_l, zl_0, zl_add, zl_sub, zl_mul, zl_i, zl_eq, zl_div, Int.reduceLT, Int.reduceLE, Int.reduceToNat, Nat.reduceAdd, Nat.reduceLeDiff, not_false_eq_true, true_and, and_true, if_pos, va_rfs]
  repeat' (first | (with_reducible refine ⟨?_, ?_⟩) | (with_reducible intro _))
  all_goals try (first | exact True.intro | with_reducible rfl | exact absurd True.intro (by assumption) | omega | (exfalso; omega) | (rw [if_pos (by omega)]; done) | (rw [if_neg (by omega)]; done))
set_option maxRecDepth 16384 in
theorem sp_57n {k gc : Int} (hT : isT h t ha T) (hg : T 6 1 1 = gc) (hk : -2147483648 ≤ k ∧ k ≤ 2147483647) (hgc : 0 ≤ gc ∧ gc ≤ 6) (hn : k < 0 ∨ gc ≤ k) : Sp E (d + 1) 57 [.ref t, .int (z k)] h sz (rets (some .null) h sz) := by
  have h0 := isT_0 hT
  have h1 := isT_1 hT
  refine ⟨mi_57, mt_57, Nat.le_of_ble_eq_true rfl, ?_⟩
  change Rr _ _ _ _ mi_57 _ 0 [some (.ref t), some (.int (z k))] [] _ _ 0 0
  refine R_run 60 ?_
  simp only [run_s, run_0, isc, Bool.or_false, Bool.false_or, Bool.or_true, Bool.true_or, Bool.or_self, cond_false, cond_true, gl, sl, stl, stl2, c2, isw, nf, pf, lnb, tk, true_and, and_true, nsg0, nsg1, Int.cast_ofNat_Int, Int.natCast_zero, Int.natCast_one, zero_z, z_add, z_sub, z_mul, z_neg, cnd_eq, cnd_ne, cnd_lt, cnd_ge, cnd_gt, cnd_le, vok_0, vok_3r, vok_3n, vok_4, Nat.add_zero, Nat.zero_add, Nat.reduceAdd, Nat.reduceSub, Nat.reduceMod, Nat.reduceDiv, Nat.reduceEqDiff, Nat.reduceLeDiff, Nat.reduceMul, Int.reduceNeg, if_true, if_false, ite_true, ite_false, reduceIte, hup_app, Nat.add_left_cancel_iff, Nat.left_eq_add, Nat.add_eq_left, reduceCtorEq, subc_0, subc_1, subc_2, subc_3, subc_4, subc_5, subc_6, subc_7, subc_8, subc_9, subc_10, subc_11, subc_12, sube_2, sube_3, sube_5, sube_8, sube_9, sube_10, rets_ok, va_rfs, true_or, or_true, or_false, false_or, sI_aaload, sI_aconst_null, sI_aload_n, sI_areturn, sI_bipush, sI_getfield, sI_goto, sI_ifCond, sI_if_icmp, sI_iload_n, ix_57_0, ix_57_1, ix_57_4, ix_57_5, ix_57_6, ix_57_9, ix_57_12, ix_57_13, ix_57_15, ix_57_18, ix_57_19, ix_57_22, ix_57_23, ix_57_24, ix_57_27, ix_57_28, mC_57, mS_57, mH_57, h0, h1, hg]
  simp (disch := omega) only [z_lt, z_le, z_eq, z_in, z_nat, Int.toNat_natCast, upd_z, z_l, zl_0, zl_add, zl_sub, zl_mul, zl_i, zl_eq, zl_div, Int.reduceLT, Int.reduceLE, Int.reduceToNat, Nat.reduceAdd, Nat.reduceLeDiff, not_false_eq_true, true_and, and_true]
  repeat' (first | (with_reducible refine ⟨?_, ?_⟩) | (with_reducible intro _))
  all_goals try (first | exact True.intro | with_reducible rfl | exact absurd True.intro (by assumption) | omega | (exfalso; omega) | (rw [if_pos (by omega)]; done) | (rw [if_neg (by omega)]; done))
set_option maxRecDepth 16384 in
theorem sp_58 {k : Nat} (hT : isT h t ha T) (hk : k < 4) : Sp E (d + 1) 58 [.ref t, .int (z (k : Int))] h sz (rets (some (.int (z (T 6 0 k)))) h sz) := by
  have h0 := isT_0 hT
  have h1 := isT_p hT
  refine ⟨mi_58, mt_58, Nat.le_of_ble_eq_true rfl, ?_⟩
  change Rr _ _ _ _ mi_58 _ 0 [some (.ref t), some (.int (z (k : Int)))] [] _ _ 0 0
  refine R_run 60 ?_
  simp only [run_s, run_0, isc, Bool.or_false, Bool.false_or, Bool.or_true, Bool.true_or, Bool.or_self, cond_false, cond_true, gl, sl, stl, stl2, c2, isw, nf, pf, lnb, tk, true_and, and_true, nsg0, nsg1, Int.cast_ofNat_Int, Int.natCast_zero, Int.natCast_one, zero_z, z_add, z_sub, z_mul, z_neg, cnd_eq, cnd_ne, cnd_lt, cnd_ge, cnd_gt, cnd_le, vok_0, vok_3r, vok_3n, vok_4, Nat.add_zero, Nat.zero_add, Nat.reduceAdd, Nat.reduceSub, Nat.reduceMod, Nat.reduceDiv, Nat.reduceEqDiff, Nat.reduceLeDiff, Nat.reduceMul, Int.reduceNeg, if_true, if_false, ite_true, ite_false, reduceIte, hup_app, Nat.add_left_cancel_iff, Nat.left_eq_add, Nat.add_eq_left, reduceCtorEq, subc_0, subc_1, subc_2, subc_3, subc_4, subc_5, subc_6, subc_7, subc_8, subc_9, subc_10, subc_11, subc_12, sube_2, sube_3, sube_5, sube_8, sube_9, sube_10, rets_ok, va_rfs, true_or, or_true, or_false, false_or, sI_aload_n, sI_getfield, sI_goto, sI_iaload, sI_iconst, sI_ifCond, sI_if_icmp, sI_iload_n, sI_ireturn, ix_58_0, ix_58_1, ix_58_4, ix_58_5, ix_58_6, ix_58_9, ix_58_10, ix_58_13, ix_58_14, ix_58_15, ix_58_18, ix_58_19, mC_58, mS_58, mH_58, h0, h1]
  simp (disch := omega) only [z_lt, z_le, z_eq, z_in, z_nat, Int.toNat_natCast, upd_z, z_l, zl_0, zl_add, zl_sub, zl_mul, zl_i, zl_eq, zl_div, Int.reduceLT, Int.reduceLE, Int.reduceToNat, Nat.reduceAdd, Nat.reduceLeDiff, not_false_eq_true, true_and, and_true]
  repeat' (first | (with_reducible refine ⟨?_, ?_⟩) | (with_reducible intro _))
  all_goals try (first | exact True.intro | with_reducible rfl | exact absurd True.intro (by assumption) | omega | (exfalso; omega) | (rw [if_pos (by omega)]; done) | (rw [if_neg (by omega)]; done))
set_option maxRecDepth 16384 in
theorem sp_59 {k : Nat} {v : Int} (hT : isT h t ha T) (hk : k < 4) : Sp E (d + 1) 59 [.ref t, .int (z (k : Int)), .int (z v)] h sz (rets none (blk h t 57 (TB t ha (tP T (st1 (T 6 0) k (T 6 0 k + v))))) sz) := by
  have h0 := isT_0 hT
  have h1 := isT_p hT
  refine ⟨mi_59, mt_59, Nat.le_of_ble_eq_true rfl, ?_⟩
  change Rr _ _ _ _ mi_59 _ 0 [some (.ref t), some (.int (z (k : Int))), some (.int (z v))] [] _ _ 0 0
  refine R_run 60 ?_
  simp only [run_s, run_0, isc, Bool.or_false, Bool.false_or, Bool.or_true, Bool.true_or, Bool.or_self, cond_false, cond_true, gl, sl, stl, stl2, c2, isw, nf, pf, lnb, tk, true_and, and_true, nsg0, nsg1, Int.cast_ofNat_Int, Int.natCast_zero, Int.natCast_one, zero_z, z_add, z_sub, z_mul, z_neg, cnd_eq, cnd_ne, cnd_lt, cnd_ge, cnd_gt, cnd_le, vok_0, vok_3r, vok_3n, vok_4, Nat.add_zero, Nat.zero_add, Nat.reduceAdd, Nat.reduceSub, Nat.reduceMod, Nat.reduceDiv, Nat.reduceEqDiff, Nat.reduceLeDiff, Nat.reduceMul, Int.reduceNeg, if_true, if_false, ite_true, ite_false, reduceIte, hup_app, Nat.add_left_cancel_iff, Nat.left_eq_add, Nat.add_eq_left, reduceCtorEq, subc_0, subc_1, subc_2, subc_3, subc_4, subc_5, subc_6, subc_7, subc_8, subc_9, subc_10, subc_11, subc_12, sube_2, sube_3, sube_5, sube_8, sube_9, sube_10, rets_ok, va_rfs, true_or, or_true, or_false, false_or, sI_aload_n, sI_dup2, sI_getfield, sI_iadd, sI_iaload, sI_iastore, sI_iconst, sI_ifCond, sI_if_icmp, sI_iload_n, sI_return_, ix_59_0, ix_59_1, ix_59_4, ix_59_5, ix_59_6, ix_59_9, ix_59_10, ix_59_13, ix_59_14, ix_59_15, ix_59_16, ix_59_17, ix_59_18, ix_59_19, mC_59, mS_59, mH_59, h0, h1]
  simp (disch := omega) only [z_lt, z_le, z_eq, z_in, z_nat, Int.toNat_natCast, upd_z, z_l, zl_0, zl_add, zl_sub, zl_mul, zl_i, zl_eq, zl_div, Int.reduceLT, Int.reduceLE, Int.reduceToNat, Nat.reduceAdd, Nat.reduceLeDiff, not_false_eq_true, true_and, and_true]
  repeat' (first | (with_reducible refine ⟨?_, ?_⟩) | (with_reducible intro _))
  all_goals try (first | exact True.intro | with_reducible rfl | exact absurd True.intro (by assumption) | omega | (exfalso; omega) | (rw [if_pos (by omega)]; done) | (rw [if_neg (by omega)]; done) | exact isT_tP hT)
set_option maxRecDepth 16384 in
theorem sp_61 {gc : Nat} (hT : isT h t ha T) (hg : T 6 1 1 = gc) (hgc : gc < 6) : Sp E (d + 1) 61 [.ref t] h sz (rets (some (.ref (t + 2 + 9 * gc))) (blk h t 57 (TB t ha (tS T 1 ((gc : Int) + 1)))) sz) := by
  have h0 := isT_0 hT
  have h1 := isT_1 hT
  refine ⟨mi_61, mt_61, Nat.le_of_ble_eq_true rfl, ?_⟩
  change Rr _ _ _ _ mi_61 _ 0 [some (.ref t)] [] _ _ 0 0
  have e1 : ((gc : Int) + 1 - 1).toNat = gc := by omega
  refine R_run 60 ?_
  simp only [run_s, run_0, isc, Bool.or_false, Bool.false_or, Bool.or_true, Bool.true_or, Bool.or_self, cond_false, cond_true, gl, sl, stl, stl2, c2, isw, nf, pf, lnb, tk, true_and, and_true, nsg0, nsg1, Int.cast_ofNat_Int, Int.natCast_zero, Int.natCast_one, zero_z, z_add, z_sub, z_mul, z_neg, cnd_eq, cnd_ne, cnd_lt, cnd_ge, cnd_gt, cnd_le, vok_0, vok_3r, vok_3n, vok_4, Nat.add_zero, Nat.zero_add, Nat.reduceAdd, Nat.reduceSub, Nat.reduceMod, Nat.reduceDiv, Nat.reduceEqDiff, Nat.reduceLeDiff, Nat.reduceMul, Int.reduceNeg, if_true, if_false, ite_true, ite_false, reduceIte, hup_app, Nat.add_left_cancel_iff, Nat.left_eq_add, Nat.add_eq_left, reduceCtorEq, subc_0, subc_1, subc_2, subc_3, subc_4, subc_5, subc_6, subc_7, subc_8, subc_9, subc_10, subc_11, subc_12, sube_2, sube_3, sube_5, sube_8, sube_9, sube_10, rets_ok, va_rfs, true_or, or_true, or_false, false_or, sI_aaload, sI_aconst_null, sI_aload_n, sI_areturn, sI_bipush, sI_dup, sI_getfield, sI_iadd, sI_iconst, sI_ifCond, sI_if_icmp, sI_isub, sI_putfield, ix_61_0, ix_61_1, ix_61_4, ix_61_7, ix_61_8, ix_61_11, ix_61_13, ix_61_16, ix_61_17, ix_61_18, ix_61_19, ix_61_20, ix_61_23, ix_61_24, ix_61_25, ix_61_28, ix_61_29, ix_61_32, ix_61_33, ix_61_36, ix_61_37, ix_61_38, ix_61_39, mC_61, mS_61, mH_61, h0, h1, hg]
  simp (disch := omega) only [z_lt, z_le, z_eq, z_in, z_nat, Int.toNat_natCast, upd_z, z_l, zl_0, zl_add, zl_sub, zl_mul, zl_i, zl_eq, zl_div, Int.reduceLT, Int.reduceLE, Int.reduceToNat, Nat.reduceAdd, Nat.reduceLeDiff, not_false_eq_true, true_and, and_true, e1, if_pos, va_rfs]
  have e2 : hup h t (.inr (7, [.int (z (T 6 1 0)), .int (z ((gc : Int) + 1)), .ref (t + 1), .ref (t + 56), .int (z (T 6 1 2))])) = blk h t 57 (TB t ha (tS T 1 ((gc : Int) + 1))) := isT_tS (i := 1) (v := (gc : Int) + 1) hT
  repeat' (first | (with_reducible refine ⟨?_, ?_⟩) | (with_reducible intro _))
  all_goals try (first | exact True.intro | with_reducible rfl | exact absurd True.intro (by assumption) | omega | (exfalso; omega) | (rw [if_pos (by omega)]; done) | (rw [if_neg (by omega)]; done) | exact e2)
/- payments are moved, one behind the other -/
def mvP (P bt py : Nat → Int) (s : Int) : Nat → Nat → Int
  | 0 => P
  | k + 1 => st1 (mvP P bt py s k) (bt k).toNat (mvP P bt py s k (bt k).toNat + s * py k)
theorem tP_tP (f g : Nat → Int) : tP (tP T f) g = tP T g := by
  funext i
  unfold tP
  by_cases hi : i = 6
  · subst hi
    simp only [if_true]
    funext r
    unfold sr
    by_cases h0 : r = 0
    · rw [if_pos h0, if_pos h0]
    · rw [if_neg h0, if_neg h0, if_neg h0]
  · rw [if_neg hi, if_neg hi, if_neg hi]
set_option maxRecDepth 16384 in
theorem sp_65 {n i : Nat} {s : Int} {G : GS} (hT : isT h t ha T) (hi : i < 6) (hG : T i = G) (hn : G 7 9 = n) (hn2 : n ≤ 10) (hb : ∀ k, k < n → 0 ≤ G 3 k ∧ G 3 k < 4) : Sp E (d + 2) 65 [.ref t, .ref (t + 2 + 9 * i), .int (z s)] h sz (rets none (blk h t 57 (TB t ha (tP T (mvP (T 6 0) (G 3) (G 6) s n)))) sz) := by
  have e00 : h = blk h t 57 (TB t ha (tP T (mvP (T 6 0) (G 3) (G 6) s 0))) := by
    refine (Eq.trans ?_ (isT_self hT)).symm
    refine blk_cong (fun k hk => ?_)
    have : tP T (mvP (T 6 0) (G 3) (G 6) s 0) = T := by
      funext i
      unfold tP
      by_cases hi : i = 6
      · subst hi
        rw [if_pos rfl]
        funext r
        unfold sr
        by_cases h0 : r = 0
        · subst h0
          rfl
        · rw [if_neg h0]
      · rw [if_neg hi]
    rw [this]
  refine ⟨mi_65, mt_65, Nat.le_of_ble_eq_true rfl, ?_⟩
  change Rr _ _ _ _ mi_65 _ 0 [some (.ref t), some (.ref (t + 2 + 9 * i)), some (.int (z s)), none] [] _ _ 0 0
  refine R_run 60 ?_
  simp only [run_s, run_0, isc, Bool.or_false, Bool.false_or, Bool.or_true, Bool.true_or, Bool.or_self, cond_false, cond_true, gl, sl, stl, stl2, c2, isw, nf, pf, lnb, tk, true_and, and_true, nsg0, nsg1, Int.cast_ofNat_Int, Int.natCast_zero, Int.natCast_one, zero_z, z_add, z_sub, z_mul, z_neg, cnd_eq, cnd_ne, cnd_lt, cnd_ge, cnd_gt, cnd_le, vok_0, vok_3r, vok_3n, vok_4, Nat.add_zero, Nat.zero_add, Nat.reduceAdd, Nat.reduceSub, Nat.reduceMod, Nat.reduceDiv, Nat.reduceEqDiff, Nat.reduceLeDiff, Nat.reduceMul, Int.reduceNeg, if_true, if_false, ite_true, ite_false, reduceIte, hup_app, Nat.add_left_cancel_iff, Nat.left_eq_add, Nat.add_eq_left, reduceCtorEq, subc_0, subc_1, subc_2, subc_3, subc_4, subc_5, subc_6, subc_7, subc_8, subc_9, subc_10, subc_11, subc_12, sube_2, sube_3, sube_5, sube_8, sube_9, sube_10, rets_ok, va_rfs, true_or, or_true, or_false, false_or, sI_aload_n, sI_getfield, sI_goto, sI_iconst, sI_if_icmp, sI_iinc, sI_iload_n, sI_imul, sI_invokevirtual, sI_istore_n, sI_return_, ix_65_0, ix_65_1, ix_65_2, ix_65_3, ix_65_4, ix_65_7, ix_65_10, ix_65_13, ix_65_14, ix_65_15, ix_65_18, ix_65_19, ix_65_22, ix_65_23, ix_65_24, ix_65_27, ix_65_28, ix_65_31, ix_65_32, ix_65_35, ix_65_38, ix_65_41, mC_65, mS_65, mH_65]
  refine R_heap e00 ?_
  refine loop_up (P := fun k => Rr E (mcsT mtab) (Sp E (d + 1)) (d + 1) mi_65 (rets none (blk h t 57 (TB t ha (tP T (mvP (T 6 0) (G 3) (G 6) s n)))) sz) 2 [some (.ref t), some (.ref (t + 2 + 9 * i)), some (.int (z s)), some (.int (z (k : Int)))] [] (blk h t 57 (TB t ha (tP T (mvP (T 6 0) (G 3) (G 6) s k)))) sz 0 0) (n := n) ?_ (fun k hk ih => ?_) 0 (Nat.zero_le _)
  all_goals
    clear e00
    have gT : ∀ k, isG (blk h t 57 (TB t ha (tP T (mvP (T 6 0) (G 3) (G 6) s k)))) (t + 2 + 9 * i) (ha (G 7 11).toNat) G := by
      intro k
      have h9 := isT_g (isT_blk (h := h) (t := t) (ha := ha) (T := tP T (mvP (T 6 0) (G 3) (G 6) s k))) hi
      rw [tP_g hi, hG] at h9
      exact h9
  · obtain ⟨g0, g1, g2, g3, g4, g5, g6, g7, g8⟩ := isG_f (gT n)
    refine R_hd ix_65_2 60 ?_
    simp only [run_s, run_0, isc, Bool.or_false, Bool.false_or, Bool.or_true, Bool.true_or, Bool.or_self, cond_false, cond_true, gl, sl, stl, stl2, c2, isw, nf, pf, lnb, tk, true_and, and_true, nsg0, nsg1, Int.cast_ofNat_Int, Int.natCast_zero, Int.natCast_one, zero_z, z_add, z_sub, z_mul, z_neg, cnd_eq, cnd_ne, cnd_lt, cnd_ge, cnd_gt, cnd_le, vok_0, vok_3r, vok_3n, vok_4, Nat.add_zero, Nat.zero_add, Nat.reduceAdd, Nat.reduceSub, Nat.reduceMod, Nat.reduceDiv, Nat.reduceEqDiff, Nat.reduceLeDiff, Nat.reduceMul, Int.reduceNeg, if_true, if_false, ite_true, ite_false, reduceIte, hup_app, Nat.add_left_cancel_iff, Nat.left_eq_add, Nat.add_eq_left, reduceCtorEq, subc_0, subc_1, subc_2, subc_3, subc_4, subc_5, subc_6, subc_7, subc_8, subc_9, subc_10, subc_11, subc_12, sube_2, sube_3, sube_5, sube_8, sube_9, sube_10, rets_ok, va_rfs, true_or, or_true, or_false, false_or, sI_aload_n, sI_getfield, sI_goto, sI_iconst, sI_if_icmp, sI_iinc, sI_iload_n, sI_imul, sI_invokevirtual, sI_istore_n, sI_return_, ix_65_0, ix_65_1, ix_65_2, ix_65_3, ix_65_4, ix_65_7, ix_65_10, ix_65_13, ix_65_14, ix_65_15, ix_65_18, ix_65_19, ix_65_22, ix_65_23, ix_65_24, ix_65_27, ix_65_28, ix_65_31, ix_65_32, ix_65_35, ix_65_38, ix_65_41, mC_65, mS_65, mH_65, g0, g4, GB, BB, hn]
    simp (disch := omega) only [z_lt, z_le, z_eq, z_in, z_nat, Int.toNat_natCast, upd_z, z_l, zl_0, zl_add, zl_sub, zl_mul, zl_i, zl_eq, zl_div, Int.reduceLT, Int.reduceLE, Int.reduceToNat, Nat.reduceAdd, Nat.reduceLeDiff, not_false_eq_true, true_and, and_true]
    repeat' (first | (with_reducible refine ⟨?_, ?_⟩) | (with_reducible intro _))
    all_goals try (first | exact True.intro | with_reducible rfl | exact absurd True.intro (by assumption) | omega | (exfalso; omega) | (rw [if_pos (by omega)]; done) | (rw [if_neg (by omega)]; done))
  · obtain ⟨g0, g1, g2, g3, gb⟩ := gT k
    obtain ⟨g4, g5, g6, g7, g8⟩ := id gb
    have bk := hb k hk
    have s6 := sp_6 (E := E) (d := d) (sz := sz) gb (k := (k : Int)) (by omega) (by omega)
    have s7 := sp_7 (E := E) (d := d) (sz := sz) gb (k := (k : Int)) (by omega) (by omega)
    rw [Int.toNat_natCast] at s6 s7
    rw [show G 3 k = (((G 3 k).toNat : Nat) : Int) by omega] at s6
    have s59 := sp_59 (E := E) (d := d) (sz := sz) (v := s * G 6 k) (isT_blk (h := h) (t := t) (ha := ha) (T := tP T (mvP (T 6 0) (G 3) (G 6) s k))) (k := (G 3 k).toNat) (by omega)
    rw [blk_blk, tP_tP, tP_p] at s59
    have hT0 := isT_0 (isT_blk (h := h) (t := t) (ha := ha) (T := tP T (mvP (T 6 0) (G 3) (G 6) s k)))
    refine R_hd ix_65_2 60 ?_
    simp only [run_s, run_0, isc, Bool.or_false, Bool.false_or, Bool.or_true, Bool.true_or, Bool.or_self, cond_false, cond_true, gl, sl, stl, stl2, c2, isw, nf, pf, lnb, tk, true_and, and_true, nsg0, nsg1, Int.cast_ofNat_Int, Int.natCast_zero, Int.natCast_one, zero_z, z_add, z_sub, z_mul, z_neg, cnd_eq, cnd_ne, cnd_lt, cnd_ge, cnd_gt, cnd_le, vok_0, vok_3r, vok_3n, vok_4, Nat.add_zero, Nat.zero_add, Nat.reduceAdd, Nat.reduceSub, Nat.reduceMod, Nat.reduceDiv, Nat.reduceEqDiff, Nat.reduceLeDiff, Nat.reduceMul, Int.reduceNeg, if_true, if_false, ite_true, ite_false, reduceIte, hup_app, Nat.add_left_cancel_iff, Nat.left_eq_add, Nat.add_eq_left, reduceCtorEq, subc_0, subc_1, subc_2, subc_3, subc_4, subc_5, subc_6, subc_7, subc_8, subc_9, subc_10, subc_11, subc_12, sube_2, sube_3, sube_5, sube_8, sube_9, sube_10, rets_ok, va_rfs, true_or, or_true, or_false, false_or, sI_aload_n, sI_getfield, sI_goto, sI_iconst, sI_if_icmp, sI_iinc, sI_iload_n, sI_imul, sI_invokevirtual, sI_istore_n, sI_return_, ix_65_0, ix_65_1, ix_65_2, ix_65_3, ix_65_4, ix_65_7, ix_65_10, ix_65_13, ix_65_14, ix_65_15, ix_65_18, ix_65_19, ix_65_22, ix_65_23, ix_65_24, ix_65_27, ix_65_28, ix_65_31, ix_65_32, ix_65_35, ix_65_38, ix_65_41, mC_65, mS_65, mH_65, g0, g4, GB, BB, hn]
    simp (disch := omega) only [z_lt, z_le, z_eq, z_in, z_nat, Int.toNat_natCast, upd_z, z_l, zl_0, zl_add, zl_sub, zl_mul, zl_i, zl_eq, zl_div, Int.reduceLT, Int.reduceLE, Int.reduceToNat, Nat.reduceAdd, Nat.reduceLeDiff, not_false_eq_true, true_and, and_true]
    refine ⟨fun q => absurd q (by omega), fun _ => ?_⟩
    refine R_cV ix_65_19 (by decide) (by decide) rfl g4 rfl (s6) (Nat.le_of_ble_eq_true rfl) (by rw [mcs_6, mC_65]; omega) (by rw [mcs_6, mS_65]; omega) ?_
    simp only [mcs_6, vpu, Nat.add_zero, Nat.zero_add, Nat.reduceAdd]
    refine R_run 60 ?_
    simp only [run_s, run_0, isc, Bool.or_false, Bool.false_or, Bool.or_true, Bool.true_or, Bool.or_self, cond_false, cond_true, gl, sl, stl, stl2, c2, isw, nf, pf, lnb, tk, true_and, and_true, nsg0, nsg1, Int.cast_ofNat_Int, Int.natCast_zero, Int.natCast_one, zero_z, z_add, z_sub, z_mul, z_neg, cnd_eq, cnd_ne, cnd_lt, cnd_ge, cnd_gt, cnd_le, vok_0, vok_3r, vok_3n, vok_4, Nat.add_zero, Nat.zero_add, Nat.reduceAdd, Nat.reduceSub, Nat.reduceMod, Nat.reduceDiv, Nat.reduceEqDiff, Nat.reduceLeDiff, Nat.reduceMul, Int.reduceNeg, if_true, if_false, ite_true, ite_false, reduceIte, hup_app, Nat.add_left_cancel_iff, Nat.left_eq_add, Nat.add_eq_left, reduceCtorEq, subc_0, subc_1, subc_2, subc_3, subc_4, subc_5, subc_6, subc_7, subc_8, subc_9, subc_10, subc_11, subc_12, sube_2, sube_3, sube_5, sube_8, sube_9, sube_10, rets_ok, va_rfs, true_or, or_true, or_false, false_or, sI_aload_n, sI_getfield, sI_goto, sI_iconst, sI_if_icmp, sI_iinc, sI_iload_n, sI_imul, sI_invokevirtual, sI_istore_n, sI_return_, ix_65_0, ix_65_1, ix_65_2, ix_65_3, ix_65_4, ix_65_7, ix_65_10, ix_65_13, ix_65_14, ix_65_15, ix_65_18, ix_65_19, ix_65_22, ix_65_23, ix_65_24, ix_65_27, ix_65_28, ix_65_31, ix_65_32, ix_65_35, ix_65_38, ix_65_41, mC_65, mS_65, mH_65, g0, g4, GB, BB]
    refine R_cV ix_65_28 (by decide) (by decide) rfl g4 rfl (s7) (Nat.le_of_ble_eq_true rfl) (by rw [mcs_7, mC_65]; omega) (by rw [mcs_7, mS_65]; omega) ?_
    simp only [mcs_7, vpu, Nat.add_zero, Nat.zero_add, Nat.reduceAdd]
    refine R_run 60 ?_
    simp only [run_s, run_0, isc, Bool.or_false, Bool.false_or, Bool.or_true, Bool.true_or, Bool.or_self, cond_false, cond_true, gl, sl, stl, stl2, c2, isw, nf, pf, lnb, tk, true_and, and_true, nsg0, nsg1, Int.cast_ofNat_Int, Int.natCast_zero, Int.natCast_one, zero_z, z_add, z_sub, z_mul, z_neg, cnd_eq, cnd_ne, cnd_lt, cnd_ge, cnd_gt, cnd_le, vok_0, vok_3r, vok_3n, vok_4, Nat.add_zero, Nat.zero_add, Nat.reduceAdd, Nat.reduceSub, Nat.reduceMod, Nat.reduceDiv, Nat.reduceEqDiff, Nat.reduceLeDiff, Nat.reduceMul, Int.reduceNeg, if_true, if_false, ite_true, ite_false, reduceIte, hup_app, Nat.add_left_cancel_iff, Nat.left_eq_add, Nat.add_eq_left, reduceCtorEq, subc_0, subc_1, subc_2, subc_3, subc_4, subc_5, subc_6, subc_7, subc_8, subc_9, subc_10, subc_11, subc_12, sube_2, sube_3, sube_5, sube_8, sube_9, sube_10, rets_ok, va_rfs, true_or, or_true, or_false, false_or, sI_aload_n, sI_getfield, sI_goto, sI_iconst, sI_if_icmp, sI_iinc, sI_iload_n, sI_imul, sI_invokevirtual, sI_istore_n, sI_return_, ix_65_0, ix_65_1, ix_65_2, ix_65_3, ix_65_4, ix_65_7, ix_65_10, ix_65_13, ix_65_14, ix_65_15, ix_65_18, ix_65_19, ix_65_22, ix_65_23, ix_65_24, ix_65_27, ix_65_28, ix_65_31, ix_65_32, ix_65_35, ix_65_38, ix_65_41, mC_65, mS_65, mH_65]
    refine R_cV ix_65_32 (by decide) (by decide) rfl hT0 rfl (s59) (Nat.le_of_ble_eq_true rfl) (by rw [mcs_59, mC_65]; omega) (by rw [mcs_59, mS_65]; omega) ?_
    simp only [mcs_59, vpu, Nat.add_zero, Nat.zero_add, Nat.reduceAdd]
    refine R_run 60 ?_
    simp only [run_s, run_0, isc, Bool.or_false, Bool.false_or, Bool.or_true, Bool.true_or, Bool.or_self, cond_false, cond_true, gl, sl, stl, stl2, c2, isw, nf, pf, lnb, tk, true_and, and_true, nsg0, nsg1, Int.cast_ofNat_Int, Int.natCast_zero, Int.natCast_one, zero_z, z_add, z_sub, z_mul, z_neg, cnd_eq, cnd_ne, cnd_lt, cnd_ge, cnd_gt, cnd_le, vok_0, vok_3r, vok_3n, vok_4, Nat.add_zero, Nat.zero_add, Nat.reduceAdd, Nat.reduceSub, Nat.reduceMod, Nat.reduceDiv, Nat.reduceEqDiff, Nat.reduceLeDiff, Nat.reduceMul, Int.reduceNeg, if_true, if_false, ite_true, ite_false, reduceIte, hup_app, Nat.add_left_cancel_iff, Nat.left_eq_add, Nat.add_eq_left, reduceCtorEq, subc_0, subc_1, subc_2, subc_3, subc_4, subc_5, subc_6, subc_7, subc_8, subc_9, subc_10, subc_11, subc_12, sube_2, sube_3, sube_5, sube_8, sube_9, sube_10, rets_ok, va_rfs, true_or, or_true, or_false, false_or, sI_aload_n, sI_getfield, sI_goto, sI_iconst, sI_if_icmp, sI_iinc, sI_iload_n, sI_imul, sI_invokevirtual, sI_istore_n, sI_return_, ix_65_0, ix_65_1, ix_65_2, ix_65_3, ix_65_4, ix_65_7, ix_65_10, ix_65_13, ix_65_14, ix_65_15, ix_65_18, ix_65_19, ix_65_22, ix_65_23, ix_65_24, ix_65_27, ix_65_28, ix_65_31, ix_65_32, ix_65_35, ix_65_38, ix_65_41, mC_65, mS_65, mH_65]
    rw [show ((k + 1 : Nat) : Int) = (k : Int) + 1 by omega] at ih
    exact ih
end TABLE1
