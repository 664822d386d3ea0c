theorem subc_0 : (subc 0 0 = true) = True := eq_true rfl
theorem subc_1 : (subc 1 1 = true) = True := eq_true rfl
theorem subc_2 : (subc 2 2 = true) = True := eq_true rfl
theorem subc_3 : (subc 3 3 = true) = True := eq_true rfl
theorem subc_4 : (subc 4 4 = true) = True := eq_true rfl
theorem subc_5 : (subc 5 5 = true) = True := eq_true rfl
theorem subc_6 : (subc 6 6 = true) = True := eq_true rfl
theorem subc_7 : (subc 7 7 = true) = True := eq_true rfl
theorem subc_8 : (subc 8 8 = true) = True := eq_true rfl
theorem subc_9 : (subc 9 9 = true) = True := eq_true rfl
theorem subc_10 : (subc 10 10 = true) = True := eq_true rfl
theorem subc_11 : (subc 11 11 = true) = True := eq_true rfl
theorem subc_12 : (subc 12 12 = true) = True := eq_true rfl
theorem sube_2 : (subc 50 2 = true) = True := eq_true rfl
theorem sube_3 : (subc 50 3 = true) = True := eq_true rfl
theorem sube_5 : (subc 50 5 = true) = True := eq_true rfl
theorem sube_8 : (subc 50 8 = true) = True := eq_true rfl
theorem sube_9 : (subc 50 9 = true) = True := eq_true rfl
theorem sube_10 : (subc 50 10 = true) = True := eq_true rfl
theorem hup_app (h : AH) (a : Nat) (e : va_E) (q : Nat) : hup h a e q = if q = a then some e else h q := rfl
/-- a block of n cells from a on -/
def blk (h : AH) (a n : Nat) (F : Nat → va_E) : AH := fun q => if a ≤ q ∧ q < a + n then some (F (q - a)) else h q
theorem blk_at {h : AH} {a n : Nat} {F : Nat → va_E} {k : Nat} (hk : k < n) : blk h a n F (a + k) = some (F k) := by
  unfold blk
  rw [if_pos ⟨Nat.le_add_right _ _, by omega⟩, Nat.add_sub_cancel_left]
theorem blk_out {h : AH} {a n : Nat} {F : Nat → va_E} {q : Nat} (hq : q < a ∨ a + n ≤ q) : blk h a n F q = h q := by
  unfold blk
  rw [if_neg (by omega)]
theorem blk_hup {h : AH} {a n : Nat} {F : Nat → va_E} {k : Nat} {c : va_E} (hk : k < n) : hup (blk h a n F) (a + k) c = blk h a n (fun j => if j = k then c else F j) := by
  funext q
  unfold hup blk
  by_cases h1 : q = a + k
  · subst h1
    simp [hk]
  · rw [if_neg h1]
    by_cases h2 : a ≤ q ∧ q < a + n
    · rw [if_pos h2, if_pos h2]
      dsimp only
      rw [if_neg (by omega)]
    · rw [if_neg h2, if_neg h2]
theorem blk_hup0 {h : AH} {a n : Nat} {F : Nat → va_E} {c : va_E} (hk : 0 < n) : hup (blk h a n F) a c = blk h a n (fun j => if j = 0 then c else F j) := blk_hup (k := 0) hk
theorem blk_self {h : AH} {a n : Nat} {F : Nat → va_E} (hh : ∀ k, k < n → h (a + k) = some (F k)) : blk h a n F = h := by
  funext q
  unfold blk
  by_cases h2 : a ≤ q ∧ q < a + n
  · rw [if_pos h2, ← hh (q - a) (by omega), Nat.add_sub_cancel' h2.1]
  · rw [if_neg h2]
theorem blk_blk {h : AH} {a n : Nat} {F G : Nat → va_E} : blk (blk h a n F) a n G = blk h a n G := by
  funext q
  unfold blk
  by_cases h2 : a ≤ q ∧ q < a + n
  · rw [if_pos h2, if_pos h2]
  · rw [if_neg h2, if_neg h2, if_neg h2]
theorem blk_cong {h : AH} {a n : Nat} {F G : Nat → va_E} (hh : ∀ k, k < n → F k = G k) : blk h a n F = blk h a n G := by
  funext q
  unfold blk
  by_cases h2 : a ≤ q ∧ q < a + n
  · rw [if_pos h2, if_pos h2, hh _ (by omega)]
  · rw [if_neg h2, if_neg h2]
theorem blk_eq {h h' : AH} {a n : Nat} {F : Nat → va_E} (hin : ∀ k, k < n → h' (a + k) = some (F k)) (hout : ∀ q, q < a ∨ a + n ≤ q → h' q = h q) : h' = blk h a n F := by
  funext q
  unfold blk
  by_cases h2 : a ≤ q ∧ q < a + n
  · rw [if_pos h2, ← hin (q - a) (by omega), Nat.add_sub_cancel' h2.1]
  · rw [if_neg h2]
    exact hout q (by omega)
theorem blk_sub {h : AH} {a n m k : Nat} {F F' G : Nat → va_E} (hm : m + k ≤ n) (h1 : ∀ j, j < k → F' (m + j) = G j) (h2 : ∀ j, j < n → j < m ∨ m + k ≤ j → F' j = F j) : blk (blk h a n F) (a + m) k G = blk h a n F' := by
  funext q
  unfold blk
  by_cases q1 : a + m ≤ q ∧ q < a + m + k
  · rw [if_pos q1, if_pos (by omega), ← h1 _ (by omega)]
    congr 2
    omega
  · rw [if_neg q1]
    by_cases q2 : a ≤ q ∧ q < a + n
    · rw [if_pos q2, if_pos q2, h2 _ (by omega) (by omega)]
    · rw [if_neg q2, if_neg q2]
/-- a state: rows of whole numbers -/
abbrev GS : Type := Nat → Nat → Int
def sr (G : GS) (F : Nat) (f : Nat → Int) : GS := fun F' => if F' = F then f else G F'
def st1 (f : Nat → Int) (i : Nat) (v : Int) : Nat → Int := fun j => if j = i then v else f j
theorem cp_s (f g : Nat → Int) (n : Nat) : st1 (cp n f g) n (f n) = cp (n + 1) f g := by
  funext j
  unfold st1 cp
  by_cases h : j = n
  · subst h
    rw [if_pos rfl, if_pos (by omega)]
  · rw [if_neg h]
    by_cases h2 : j < n
    · rw [if_pos h2, if_pos (by omega)]
    · rw [if_neg h2, if_neg (by omega)]
theorem st1_st1 (f : Nat → Int) (i : Nat) (v w : Int) : st1 (st1 f i v) i w = st1 f i w := by
  funext j
  unfold st1
  by_cases h : j = i
  · rw [if_pos h, if_pos h]
  · rw [if_neg h, if_neg h, if_neg h]
theorem st1_eq (f : Nat → Int) (i : Nat) (v : Int) : st1 f i v i = v := by
  unfold st1
  rw [if_pos rfl]
theorem upd_z (f : Nat → Int) (j : Nat) (v : Int) : upd (fun k => z (f k)) j (z v) = fun k => z (st1 f j v k) := by
  funext k
  unfold upd st1
  by_cases h : k = j
  · simp [h]
  · simp [h]
/-! ===== the bets of a game: five cells; rows 3 to 6 of the state, and 9, 10 of its row 7 ===== -/
def BB (b : Nat) (G : GS) : Nat → va_E
  | 0 => .inr (1, [.int (z (G 7 9)), .int (z (G 7 10)), .ref (b + 1), .ref (b + 2), .ref (b + 3), .ref (b + 4)])
  | 1 => .inl (0, 10, .inl fun k => z (G 3 k))
  | 2 => .inl (0, 10, .inl fun k => z (G 4 k))
  | 3 => .inl (0, 10, .inl fun k => z (G 5 k))
  | _ => .inl (0, 10, .inl fun k => z (G 6 k))
def isB (h : AH) (b : Nat) (G : GS) : Prop := h b = some (BB b G 0) ∧ h (b + 1) = some (BB b G 1) ∧ h (b + 2) = some (BB b G 2) ∧ h (b + 3) = some (BB b G 3) ∧ h (b + 4) = some (BB b G 4)
theorem isB_blk {h : AH} {b : Nat} {G : GS} : isB (blk h b 5 (BB b G)) b G := ⟨blk_at (k := 0) (by decide), blk_at (by decide), blk_at (by decide), blk_at (by decide), blk_at (by decide)⟩
theorem isB_eq {h h' : AH} {b : Nat} {G : GS} (k : isB h' b G) (hout : ∀ q, q < b ∨ b + 5 ≤ q → h' q = h q) : h' = blk h b 5 (BB b G) := by
  obtain ⟨h0, h1, h2, h3, h4⟩ := k
  refine blk_eq (fun k hk => ?_) hout
  match k, hk with
  | 0, _ => exact h0
  | 1, _ => exact h1
  | 2, _ => exact h2
  | 3, _ => exact h3
  | 4, _ => exact h4
section BETS
variable {E : EX} {d : Nat} {h : AH} {sz b : Nat} {G : GS}
set_option maxRecDepth 16384 in
theorem sp_6 {k : Int} (hB : isB h b G) (k1 : 0 ≤ k) (k2 : k < 10) : Sp E (d + 1) 6 [.ref b, .int (z k)] h sz (rets (some (.int (z (G 3 k.toNat)))) h sz) := by
  obtain ⟨h0, h1, h2, h3, h4⟩ := hB
  refine ⟨mi_6, mt_6, Nat.le_of_ble_eq_true rfl, ?_⟩
  change Rr _ _ _ _ mi_6 _ 0 [some (.ref b), some (.int (z k))] [] _ _ 0 0
  refine R_run 60 ?_
  simp only [run_s, run_0, isc, Bool.or_false, Bool.false_or, Bool.or_true, Bool.true_or, Bool.or_self, cond_false, cond_true, gl, sl, stl, stl2, c2, isw, nf, pf, lnb, tk, true_and, and_true, nsg0, nsg1, Int.cast_ofNat_Int, Int.natCast_zero, Int.natCast_one, zero_z, z_add, z_sub, z_mul, z_neg, cnd_eq, cnd_ne, cnd_lt, cnd_ge, cnd_gt, cnd_le, vok_0, vok_3r, vok_3n, vok_4, Nat.add_zero, Nat.zero_add, Nat.reduceAdd, Nat.reduceSub, Nat.reduceMod, Nat.reduceDiv, Nat.reduceEqDiff, Nat.reduceLeDiff, Nat.reduceMul, Int.reduceNeg, if_true, if_false, ite_true, ite_false, reduceIte, hup_app, Nat.add_left_cancel_iff, Nat.left_eq_add, Nat.add_eq_left, reduceCtorEq, subc_0, subc_1, subc_2, subc_3, subc_4, subc_5, subc_6, subc_7, subc_8, subc_9, subc_10, subc_11, subc_12, sube_2, sube_3, sube_5, sube_8, sube_9, sube_10, rets_ok, sI_aload_n, sI_bipush, sI_getfield, sI_goto, sI_iaload, sI_iconst, sI_ifCond, sI_if_icmp, sI_iload_n, sI_ireturn, ix_6_0, ix_6_1, ix_6_4, ix_6_5, ix_6_7, ix_6_10, ix_6_11, ix_6_14, ix_6_15, ix_6_16, ix_6_19, ix_6_20, mC_6, mS_6, mH_6, h0, h1, BB]
  rw [z_lt (by omega) (by omega) (by omega) (by omega), z_le (by omega) (by omega) (by omega) (by omega), z_in (by omega) (by omega), z_nat (by omega) (by omega)]
  exact ⟨fun q => absurd q (by omega), fun _ => ⟨fun q => absurd q (by omega), fun _ => ⟨⟨k1, by omega⟩, rfl⟩⟩⟩
set_option maxRecDepth 16384 in
theorem sp_7 {k : Int} (hB : isB h b G) (k1 : 0 ≤ k) (k2 : k < 10) : Sp E (d + 1) 7 [.ref b, .int (z k)] h sz (rets (some (.int (z (G 6 k.toNat)))) h sz) := by
  obtain ⟨h0, h1, h2, h3, h4⟩ := hB
  refine ⟨mi_7, mt_7, Nat.le_of_ble_eq_true rfl, ?_⟩
  change Rr _ _ _ _ mi_7 _ 0 [some (.ref b), some (.int (z k))] [] _ _ 0 0
  refine R_run 60 ?_
  simp only [run_s, run_0, isc, Bool.or_false, Bool.false_or, Bool.or_true, Bool.true_or, Bool.or_self, cond_false, cond_true, gl, sl, stl, stl2, c2, isw, nf, pf, lnb, tk, true_and, and_true, nsg0, nsg1, Int.cast_ofNat_Int, Int.natCast_zero, Int.natCast_one, zero_z, z_add, z_sub, z_mul, z_neg, cnd_eq, cnd_ne, cnd_lt, cnd_ge, cnd_gt, cnd_le, vok_0, vok_3r, vok_3n, vok_4, Nat.add_zero, Nat.zero_add, Nat.reduceAdd, Nat.reduceSub, Nat.reduceMod, Nat.reduceDiv, Nat.reduceEqDiff, Nat.reduceLeDiff, Nat.reduceMul, Int.reduceNeg, if_true, if_false, ite_true, ite_false, reduceIte, hup_app, Nat.add_left_cancel_iff, Nat.left_eq_add, Nat.add_eq_left, reduceCtorEq, subc_0, subc_1, subc_2, subc_3, subc_4, subc_5, subc_6, subc_7, subc_8, subc_9, subc_10, subc_11, subc_12, sube_2, sube_3, sube_5, sube_8, sube_9, sube_10, rets_ok, sI_aload_n, sI_bipush, sI_getfield, sI_goto, sI_iaload, sI_iconst, sI_ifCond, sI_if_icmp, sI_iload_n, sI_ireturn, ix_7_0, ix_7_1, ix_7_4, ix_7_5, ix_7_7, ix_7_10, ix_7_11, ix_7_14, ix_7_15, ix_7_16, ix_7_19, ix_7_20, mC_7, mS_7, mH_7, h0, h4, BB]
  rw [z_lt (by omega) (by omega) (by omega) (by omega), z_le (by omega) (by omega) (by omega) (by omega), z_in (by omega) (by omega), z_nat (by omega) (by omega)]
  exact ⟨fun q => absurd q (by omega), fun _ => ⟨fun q => absurd q (by omega), fun _ => ⟨⟨k1, by omega⟩, rfl⟩⟩⟩
def sumTo (f : Nat → Int) : Nat → Int
  | 0 => 0
  | n + 1 => sumTo f n + f n
def onW (G : GS) (p : Int) : Nat → Int := sumTo (fun k => if G 4 k = p then G 5 k else 0)
set_option maxRecDepth 16384 in
theorem sp_9 {n : Nat} (hB : isB h b G) (hn : G 7 9 = n) (hn2 : n ≤ 10) : Sp E (d + 1) 9 [.ref b] h sz (rets (some (.int (z (G 7 10 - sumTo (G 6) n)))) h sz) := by
  obtain ⟨h0, h1, h2, h3, h4⟩ := hB
  refine ⟨mi_9, mt_9, Nat.le_of_ble_eq_true rfl, ?_⟩
  change Rr _ _ _ _ mi_9 _ 0 [some (.ref b), none, none] [] _ _ 0 0
  refine R_run 60 ?_
  simp only [run_s, run_0, isc, Bool.or_false, Bool.false_or, Bool.or_true, Bool.true_or, Bool.or_self, cond_false, cond_true, gl, sl, stl, stl2, c2, isw, nf, pf, lnb, tk, true_and, and_true, nsg0, nsg1, Int.cast_ofNat_Int, Int.natCast_zero, Int.natCast_one, zero_z, z_add, z_sub, z_mul, z_neg, cnd_eq, cnd_ne, cnd_lt, cnd_ge, cnd_gt, cnd_le, vok_0, vok_3r, vok_3n, vok_4, Nat.add_zero, Nat.zero_add, Nat.reduceAdd, Nat.reduceSub, Nat.reduceMod, Nat.reduceDiv, Nat.reduceEqDiff, Nat.reduceLeDiff, Nat.reduceMul, Int.reduceNeg, if_true, if_false, ite_true, ite_false, reduceIte, hup_app, Nat.add_left_cancel_iff, Nat.left_eq_add, Nat.add_eq_left, reduceCtorEq, subc_0, subc_1, subc_2, subc_3, subc_4, subc_5, subc_6, subc_7, subc_8, subc_9, subc_10, subc_11, subc_12, sube_2, sube_3, sube_5, sube_8, sube_9, sube_10, rets_ok, sI_aload_n, sI_bipush, sI_getfield, sI_goto, sI_iaload, sI_iconst, sI_if_icmp, sI_iinc, sI_iload_n, sI_ireturn, sI_istore_n, sI_isub, ix_9_0, ix_9_1, ix_9_4, ix_9_5, ix_9_6, ix_9_7, ix_9_8, ix_9_9, ix_9_12, ix_9_15, ix_9_16, ix_9_18, ix_9_21, ix_9_22, ix_9_23, ix_9_26, ix_9_27, ix_9_28, ix_9_29, ix_9_30, ix_9_33, ix_9_36, ix_9_37, mC_9, mS_9, mH_9, h0, h4, BB, hn]
  rw [show z (G 7 10) = z (G 7 10 - sumTo (G 6) 0) from by simp only [sumTo, Int.sub_zero]]
  refine loop_up (P := fun k => Rr _ _ _ _ mi_9 _ 7 [some (.ref b), some (.int (z (G 7 10 - sumTo (G 6) k))), some (.int (z k))] [] h sz 0 0) (n := n) ?_ (fun k hk ih => ?_) 0 (Nat.zero_le _)
  · refine R_hd ix_9_7 60 ?_
    simp only [run_s, run_0, isc, Bool.or_false, Bool.false_or, Bool.or_true, Bool.true_or, Bool.or_self, cond_false, cond_true, gl, sl, stl, stl2, c2, isw, nf, pf, lnb, tk, true_and, and_true, nsg0, nsg1, Int.cast_ofNat_Int, Int.natCast_zero, Int.natCast_one, zero_z, z_add, z_sub, z_mul, z_neg, cnd_eq, cnd_ne, cnd_lt, cnd_ge, cnd_gt, cnd_le, vok_0, vok_3r, vok_3n, vok_4, Nat.add_zero, Nat.zero_add, Nat.reduceAdd, Nat.reduceSub, Nat.reduceMod, Nat.reduceDiv, Nat.reduceEqDiff, Nat.reduceLeDiff, Nat.reduceMul, Int.reduceNeg, if_true, if_false, ite_true, ite_false, reduceIte, hup_app, Nat.add_left_cancel_iff, Nat.left_eq_add, Nat.add_eq_left, reduceCtorEq, subc_0, subc_1, subc_2, subc_3, subc_4, subc_5, subc_6, subc_7, subc_8, subc_9, subc_10, subc_11, subc_12, sube_2, sube_3, sube_5, sube_8, sube_9, sube_10, rets_ok, sI_aload_n, sI_bipush, sI_getfield, sI_goto, sI_iaload, sI_iconst, sI_if_icmp, sI_iinc, sI_iload_n, sI_ireturn, sI_istore_n, sI_isub, ix_9_0, ix_9_1, ix_9_4, ix_9_5, ix_9_6, ix_9_7, ix_9_8, ix_9_9, ix_9_12, ix_9_15, ix_9_16, ix_9_18, ix_9_21, ix_9_22, ix_9_23, ix_9_26, ix_9_27, ix_9_28, ix_9_29, ix_9_30, ix_9_33, ix_9_36, ix_9_37, mC_9, mS_9, mH_9, h0, h4, BB, hn]
    simp (disch := omega) only [z_le]
    exact ⟨fun _ => trivial, fun q => absurd (Int.le_refl _) q⟩
  · refine R_hd ix_9_7 60 ?_
    simp only [run_s, run_0, isc, Bool.or_false, Bool.false_or, Bool.or_true, Bool.true_or, Bool.or_self, cond_false, cond_true, gl, sl, stl, stl2, c2, isw, nf, pf, lnb, tk, true_and, and_true, nsg0, nsg1, Int.cast_ofNat_Int, Int.natCast_zero, Int.natCast_one, zero_z, z_add, z_sub, z_mul, z_neg, cnd_eq, cnd_ne, cnd_lt, cnd_ge, cnd_gt, cnd_le, vok_0, vok_3r, vok_3n, vok_4, Nat.add_zero, Nat.zero_add, Nat.reduceAdd, Nat.reduceSub, Nat.reduceMod, Nat.reduceDiv, Nat.reduceEqDiff, Nat.reduceLeDiff, Nat.reduceMul, Int.reduceNeg, if_true, if_false, ite_true, ite_false, reduceIte, hup_app, Nat.add_left_cancel_iff, Nat.left_eq_add, Nat.add_eq_left, reduceCtorEq, subc_0, subc_1, subc_2, subc_3, subc_4, subc_5, subc_6, subc_7, subc_8, subc_9, subc_10, subc_11, subc_12, sube_2, sube_3, sube_5, sube_8, sube_9, sube_10, rets_ok, sI_aload_n, sI_bipush, sI_getfield, sI_goto, sI_iaload, sI_iconst, sI_if_icmp, sI_iinc, sI_iload_n, sI_ireturn, sI_istore_n, sI_isub, ix_9_0, ix_9_1, ix_9_4, ix_9_5, ix_9_6, ix_9_7, ix_9_8, ix_9_9, ix_9_12, ix_9_15, ix_9_16, ix_9_18, ix_9_21, ix_9_22, ix_9_23, ix_9_26, ix_9_27, ix_9_28, ix_9_29, ix_9_30, ix_9_33, ix_9_36, ix_9_37, mC_9, mS_9, mH_9, h0, h4, BB, hn]
    simp (disch := omega) only [z_le, z_in, z_nat, Int.toNat_natCast]
    refine ⟨fun q => absurd q (by omega), fun _ => ⟨fun q => absurd q (by omega), fun _ => ⟨by omega, ?_⟩⟩⟩
    simp only [sumTo, Int.natCast_add, Int.natCast_one] at ih
    rw [Int.sub_sub]
    exact ih
set_option maxRecDepth 16384 in
theorem sp_10 {n : Nat} {p : Int} (hB : isB h b G) (hn : G 7 9 = n) (hn2 : n ≤ 10) (hp : -10 ≤ p ∧ p ≤ 10) (hq : ∀ k, k < n → 0 ≤ G 4 k ∧ G 4 k ≤ 10) : Sp E (d + 1) 10 [.ref b, .int (z p)] h sz (rets (some (.int (z (onW G p n)))) h sz) := by
  obtain ⟨h0, h1, h2, h3, h4⟩ := hB
  refine ⟨mi_10, mt_10, Nat.le_of_ble_eq_true rfl, ?_⟩
  change Rr _ _ _ _ mi_10 _ 0 [some (.ref b), some (.int (z p)), none, none] [] _ _ 0 0
  refine R_run 60 ?_
  simp only [run_s, run_0, isc, Bool.or_false, Bool.false_or, Bool.or_true, Bool.true_or, Bool.or_self, cond_false, cond_true, gl, sl, stl, stl2, c2, isw, nf, pf, lnb, tk, true_and, and_true, nsg0, nsg1, Int.cast_ofNat_Int, Int.natCast_zero, Int.natCast_one, zero_z, z_add, z_sub, z_mul, z_neg, cnd_eq, cnd_ne, cnd_lt, cnd_ge, cnd_gt, cnd_le, vok_0, vok_3r, vok_3n, vok_4, Nat.add_zero, Nat.zero_add, Nat.reduceAdd, Nat.reduceSub, Nat.reduceMod, Nat.reduceDiv, Nat.reduceEqDiff, Nat.reduceLeDiff, Nat.reduceMul, Int.reduceNeg, if_true, if_false, ite_true, ite_false, reduceIte, hup_app, Nat.add_left_cancel_iff, Nat.left_eq_add, Nat.add_eq_left, reduceCtorEq, subc_0, subc_1, subc_2, subc_3, subc_4, subc_5, subc_6, subc_7, subc_8, subc_9, subc_10, subc_11, subc_12, sube_2, sube_3, sube_5, sube_8, sube_9, sube_10, rets_ok, sI_aload_n, sI_bipush, sI_getfield, sI_goto, sI_iadd, sI_iaload, sI_iconst, sI_if_icmp, sI_iinc, sI_iload_n, sI_ireturn, sI_istore_n, ix_10_0, ix_10_1, ix_10_2, ix_10_3, ix_10_4, ix_10_5, ix_10_6, ix_10_9, ix_10_12, ix_10_13, ix_10_15, ix_10_18, ix_10_19, ix_10_20, ix_10_23, ix_10_24, ix_10_25, ix_10_26, ix_10_29, ix_10_30, ix_10_33, ix_10_34, ix_10_35, ix_10_38, ix_10_39, ix_10_40, ix_10_41, ix_10_44, ix_10_47, ix_10_48, mC_10, mS_10, mH_10, h0, h2, h3, BB, hn]
  refine loop_up (P := fun k => Rr _ _ _ _ mi_10 _ 4 [some (.ref b), some (.int (z p)), some (.int (z (onW G p k))), some (.int (z k))] [] h sz 0 0) (n := n) ?_ (fun k hk ih => ?_) 0 (Nat.zero_le _)
  · refine R_hd ix_10_4 60 ?_
    simp only [run_s, run_0, isc, Bool.or_false, Bool.false_or, Bool.or_true, Bool.true_or, Bool.or_self, cond_false, cond_true, gl, sl, stl, stl2, c2, isw, nf, pf, lnb, tk, true_and, and_true, nsg0, nsg1, Int.cast_ofNat_Int, Int.natCast_zero, Int.natCast_one, zero_z, z_add, z_sub, z_mul, z_neg, cnd_eq, cnd_ne, cnd_lt, cnd_ge, cnd_gt, cnd_le, vok_0, vok_3r, vok_3n, vok_4, Nat.add_zero, Nat.zero_add, Nat.reduceAdd, Nat.reduceSub, Nat.reduceMod, Nat.reduceDiv, Nat.reduceEqDiff, Nat.reduceLeDiff, Nat.reduceMul, Int.reduceNeg, if_true, if_false, ite_true, ite_false, reduceIte, hup_app, Nat.add_left_cancel_iff, Nat.left_eq_add, Nat.add_eq_left, reduceCtorEq, subc_0, subc_1, subc_2, subc_3, subc_4, subc_5, subc_6, subc_7, subc_8, subc_9, subc_10, subc_11, subc_12, sube_2, sube_3, sube_5, sube_8, sube_9, sube_10, rets_ok, sI_aload_n, sI_bipush, sI_getfield, sI_goto, sI_iadd, sI_iaload, sI_iconst, sI_if_icmp, sI_iinc, sI_iload_n, sI_ireturn, sI_istore_n, ix_10_0, ix_10_1, ix_10_2, ix_10_3, ix_10_4, ix_10_5, ix_10_6, ix_10_9, ix_10_12, ix_10_13, ix_10_15, ix_10_18, ix_10_19, ix_10_20, ix_10_23, ix_10_24, ix_10_25, ix_10_26, ix_10_29, ix_10_30, ix_10_33, ix_10_34, ix_10_35, ix_10_38, ix_10_39, ix_10_40, ix_10_41, ix_10_44, ix_10_47, ix_10_48, mC_10, mS_10, mH_10, h0, h2, h3, BB, hn]
    simp (disch := omega) only [z_le]
    exact ⟨fun _ => trivial, fun q => absurd (Int.le_refl _) q⟩
  · have hk2 := hq k hk
    refine R_hd ix_10_4 60 ?_
    simp only [run_s, run_0, isc, Bool.or_false, Bool.false_or, Bool.or_true, Bool.true_or, Bool.or_self, cond_false, cond_true, gl, sl, stl, stl2, c2, isw, nf, pf, lnb, tk, true_and, and_true, nsg0, nsg1, Int.cast_ofNat_Int, Int.natCast_zero, Int.natCast_one, zero_z, z_add, z_sub, z_mul, z_neg, cnd_eq, cnd_ne, cnd_lt, cnd_ge, cnd_gt, cnd_le, vok_0, vok_3r, vok_3n, vok_4, Nat.add_zero, Nat.zero_add, Nat.reduceAdd, Nat.reduceSub, Nat.reduceMod, Nat.reduceDiv, Nat.reduceEqDiff, Nat.reduceLeDiff, Nat.reduceMul, Int.reduceNeg, if_true, if_false, ite_true, ite_false, reduceIte, hup_app, Nat.add_left_cancel_iff, Nat.left_eq_add, Nat.add_eq_left, reduceCtorEq, subc_0, subc_1, subc_2, subc_3, subc_4, subc_5, subc_6, subc_7, subc_8, subc_9, subc_10, subc_11, subc_12, sube_2, sube_3, sube_5, sube_8, sube_9, sube_10, rets_ok, sI_aload_n, sI_bipush, sI_getfield, sI_goto, sI_iadd, sI_iaload, sI_iconst, sI_if_icmp, sI_iinc, sI_iload_n, sI_ireturn, sI_istore_n, ix_10_0, ix_10_1, ix_10_2, ix_10_3, ix_10_4, ix_10_5, ix_10_6, ix_10_9, ix_10_12, ix_10_13, ix_10_15, ix_10_18, ix_10_19, ix_10_20, ix_10_23, ix_10_24, ix_10_25, ix_10_26, ix_10_29, ix_10_30, ix_10_33, ix_10_34, ix_10_35, ix_10_38, ix_10_39, ix_10_40, ix_10_41, ix_10_44, ix_10_47, ix_10_48, mC_10, mS_10, mH_10, h0, h2, h3, BB, hn]
    simp (disch := omega) only [z_le, z_in, z_nat, Int.toNat_natCast, z_eq]
    simp only [onW, sumTo, Int.natCast_add, Int.natCast_one] at ih
    refine ⟨fun q => absurd q (by omega), fun _ => ⟨fun q => absurd q (by omega), fun _ => ⟨by omega, fun q => ?_, fun q => ⟨by omega, ?_⟩⟩⟩⟩
    · rw [if_neg q] at ih
      exact ih
    · rw [if_pos (Classical.not_not.mp q)] at ih
      exact ih
/-- no bets, as clear() leaves it -/
def b_clr (G : GS) : GS := sr G 7 (st1 (st1 (G 7) 9 0) 10 0)
set_option maxRecDepth 16384 in
theorem sp_2 (hB : isB h b G) : Sp E (d + 1) 2 [.ref b] h sz (rets none (blk h b 5 (BB b (b_clr G))) sz) := by
  obtain ⟨h0, h1, h2, h3, h4⟩ := hB
  refine ⟨mi_2, mt_2, Nat.le_of_ble_eq_true rfl, ?_⟩
  change Rr _ _ _ _ mi_2 _ 0 [some (.ref b)] [] _ _ 0 0
  refine R_run 60 ?_
  simp only [run_s, run_0, isc, Bool.or_false, Bool.false_or, Bool.or_true, Bool.true_or, Bool.or_self, cond_false, cond_true, gl, sl, stl, stl2, c2, isw, nf, pf, lnb, tk, true_and, and_true, nsg0, nsg1, Int.cast_ofNat_Int, Int.natCast_zero, Int.natCast_one, zero_z, z_add, z_sub, z_mul, z_neg, cnd_eq, cnd_ne, cnd_lt, cnd_ge, cnd_gt, cnd_le, vok_0, vok_3r, vok_3n, vok_4, Nat.add_zero, Nat.zero_add, Nat.reduceAdd, Nat.reduceSub, Nat.reduceMod, Nat.reduceDiv, Nat.reduceEqDiff, Nat.reduceLeDiff, Nat.reduceMul, Int.reduceNeg, if_true, if_false, ite_true, ite_false, reduceIte, hup_app, Nat.add_left_cancel_iff, Nat.left_eq_add, Nat.add_eq_left, reduceCtorEq, subc_0, subc_1, subc_2, subc_3, subc_4, subc_5, subc_6, subc_7, subc_8, subc_9, subc_10, subc_11, subc_12, sube_2, sube_3, sube_5, sube_8, sube_9, sube_10, rets_ok, sI_aload_n, sI_iconst, sI_putfield, sI_return_, ix_2_0, ix_2_1, ix_2_2, ix_2_5, ix_2_6, ix_2_7, ix_2_10, mC_2, mS_2, mH_2, h0, BB]
  refine isB_eq ⟨?_, ?_, ?_, ?_, ?_⟩ (fun q hq => ?_)
  all_goals first | (simp only [hup_app, Nat.add_left_cancel_iff, Nat.left_eq_add, Nat.add_eq_left, Nat.reduceEqDiff, reduceCtorEq, if_true, if_false, ite_true, ite_false, reduceIte, upd_z, h1, h2, h3, h4, BB, b_clr, sr, st1]; done) | (simp only [hup_app, Nat.add_left_cancel_iff, Nat.left_eq_add, Nat.add_eq_left, Nat.reduceEqDiff, reduceCtorEq, if_true, if_false, ite_true, ite_false, reduceIte, upd_z, h1, h2, h3, h4, BB, b_clr, sr, st1]; rfl) | ((repeat rw [hup_ne _ _ (by omega)]); done) | (rw [hup_ne _ _ (by omega)]; (repeat rw [hup_ne _ _ (by omega)]))
set_option maxRecDepth 16384 in
theorem sp_5 {n : Nat} {i p s : Int} (hB : isB h b G) (hn : G 7 9 = n) (hn2 : n < 10) : Sp E (d + 1) 5 [.ref b, .int (z i), .int (z p), .int (z s)] h sz (rets none (blk h b 5 (BB b (sr (sr (sr (sr (sr G 3 (st1 (G 3) n i)) 4 (st1 (G 4) n p)) 5 (st1 (G 5) n s)) 6 (st1 (G 6) n 0)) 7 (st1 (st1 (G 7) 9 (G 7 9 + 1)) 10 (G 7 10 + s))))) sz) := by
  obtain ⟨h0, h1, h2, h3, h4⟩ := hB
  refine ⟨mi_5, mt_5, Nat.le_of_ble_eq_true rfl, ?_⟩
  change Rr _ _ _ _ mi_5 _ 0 [some (.ref b), some (.int (z i)), some (.int (z p)), some (.int (z s))] [] _ _ 0 0
  refine R_run 60 ?_
  simp only [run_s, run_0, isc, Bool.or_false, Bool.false_or, Bool.or_true, Bool.true_or, Bool.or_self, cond_false, cond_true, gl, sl, stl, stl2, c2, isw, nf, pf, lnb, tk, true_and, and_true, nsg0, nsg1, Int.cast_ofNat_Int, Int.natCast_zero, Int.natCast_one, zero_z, z_add, z_sub, z_mul, z_neg, cnd_eq, cnd_ne, cnd_lt, cnd_ge, cnd_gt, cnd_le, vok_0, vok_3r, vok_3n, vok_4, Nat.add_zero, Nat.zero_add, Nat.reduceAdd, Nat.reduceSub, Nat.reduceMod, Nat.reduceDiv, Nat.reduceEqDiff, Nat.reduceLeDiff, Nat.reduceMul, Int.reduceNeg, if_true, if_false, ite_true, ite_false, reduceIte, hup_app, Nat.add_left_cancel_iff, Nat.left_eq_add, Nat.add_eq_left, reduceCtorEq, subc_0, subc_1, subc_2, subc_3, subc_4, subc_5, subc_6, subc_7, subc_8, subc_9, subc_10, subc_11, subc_12, sube_2, sube_3, sube_5, sube_8, sube_9, sube_10, rets_ok, sI_aload_n, sI_bipush, sI_dup, sI_getfield, sI_iadd, sI_iastore, sI_iconst, sI_ifCond, sI_if_icmp, sI_iload_n, sI_putfield, sI_return_, ix_5_0, ix_5_1, ix_5_4, ix_5_7, ix_5_8, ix_5_11, ix_5_13, ix_5_16, ix_5_17, ix_5_20, ix_5_21, ix_5_24, ix_5_25, ix_5_26, ix_5_27, ix_5_30, ix_5_31, ix_5_34, ix_5_35, ix_5_36, ix_5_37, ix_5_40, ix_5_41, ix_5_44, ix_5_45, ix_5_46, ix_5_47, ix_5_50, ix_5_51, ix_5_54, ix_5_55, ix_5_56, ix_5_57, ix_5_58, ix_5_61, ix_5_62, ix_5_63, ix_5_66, ix_5_67, ix_5_68, ix_5_71, ix_5_72, ix_5_73, ix_5_76, mC_5, mS_5, mH_5, h0, h1, h2, h3, h4, BB, hn]
  simp (disch := omega) only [z_lt, z_le, z_eq, z_in, z_nat, Int.toNat_natCast, upd_z, z_l, zl_0, zl_add, zl_sub, zl_mul, zl_i, zl_eq, zl_div, Int.reduceLT, Int.reduceLE, Int.reduceToNat, Nat.reduceAdd, Nat.reduceLeDiff, not_false_eq_true, true_and, and_true]
  refine ⟨fun q => absurd q (by omega), fun _ => ⟨fun q => absurd q (by omega), fun _ => ⟨by omega, by omega, by omega, by omega, ?_⟩⟩⟩
  refine isB_eq ⟨?_, ?_, ?_, ?_, ?_⟩ (fun q hq => ?_)
  all_goals first | (simp only [hup_app, Nat.add_left_cancel_iff, Nat.left_eq_add, Nat.add_eq_left, Nat.reduceEqDiff, reduceCtorEq, if_true, if_false, ite_true, ite_false, reduceIte, upd_z, hn, BB, sr, st1]; done) | (simp only [hup_app, Nat.add_left_cancel_iff, Nat.left_eq_add, Nat.add_eq_left, Nat.reduceEqDiff, reduceCtorEq, if_true, if_false, ite_true, ite_false, reduceIte, upd_z, hn, BB, sr, st1]; rfl) | ((repeat rw [hup_ne _ _ (by omega)]); done) | (rw [hup_ne _ _ (by omega)]; (repeat rw [hup_ne _ _ (by omega)]))
/-- what a bet is paid -/
def payF (G : GS) (w : Int) (n : Nat) : Nat → Int := fun k => if G 4 k = w ∧ 0 < onW G w n then G 7 10 * G 5 k / onW G w n else 0
def b_shr (G : GS) (w : Int) (n : Nat) : GS := sr G 6 (cp n (payF G w n) (G 6))
set_option maxRecDepth 16384 in
theorem sp_8 {n : Nat} {w : Int} (hB : isB h b G) (hn : G 7 9 = n) (hn2 : n ≤ 10) (hp : -10 ≤ w ∧ w ≤ 10) (hq : ∀ k, k < n → 0 ≤ G 4 k ∧ G 4 k ≤ 10) (hC : 0 ≤ G 7 10 ∧ G 7 10 ≤ 1000000) (hs : ∀ k, k < n → 0 ≤ G 5 k ∧ G 5 k ≤ 1000000) (hw : 0 ≤ onW G w n ∧ onW G w n ≤ 1000000) : Sp E (d + 2) 8 [.ref b, .int (z w)] h sz (rets (some (.int (z (G 7 10 - sumTo (payF G w n) n)))) (blk h b 5 (BB b (b_shr G w n))) sz) := by
  have hB' := hB
  obtain ⟨h0, h1, h2, h3, h4⟩ := hB
  refine ⟨mi_8, mt_8, Nat.le_of_ble_eq_true rfl, ?_⟩
  change Rr _ _ _ _ mi_8 _ 0 [some (.ref b), some (.int (z w)), none, none, none] [] _ _ 0 0
  refine R_run 60 ?_
  simp only [run_s, run_0, isc, Bool.or_false, Bool.false_or, Bool.or_true, Bool.true_or, Bool.or_self, cond_false, cond_true, gl, sl, stl, stl2, c2, isw, nf, pf, lnb, tk, true_and, and_true, nsg0, nsg1, Int.cast_ofNat_Int, Int.natCast_zero, Int.natCast_one, zero_z, z_add, z_sub, z_mul, z_neg, cnd_eq, cnd_ne, cnd_lt, cnd_ge, cnd_gt, cnd_le, vok_0, vok_3r, vok_3n, vok_4, Nat.add_zero, Nat.zero_add, Nat.reduceAdd, Nat.reduceSub, Nat.reduceMod, Nat.reduceDiv, Nat.reduceEqDiff, Nat.reduceLeDiff, Nat.reduceMul, Int.reduceNeg, if_true, if_false, ite_true, ite_false, reduceIte, hup_app, Nat.add_left_cancel_iff, Nat.left_eq_add, Nat.add_eq_left, reduceCtorEq, subc_0, subc_1, subc_2, subc_3, subc_4, subc_5, subc_6, subc_7, subc_8, subc_9, subc_10, subc_11, subc_12, sube_2, sube_3, sube_5, sube_8, sube_9, sube_10, rets_ok, sI_aload_n, sI_bipush, sI_getfield, sI_goto, sI_i2l, sI_iaload, sI_iastore, sI_iconst, sI_ifCond, sI_if_icmp, sI_iinc, sI_iload, sI_iload_n, sI_invokevirtual, sI_ireturn, sI_istore, sI_istore_n, sI_isub, sI_l2i, sI_ldiv, sI_lmul, ix_8_0, ix_8_1, ix_8_2, ix_8_5, ix_8_6, ix_8_7, ix_8_10, ix_8_11, ix_8_12, ix_8_14, ix_8_16, ix_8_17, ix_8_20, ix_8_23, ix_8_25, ix_8_27, ix_8_30, ix_8_31, ix_8_34, ix_8_36, ix_8_37, ix_8_38, ix_8_39, ix_8_42, ix_8_44, ix_8_45, ix_8_46, ix_8_49, ix_8_50, ix_8_53, ix_8_54, ix_8_57, ix_8_59, ix_8_60, ix_8_63, ix_8_64, ix_8_65, ix_8_68, ix_8_70, ix_8_71, ix_8_72, ix_8_73, ix_8_74, ix_8_75, ix_8_76, ix_8_77, ix_8_78, ix_8_79, ix_8_80, ix_8_83, ix_8_85, ix_8_86, ix_8_87, ix_8_88, ix_8_91, ix_8_94, ix_8_95, mC_8, mS_8, mH_8, h0, BB]
  refine R_cV ix_8_2 (by decide) (by decide) rfl h0 rfl (sp_10 hB' hn hn2 hp hq) (Nat.le_of_ble_eq_true rfl) (by rw [mcs_10, mC_8]; omega) (by rw [mcs_10, mS_8]; omega) ?_
  simp only [mcs_10, vpu, Nat.add_zero, Nat.zero_add, Nat.reduceAdd]
  refine R_run 60 ?_
  simp only [run_s, run_0, isc, Bool.or_false, Bool.false_or, Bool.or_true, Bool.true_or, Bool.or_self, cond_false, cond_true, gl, sl, stl, stl2, c2, isw, nf, pf, lnb, tk, true_and, and_true, nsg0, nsg1, Int.cast_ofNat_Int, Int.natCast_zero, Int.natCast_one, zero_z, z_add, z_sub, z_mul, z_neg, cnd_eq, cnd_ne, cnd_lt, cnd_ge, cnd_gt, cnd_le, vok_0, vok_3r, vok_3n, vok_4, Nat.add_zero, Nat.zero_add, Nat.reduceAdd, Nat.reduceSub, Nat.reduceMod, Nat.reduceDiv, Nat.reduceEqDiff, Nat.reduceLeDiff, Nat.reduceMul, Int.reduceNeg, if_true, if_false, ite_true, ite_false, reduceIte, hup_app, Nat.add_left_cancel_iff, Nat.left_eq_add, Nat.add_eq_left, reduceCtorEq, subc_0, subc_1, subc_2, subc_3, subc_4, subc_5, subc_6, subc_7, subc_8, subc_9, subc_10, subc_11, subc_12, sube_2, sube_3, sube_5, sube_8, sube_9, sube_10, rets_ok, sI_aload_n, sI_bipush, sI_getfield, sI_goto, sI_i2l, sI_iaload, sI_iastore, sI_iconst, sI_ifCond, sI_if_icmp, sI_iinc, sI_iload, sI_iload_n, sI_invokevirtual, sI_ireturn, sI_istore, sI_istore_n, sI_isub, sI_l2i, sI_ldiv, sI_lmul, ix_8_0, ix_8_1, ix_8_2, ix_8_5, ix_8_6, ix_8_7, ix_8_10, ix_8_11, ix_8_12, ix_8_14, ix_8_16, ix_8_17, ix_8_20, ix_8_23, ix_8_25, ix_8_27, ix_8_30, ix_8_31, ix_8_34, ix_8_36, ix_8_37, ix_8_38, ix_8_39, ix_8_42, ix_8_44, ix_8_45, ix_8_46, ix_8_49, ix_8_50, ix_8_53, ix_8_54, ix_8_57, ix_8_59, ix_8_60, ix_8_63, ix_8_64, ix_8_65, ix_8_68, ix_8_70, ix_8_71, ix_8_72, ix_8_73, ix_8_74, ix_8_75, ix_8_76, ix_8_77, ix_8_78, ix_8_79, ix_8_80, ix_8_83, ix_8_85, ix_8_86, ix_8_87, ix_8_88, ix_8_91, ix_8_94, ix_8_95, mC_8, mS_8, mH_8, h0, BB, hn]
  refine R_hl (h := blk h b 5 (BB b (sr G 6 (cp 0 (payF G w n) (G 6))))) (L := [some (.ref b), some (.int (z w)), some (.int (z (onW G w n))), some (.int (z (G 7 10 - sumTo (payF G w n) 0))), some (.int (z ((0 : Nat) : Int)))]) ?_ ?_ ?_
  · refine isB_eq ⟨?_, ?_, ?_, ?_, ?_⟩ (fun q hq => rfl)
    all_goals first | (simp only [hup_app, Nat.add_left_cancel_iff, Nat.left_eq_add, Nat.add_eq_left, Nat.reduceEqDiff, reduceCtorEq, if_true, if_false, ite_true, ite_false, reduceIte, upd_z, h0, h1, h2, h3, h4, BB, sr, cp_0]; done) | (simp only [hup_app, Nat.add_left_cancel_iff, Nat.left_eq_add, Nat.add_eq_left, Nat.reduceEqDiff, reduceCtorEq, if_true, if_false, ite_true, ite_false, reduceIte, upd_z, h0, h1, h2, h3, h4, BB, sr, cp_0]; rfl) | ((repeat rw [hup_ne _ _ (by omega)]); done) | (rw [hup_ne _ _ (by omega)]; (repeat rw [hup_ne _ _ (by omega)]))
  · simp only [sumTo, Int.sub_zero, Int.natCast_zero]
  refine loop_up (P := fun k => Rr _ _ _ _ mi_8 _ 14 [some (.ref b), some (.int (z w)), some (.int (z (onW G w n))), some (.int (z (G 7 10 - sumTo (payF G w n) k))), some (.int (z k))] [] (blk h b 5 (BB b (sr G 6 (cp k (payF G w n) (G 6))))) sz 0 0) (n := n) ?_ (fun k hk ih => ?_) 0 (Nat.zero_le _)
  · obtain ⟨g0, g1, g2, g3, g4⟩ := isB_blk (h := h) (b := b) (G := sr G 6 (cp n (payF G w n) (G 6)))
    refine R_hd ix_8_14 60 ?_
    simp only [run_s, run_0, isc, Bool.or_false, Bool.false_or, Bool.or_true, Bool.true_or, Bool.or_self, cond_false, cond_true, gl, sl, stl, stl2, c2, isw, nf, pf, lnb, tk, true_and, and_true, nsg0, nsg1, Int.cast_ofNat_Int, Int.natCast_zero, Int.natCast_one, zero_z, z_add, z_sub, z_mul, z_neg, cnd_eq, cnd_ne, cnd_lt, cnd_ge, cnd_gt, cnd_le, vok_0, vok_3r, vok_3n, vok_4, Nat.add_zero, Nat.zero_add, Nat.reduceAdd, Nat.reduceSub, Nat.reduceMod, Nat.reduceDiv, Nat.reduceEqDiff, Nat.reduceLeDiff, Nat.reduceMul, Int.reduceNeg, if_true, if_false, ite_true, ite_false, reduceIte, hup_app, Nat.add_left_cancel_iff, Nat.left_eq_add, Nat.add_eq_left, reduceCtorEq, subc_0, subc_1, subc_2, subc_3, subc_4, subc_5, subc_6, subc_7, subc_8, subc_9, subc_10, subc_11, subc_12, sube_2, sube_3, sube_5, sube_8, sube_9, sube_10, rets_ok, sI_aload_n, sI_bipush, sI_getfield, sI_goto, sI_i2l, sI_iaload, sI_iastore, sI_iconst, sI_ifCond, sI_if_icmp, sI_iinc, sI_iload, sI_iload_n, sI_invokevirtual, sI_ireturn, sI_istore, sI_istore_n, sI_isub, sI_l2i, sI_ldiv, sI_lmul, ix_8_0, ix_8_1, ix_8_2, ix_8_5, ix_8_6, ix_8_7, ix_8_10, ix_8_11, ix_8_12, ix_8_14, ix_8_16, ix_8_17, ix_8_20, ix_8_23, ix_8_25, ix_8_27, ix_8_30, ix_8_31, ix_8_34, ix_8_36, ix_8_37, ix_8_38, ix_8_39, ix_8_42, ix_8_44, ix_8_45, ix_8_46, ix_8_49, ix_8_50, ix_8_53, ix_8_54, ix_8_57, ix_8_59, ix_8_60, ix_8_63, ix_8_64, ix_8_65, ix_8_68, ix_8_70, ix_8_71, ix_8_72, ix_8_73, ix_8_74, ix_8_75, ix_8_76, ix_8_77, ix_8_78, ix_8_79, ix_8_80, ix_8_83, ix_8_85, ix_8_86, ix_8_87, ix_8_88, ix_8_91, ix_8_94, ix_8_95, mC_8, mS_8, mH_8, g0, g1, g2, g3, g4, BB, hn, sr]
    simp (disch := omega) only [z_lt, z_le, z_eq, z_in, z_nat, Int.toNat_natCast, upd_z, z_l, zl_0, zl_add, zl_sub, zl_mul, zl_i, zl_eq, zl_div, Int.reduceLT, Int.reduceLE, Int.reduceToNat, Nat.reduceAdd, Nat.reduceLeDiff, not_false_eq_true, true_and, and_true]
    exact ⟨fun _ => rfl, fun q => absurd (Int.le_refl _) q⟩
  · have hk2 := hq k hk
    have hk3 := hs k hk
    have hm1 : 0 ≤ G 7 10 * G 5 k := Int.mul_nonneg hC.1 hk3.1
    have hm2 : G 7 10 * G 5 k ≤ 1000000 * 1000000 := Int.mul_le_mul hC.2 hk3.2 hk3.1 (by decide)
    simp only [sumTo, Int.natCast_add, Int.natCast_one] at ih
    obtain ⟨g0, g1, g2, g3, g4⟩ := isB_blk (h := h) (b := b) (G := sr G 6 (cp k (payF G w n) (G 6)))
    generalize hH : blk h b 5 (BB b (sr G 6 (cp k (payF G w n) (G 6)))) = H at g0 g1 g2 g3 g4
    refine R_hd ix_8_14 60 ?_
    simp only [run_s, run_0, isc, Bool.or_false, Bool.false_or, Bool.or_true, Bool.true_or, Bool.or_self, cond_false, cond_true, gl, sl, stl, stl2, c2, isw, nf, pf, lnb, tk, true_and, and_true, nsg0, nsg1, Int.cast_ofNat_Int, Int.natCast_zero, Int.natCast_one, zero_z, z_add, z_sub, z_mul, z_neg, cnd_eq, cnd_ne, cnd_lt, cnd_ge, cnd_gt, cnd_le, vok_0, vok_3r, vok_3n, vok_4, Nat.add_zero, Nat.zero_add, Nat.reduceAdd, Nat.reduceSub, Nat.reduceMod, Nat.reduceDiv, Nat.reduceEqDiff, Nat.reduceLeDiff, Nat.reduceMul, Int.reduceNeg, if_true, if_false, ite_true, ite_false, reduceIte, hup_app, Nat.add_left_cancel_iff, Nat.left_eq_add, Nat.add_eq_left, reduceCtorEq, subc_0, subc_1, subc_2, subc_3, subc_4, subc_5, subc_6, subc_7, subc_8, subc_9, subc_10, subc_11, subc_12, sube_2, sube_3, sube_5, sube_8, sube_9, sube_10, rets_ok, sI_aload_n, sI_bipush, sI_getfield, sI_goto, sI_i2l, sI_iaload, sI_iastore, sI_iconst, sI_ifCond, sI_if_icmp, sI_iinc, sI_iload, sI_iload_n, sI_invokevirtual, sI_ireturn, sI_istore, sI_istore_n, sI_isub, sI_l2i, sI_ldiv, sI_lmul, ix_8_0, ix_8_1, ix_8_2, ix_8_5, ix_8_6, ix_8_7, ix_8_10, ix_8_11, ix_8_12, ix_8_14, ix_8_16, ix_8_17, ix_8_20, ix_8_23, ix_8_25, ix_8_27, ix_8_30, ix_8_31, ix_8_34, ix_8_36, ix_8_37, ix_8_38, ix_8_39, ix_8_42, ix_8_44, ix_8_45, ix_8_46, ix_8_49, ix_8_50, ix_8_53, ix_8_54, ix_8_57, ix_8_59, ix_8_60, ix_8_63, ix_8_64, ix_8_65, ix_8_68, ix_8_70, ix_8_71, ix_8_72, ix_8_73, ix_8_74, ix_8_75, ix_8_76, ix_8_77, ix_8_78, ix_8_79, ix_8_80, ix_8_83, ix_8_85, ix_8_86, ix_8_87, ix_8_88, ix_8_91, ix_8_94, ix_8_95, mC_8, mS_8, mH_8, g0, g1, g2, g3, g4, BB, hn, sr]
    simp (disch := omega) only [z_lt, z_le, z_eq, z_in, z_nat, Int.toNat_natCast, upd_z, z_l, zl_0, zl_add, zl_sub, zl_mul, zl_i, zl_eq, zl_div, Int.reduceLT, Int.reduceLE, Int.reduceToNat, Nat.reduceAdd, Nat.reduceLeDiff, not_false_eq_true, true_and, and_true]
    refine ⟨fun q => absurd q (by omega), fun _ => ⟨fun q => absurd q (by omega), fun _ => ⟨by omega, by omega, fun q => ⟨by omega, ?_⟩, fun q => ⟨fun q2 => ⟨by omega, ?_⟩, fun q2 => ⟨by omega, by omega, by omega, by omega, ?_⟩⟩⟩⟩⟩
    · have hpay : payF G w n k = 0 := by unfold payF; rw [if_neg (fun q2 => q q2.1)]
      have e6 : st1 (cp k (payF G w n) (G 6)) k 0 = cp (k + 1) (payF G w n) (G 6) := by rw [← hpay, cp_s]
      have e7 : cp (k + 1) (payF G w n) (G 6) k = payF G w n k := if_pos (Nat.lt_succ_self k)
      simp only [e6, e7, z_sub]
      refine R_hl ?_ (by rw [Int.sub_sub]) ih
      refine isB_eq ⟨?_, ?_, ?_, ?_, ?_⟩ (fun q hq => ?_)
      all_goals first | (simp only [hup_app, Nat.add_left_cancel_iff, Nat.left_eq_add, Nat.add_eq_left, Nat.reduceEqDiff, reduceCtorEq, if_true, if_false, ite_true, ite_false, reduceIte, upd_z, g0, g1, g2, g3, BB, sr]; done) | (simp only [hup_app, Nat.add_left_cancel_iff, Nat.left_eq_add, Nat.add_eq_left, Nat.reduceEqDiff, reduceCtorEq, if_true, if_false, ite_true, ite_false, reduceIte, upd_z, g0, g1, g2, g3, BB, sr]; rfl) | ((repeat rw [hup_ne _ _ (by omega)]); done) | (rw [hup_ne _ _ (by omega)]; (repeat rw [hup_ne _ _ (by omega)]))
      rw [← hH, blk_out hq]
    · have hpay : payF G w n k = 0 := by unfold payF; rw [if_neg (fun q3 => by omega)]
      have e6 : st1 (cp k (payF G w n) (G 6)) k 0 = cp (k + 1) (payF G w n) (G 6) := by rw [← hpay, cp_s]
      have e7 : cp (k + 1) (payF G w n) (G 6) k = payF G w n k := if_pos (Nat.lt_succ_self k)
      simp only [e6, e7, z_sub]
      refine R_hl ?_ (by rw [Int.sub_sub]) ih
      refine isB_eq ⟨?_, ?_, ?_, ?_, ?_⟩ (fun q hq => ?_)
      all_goals first | (simp only [hup_app, Nat.add_left_cancel_iff, Nat.left_eq_add, Nat.add_eq_left, Nat.reduceEqDiff, reduceCtorEq, if_true, if_false, ite_true, ite_false, reduceIte, upd_z, g0, g1, g2, g3, BB, sr]; done) | (simp only [hup_app, Nat.add_left_cancel_iff, Nat.left_eq_add, Nat.add_eq_left, Nat.reduceEqDiff, reduceCtorEq, if_true, if_false, ite_true, ite_false, reduceIte, upd_z, g0, g1, g2, g3, BB, sr]; rfl) | ((repeat rw [hup_ne _ _ (by omega)]); done) | (rw [hup_ne _ _ (by omega)]; (repeat rw [hup_ne _ _ (by omega)]))
      rw [← hH, blk_out hq]
    · have hpay : payF G w n k = G 7 10 * G 5 k / onW G w n := by unfold payF; rw [if_pos ⟨Classical.not_not.mp q, by omega⟩]
      have q3 : 0 < onW G w n := by omega
      simp (disch := omega) only [z_lt, z_le, z_eq, z_in, z_nat, Int.toNat_natCast, upd_z, z_l, zl_0, zl_add, zl_sub, zl_mul, zl_i, zl_eq, zl_div, Int.reduceLT, Int.reduceLE, Int.reduceToNat, Nat.reduceAdd, Nat.reduceLeDiff, not_false_eq_true, true_and, and_true]
      rw [← hpay]
      have e6 : st1 (st1 (cp k (payF G w n) (G 6)) k 0) k (payF G w n k) = cp (k + 1) (payF G w n) (G 6) := by rw [st1_st1, cp_s]
      have e7 : cp (k + 1) (payF G w n) (G 6) k = payF G w n k := if_pos (Nat.lt_succ_self k)
      simp only [e6, e7, z_sub]
      refine R_hl ?_ (by rw [Int.sub_sub]) ih
      refine isB_eq ⟨?_, ?_, ?_, ?_, ?_⟩ (fun q hq => ?_)
      all_goals first | (simp only [hup_app, Nat.add_left_cancel_iff, Nat.left_eq_add, Nat.add_eq_left, Nat.reduceEqDiff, reduceCtorEq, if_true, if_false, ite_true, ite_false, reduceIte, upd_z, g0, g1, g2, g3, BB, sr]; done) | (simp only [hup_app, Nat.add_left_cancel_iff, Nat.left_eq_add, Nat.add_eq_left, Nat.reduceEqDiff, reduceCtorEq, if_true, if_false, ite_true, ite_false, reduceIte, upd_z, g0, g1, g2, g3, BB, sr]; rfl) | ((repeat rw [hup_ne _ _ (by omega)]); done) | (rw [hup_ne _ _ (by omega)]; (repeat rw [hup_ne _ _ (by omega)]))
      rw [← hH, blk_out hq]
/-- as many bets as the other has, all rows -/
def b_bec (G K : GS) : GS := sr (sr (sr (sr (sr G 3 (cp 10 (K 3) (G 3))) 4 (cp 10 (K 4) (G 4))) 5 (cp 10 (K 5) (G 5))) 6 (cp 10 (K 6) (G 6))) 7 (st1 (st1 (G 7) 9 (K 7 9)) 10 (K 7 10))
set_option maxRecDepth 16384 in
theorem sp_3 {c : Nat} {K : GS} (hB : isB h b G) (hC : isB h c K) (hd : c + 5 ≤ b ∨ b + 5 ≤ c) : Sp E (d + 2) 3 [.ref b, .ref c] h sz (rets none (blk h b 5 (BB b (b_bec G K))) sz) := by
  obtain ⟨h0, h1, h2, h3, h4⟩ := hB
  obtain ⟨g0, g1, g2, g3, g4⟩ := hC
  have n_0_0 : (c = b) = False := eq_false (by omega)
  have n_0_1 : (c = b + 1) = False := eq_false (by omega)
  have n_0_2 : (c = b + 2) = False := eq_false (by omega)
  have n_0_3 : (c = b + 3) = False := eq_false (by omega)
  have n_0_4 : (c = b + 4) = False := eq_false (by omega)
  have n_1_0 : (c + 1 = b) = False := eq_false (by omega)
  have n_1_1 : (c + 1 = b + 1) = False := eq_false (by omega)
  have n_1_2 : (c + 1 = b + 2) = False := eq_false (by omega)
  have n_1_3 : (c + 1 = b + 3) = False := eq_false (by omega)
  have n_1_4 : (c + 1 = b + 4) = False := eq_false (by omega)
  have n_2_0 : (c + 2 = b) = False := eq_false (by omega)
  have n_2_1 : (c + 2 = b + 1) = False := eq_false (by omega)
  have n_2_2 : (c + 2 = b + 2) = False := eq_false (by omega)
  have n_2_3 : (c + 2 = b + 3) = False := eq_false (by omega)
  have n_2_4 : (c + 2 = b + 4) = False := eq_false (by omega)
  have n_3_0 : (c + 3 = b) = False := eq_false (by omega)
  have n_3_1 : (c + 3 = b + 1) = False := eq_false (by omega)
  have n_3_2 : (c + 3 = b + 2) = False := eq_false (by omega)
  have n_3_3 : (c + 3 = b + 3) = False := eq_false (by omega)
  have n_3_4 : (c + 3 = b + 4) = False := eq_false (by omega)
  have n_4_0 : (c + 4 = b) = False := eq_false (by omega)
  have n_4_1 : (c + 4 = b + 1) = False := eq_false (by omega)
  have n_4_2 : (c + 4 = b + 2) = False := eq_false (by omega)
  have n_4_3 : (c + 4 = b + 3) = False := eq_false (by omega)
  have n_4_4 : (c + 4 = b + 4) = False := eq_false (by omega)
  refine ⟨mi_3, mt_3, Nat.le_of_ble_eq_true rfl, ?_⟩
  change Rr _ _ _ _ mi_3 _ 0 [some (.ref b), some (.ref c)] [] _ _ 0 0
  refine R_run 60 ?_
  simp only [run_s, run_0, isc, Bool.or_false, Bool.false_or, Bool.or_true, Bool.true_or, Bool.or_self, cond_false, cond_true, gl, sl, stl, stl2, c2, isw, nf, pf, lnb, tk, true_and, and_true, nsg0, nsg1, Int.cast_ofNat_Int, Int.natCast_zero, Int.natCast_one, zero_z, z_add, z_sub, z_mul, z_neg, cnd_eq, cnd_ne, cnd_lt, cnd_ge, cnd_gt, cnd_le, vok_0, vok_3r, vok_3n, vok_4, Nat.add_zero, Nat.zero_add, Nat.reduceAdd, Nat.reduceSub, Nat.reduceMod, Nat.reduceDiv, Nat.reduceEqDiff, Nat.reduceLeDiff, Nat.reduceMul, Int.reduceNeg, if_true, if_false, ite_true, ite_false, reduceIte, hup_app, Nat.add_left_cancel_iff, Nat.left_eq_add, Nat.add_eq_left, reduceCtorEq, subc_0, subc_1, subc_2, subc_3, subc_4, subc_5, subc_6, subc_7, subc_8, subc_9, subc_10, subc_11, subc_12, sube_2, sube_3, sube_5, sube_8, sube_9, sube_10, rets_ok, sI_aload_n, sI_bipush, sI_getfield, sI_iconst, sI_invokestatic, sI_putfield, sI_return_, ix_3_0, ix_3_1, ix_3_2, ix_3_5, ix_3_8, ix_3_9, ix_3_10, ix_3_13, ix_3_16, ix_3_17, ix_3_20, ix_3_21, ix_3_22, ix_3_25, ix_3_26, ix_3_28, ix_3_31, ix_3_32, ix_3_35, ix_3_36, ix_3_37, ix_3_40, ix_3_41, ix_3_43, ix_3_46, ix_3_47, ix_3_50, ix_3_51, ix_3_52, ix_3_55, ix_3_56, ix_3_58, ix_3_61, ix_3_62, ix_3_65, ix_3_66, ix_3_67, ix_3_70, ix_3_71, ix_3_73, ix_3_76, mC_3, mS_3, mH_3, h0, h1, h2, h3, h4, g0, g1, g2, g3, g4, BB, n_0_0, n_0_1, n_0_2, n_0_3, n_0_4, n_1_0, n_1_1, n_1_2, n_1_3, n_1_4, n_2_0, n_2_1, n_2_2, n_2_3, n_2_4, n_3_0, n_3_1, n_3_2, n_3_3, n_3_4, n_4_0, n_4_1, n_4_2, n_4_3, n_4_4]
  refine R_cpI (m0 := 10) (m1 := 10) (f := fun k => z (K 3 k)) (g := fun k => z (G 3 k)) ix_3_28 ?_ ?_ (by omega) (Nat.le_of_ble_eq_true rfl) (by omega) ?_
  · simp only [hup_app, Nat.add_left_cancel_iff, Nat.left_eq_add, Nat.add_eq_left, Nat.reduceEqDiff, reduceCtorEq, if_true, if_false, ite_true, ite_false, reduceIte, n_0_0, n_0_1, n_0_2, n_0_3, n_0_4, n_1_0, n_1_1, n_1_2, n_1_3, n_1_4, n_2_0, n_2_1, n_2_2, n_2_3, n_2_4, n_3_0, n_3_1, n_3_2, n_3_3, n_3_4, n_4_0, n_4_1, n_4_2, n_4_3, n_4_4, g1, BB]
  · simp only [hup_app, Nat.add_left_cancel_iff, Nat.left_eq_add, Nat.add_eq_left, Nat.reduceEqDiff, reduceCtorEq, if_true, if_false, ite_true, ite_false, reduceIte, h1, BB]
  refine R_run 60 ?_
  simp only [run_s, run_0, isc, Bool.or_false, Bool.false_or, Bool.or_true, Bool.true_or, Bool.or_self, cond_false, cond_true, gl, sl, stl, stl2, c2, isw, nf, pf, lnb, tk, true_and, and_true, nsg0, nsg1, Int.cast_ofNat_Int, Int.natCast_zero, Int.natCast_one, zero_z, z_add, z_sub, z_mul, z_neg, cnd_eq, cnd_ne, cnd_lt, cnd_ge, cnd_gt, cnd_le, vok_0, vok_3r, vok_3n, vok_4, Nat.add_zero, Nat.zero_add, Nat.reduceAdd, Nat.reduceSub, Nat.reduceMod, Nat.reduceDiv, Nat.reduceEqDiff, Nat.reduceLeDiff, Nat.reduceMul, Int.reduceNeg, if_true, if_false, ite_true, ite_false, reduceIte, hup_app, Nat.add_left_cancel_iff, Nat.left_eq_add, Nat.add_eq_left, reduceCtorEq, subc_0, subc_1, subc_2, subc_3, subc_4, subc_5, subc_6, subc_7, subc_8, subc_9, subc_10, subc_11, subc_12, sube_2, sube_3, sube_5, sube_8, sube_9, sube_10, rets_ok, sI_aload_n, sI_bipush, sI_getfield, sI_iconst, sI_invokestatic, sI_putfield, sI_return_, ix_3_0, ix_3_1, ix_3_2, ix_3_5, ix_3_8, ix_3_9, ix_3_10, ix_3_13, ix_3_16, ix_3_17, ix_3_20, ix_3_21, ix_3_22, ix_3_25, ix_3_26, ix_3_28, ix_3_31, ix_3_32, ix_3_35, ix_3_36, ix_3_37, ix_3_40, ix_3_41, ix_3_43, ix_3_46, ix_3_47, ix_3_50, ix_3_51, ix_3_52, ix_3_55, ix_3_56, ix_3_58, ix_3_61, ix_3_62, ix_3_65, ix_3_66, ix_3_67, ix_3_70, ix_3_71, ix_3_73, ix_3_76, mC_3, mS_3, mH_3, h0, h1, h2, h3, h4, g0, g1, g2, g3, g4, BB, n_0_0, n_0_1, n_0_2, n_0_3, n_0_4, n_1_0, n_1_1, n_1_2, n_1_3, n_1_4, n_2_0, n_2_1, n_2_2, n_2_3, n_2_4, n_3_0, n_3_1, n_3_2, n_3_3, n_3_4, n_4_0, n_4_1, n_4_2, n_4_3, n_4_4]
  refine R_cpI (m0 := 10) (m1 := 10) (f := fun k => z (K 4 k)) (g := fun k => z (G 4 k)) ix_3_43 ?_ ?_ (by omega) (Nat.le_of_ble_eq_true rfl) (by omega) ?_
  · simp only [hup_app, Nat.add_left_cancel_iff, Nat.left_eq_add, Nat.add_eq_left, Nat.reduceEqDiff, reduceCtorEq, if_true, if_false, ite_true, ite_false, reduceIte, n_0_0, n_0_1, n_0_2, n_0_3, n_0_4, n_1_0, n_1_1, n_1_2, n_1_3, n_1_4, n_2_0, n_2_1, n_2_2, n_2_3, n_2_4, n_3_0, n_3_1, n_3_2, n_3_3, n_3_4, n_4_0, n_4_1, n_4_2, n_4_3, n_4_4, g2, BB]
  · simp only [hup_app, Nat.add_left_cancel_iff, Nat.left_eq_add, Nat.add_eq_left, Nat.reduceEqDiff, reduceCtorEq, if_true, if_false, ite_true, ite_false, reduceIte, h2, BB]
  refine R_run 60 ?_
  simp only [run_s, run_0, isc, Bool.or_false, Bool.false_or, Bool.or_true, Bool.true_or, Bool.or_self, cond_false, cond_true, gl, sl, stl, stl2, c2, isw, nf, pf, lnb, tk, true_and, and_true, nsg0, nsg1, Int.cast_ofNat_Int, Int.natCast_zero, Int.natCast_one, zero_z, z_add, z_sub, z_mul, z_neg, cnd_eq, cnd_ne, cnd_lt, cnd_ge, cnd_gt, cnd_le, vok_0, vok_3r, vok_3n, vok_4, Nat.add_zero, Nat.zero_add, Nat.reduceAdd, Nat.reduceSub, Nat.reduceMod, Nat.reduceDiv, Nat.reduceEqDiff, Nat.reduceLeDiff, Nat.reduceMul, Int.reduceNeg, if_true, if_false, ite_true, ite_false, reduceIte, hup_app, Nat.add_left_cancel_iff, Nat.left_eq_add, Nat.add_eq_left, reduceCtorEq, subc_0, subc_1, subc_2, subc_3, subc_4, subc_5, subc_6, subc_7, subc_8, subc_9, subc_10, subc_11, subc_12, sube_2, sube_3, sube_5, sube_8, sube_9, sube_10, rets_ok, sI_aload_n, sI_bipush, sI_getfield, sI_iconst, sI_invokestatic, sI_putfield, sI_return_, ix_3_0, ix_3_1, ix_3_2, ix_3_5, ix_3_8, ix_3_9, ix_3_10, ix_3_13, ix_3_16, ix_3_17, ix_3_20, ix_3_21, ix_3_22, ix_3_25, ix_3_26, ix_3_28, ix_3_31, ix_3_32, ix_3_35, ix_3_36, ix_3_37, ix_3_40, ix_3_41, ix_3_43, ix_3_46, ix_3_47, ix_3_50, ix_3_51, ix_3_52, ix_3_55, ix_3_56, ix_3_58, ix_3_61, ix_3_62, ix_3_65, ix_3_66, ix_3_67, ix_3_70, ix_3_71, ix_3_73, ix_3_76, mC_3, mS_3, mH_3, h0, h1, h2, h3, h4, g0, g1, g2, g3, g4, BB, n_0_0, n_0_1, n_0_2, n_0_3, n_0_4, n_1_0, n_1_1, n_1_2, n_1_3, n_1_4, n_2_0, n_2_1, n_2_2, n_2_3, n_2_4, n_3_0, n_3_1, n_3_2, n_3_3, n_3_4, n_4_0, n_4_1, n_4_2, n_4_3, n_4_4]
  refine R_cpI (m0 := 10) (m1 := 10) (f := fun k => z (K 5 k)) (g := fun k => z (G 5 k)) ix_3_58 ?_ ?_ (by omega) (Nat.le_of_ble_eq_true rfl) (by omega) ?_
  · simp only [hup_app, Nat.add_left_cancel_iff, Nat.left_eq_add, Nat.add_eq_left, Nat.reduceEqDiff, reduceCtorEq, if_true, if_false, ite_true, ite_false, reduceIte, n_0_0, n_0_1, n_0_2, n_0_3, n_0_4, n_1_0, n_1_1, n_1_2, n_1_3, n_1_4, n_2_0, n_2_1, n_2_2, n_2_3, n_2_4, n_3_0, n_3_1, n_3_2, n_3_3, n_3_4, n_4_0, n_4_1, n_4_2, n_4_3, n_4_4, g3, BB]
  · simp only [hup_app, Nat.add_left_cancel_iff, Nat.left_eq_add, Nat.add_eq_left, Nat.reduceEqDiff, reduceCtorEq, if_true, if_false, ite_true, ite_false, reduceIte, h3, BB]
  refine R_run 60 ?_
  simp only [run_s, run_0, isc, Bool.or_false, Bool.false_or, Bool.or_true, Bool.true_or, Bool.or_self, cond_false, cond_true, gl, sl, stl, stl2, c2, isw, nf, pf, lnb, tk, true_and, and_true, nsg0, nsg1, Int.cast_ofNat_Int, Int.natCast_zero, Int.natCast_one, zero_z, z_add, z_sub, z_mul, z_neg, cnd_eq, cnd_ne, cnd_lt, cnd_ge, cnd_gt, cnd_le, vok_0, vok_3r, vok_3n, vok_4, Nat.add_zero, Nat.zero_add, Nat.reduceAdd, Nat.reduceSub, Nat.reduceMod, Nat.reduceDiv, Nat.reduceEqDiff, Nat.reduceLeDiff, Nat.reduceMul, Int.reduceNeg, if_true, if_false, ite_true, ite_false, reduceIte, hup_app, Nat.add_left_cancel_iff, Nat.left_eq_add, Nat.add_eq_left, reduceCtorEq, subc_0, subc_1, subc_2, subc_3, subc_4, subc_5, subc_6, subc_7, subc_8, subc_9, subc_10, subc_11, subc_12, sube_2, sube_3, sube_5, sube_8, sube_9, sube_10, rets_ok, sI_aload_n, sI_bipush, sI_getfield, sI_iconst, sI_invokestatic, sI_putfield, sI_return_, ix_3_0, ix_3_1, ix_3_2, ix_3_5, ix_3_8, ix_3_9, ix_3_10, ix_3_13, ix_3_16, ix_3_17, ix_3_20, ix_3_21, ix_3_22, ix_3_25, ix_3_26, ix_3_28, ix_3_31, ix_3_32, ix_3_35, ix_3_36, ix_3_37, ix_3_40, ix_3_41, ix_3_43, ix_3_46, ix_3_47, ix_3_50, ix_3_51, ix_3_52, ix_3_55, ix_3_56, ix_3_58, ix_3_61, ix_3_62, ix_3_65, ix_3_66, ix_3_67, ix_3_70, ix_3_71, ix_3_73, ix_3_76, mC_3, mS_3, mH_3, h0, h1, h2, h3, h4, g0, g1, g2, g3, g4, BB, n_0_0, n_0_1, n_0_2, n_0_3, n_0_4, n_1_0, n_1_1, n_1_2, n_1_3, n_1_4, n_2_0, n_2_1, n_2_2, n_2_3, n_2_4, n_3_0, n_3_1, n_3_2, n_3_3, n_3_4, n_4_0, n_4_1, n_4_2, n_4_3, n_4_4]
  refine R_cpI (m0 := 10) (m1 := 10) (f := fun k => z (K 6 k)) (g := fun k => z (G 6 k)) ix_3_73 ?_ ?_ (by omega) (Nat.le_of_ble_eq_true rfl) (by omega) ?_
  · simp only [hup_app, Nat.add_left_cancel_iff, Nat.left_eq_add, Nat.add_eq_left, Nat.reduceEqDiff, reduceCtorEq, if_true, if_false, ite_true, ite_false, reduceIte, n_0_0, n_0_1, n_0_2, n_0_3, n_0_4, n_1_0, n_1_1, n_1_2, n_1_3, n_1_4, n_2_0, n_2_1, n_2_2, n_2_3, n_2_4, n_3_0, n_3_1, n_3_2, n_3_3, n_3_4, n_4_0, n_4_1, n_4_2, n_4_3, n_4_4, g4, BB]
  · simp only [hup_app, Nat.add_left_cancel_iff, Nat.left_eq_add, Nat.add_eq_left, Nat.reduceEqDiff, reduceCtorEq, if_true, if_false, ite_true, ite_false, reduceIte, h4, BB]
  refine R_run 60 ?_
  simp only [run_s, run_0, isc, Bool.or_false, Bool.false_or, Bool.or_true, Bool.true_or, Bool.or_self, cond_false, cond_true, gl, sl, stl, stl2, c2, isw, nf, pf, lnb, tk, true_and, and_true, nsg0, nsg1, Int.cast_ofNat_Int, Int.natCast_zero, Int.natCast_one, zero_z, z_add, z_sub, z_mul, z_neg, cnd_eq, cnd_ne, cnd_lt, cnd_ge, cnd_gt, cnd_le, vok_0, vok_3r, vok_3n, vok_4, Nat.add_zero, Nat.zero_add, Nat.reduceAdd, Nat.reduceSub, Nat.reduceMod, Nat.reduceDiv, Nat.reduceEqDiff, Nat.reduceLeDiff, Nat.reduceMul, Int.reduceNeg, if_true, if_false, ite_true, ite_false, reduceIte, hup_app, Nat.add_left_cancel_iff, Nat.left_eq_add, Nat.add_eq_left, reduceCtorEq, subc_0, subc_1, subc_2, subc_3, subc_4, subc_5, subc_6, subc_7, subc_8, subc_9, subc_10, subc_11, subc_12, sube_2, sube_3, sube_5, sube_8, sube_9, sube_10, rets_ok, sI_aload_n, sI_bipush, sI_getfield, sI_iconst, sI_invokestatic, sI_putfield, sI_return_, ix_3_0, ix_3_1, ix_3_2, ix_3_5, ix_3_8, ix_3_9, ix_3_10, ix_3_13, ix_3_16, ix_3_17, ix_3_20, ix_3_21, ix_3_22, ix_3_25, ix_3_26, ix_3_28, ix_3_31, ix_3_32, ix_3_35, ix_3_36, ix_3_37, ix_3_40, ix_3_41, ix_3_43, ix_3_46, ix_3_47, ix_3_50, ix_3_51, ix_3_52, ix_3_55, ix_3_56, ix_3_58, ix_3_61, ix_3_62, ix_3_65, ix_3_66, ix_3_67, ix_3_70, ix_3_71, ix_3_73, ix_3_76, mC_3, mS_3, mH_3, h0, h1, h2, h3, h4, g0, g1, g2, g3, g4, BB, n_0_0, n_0_1, n_0_2, n_0_3, n_0_4, n_1_0, n_1_1, n_1_2, n_1_3, n_1_4, n_2_0, n_2_1, n_2_2, n_2_3, n_2_4, n_3_0, n_3_1, n_3_2, n_3_3, n_3_4, n_4_0, n_4_1, n_4_2, n_4_3, n_4_4]
  refine isB_eq ⟨?_, ?_, ?_, ?_, ?_⟩ (fun q hq => ?_)
  all_goals first | (simp only [hup_app, Nat.add_left_cancel_iff, Nat.left_eq_add, Nat.add_eq_left, Nat.reduceEqDiff, reduceCtorEq, if_true, if_false, ite_true, ite_false, reduceIte, upd_z, h0, h1, h2, h3, h4, BB, sr, b_bec, st1, Int.toNat_zero, Int.reduceToNat, cpy_z]; done) | (simp only [hup_app, Nat.add_left_cancel_iff, Nat.left_eq_add, Nat.add_eq_left, Nat.reduceEqDiff, reduceCtorEq, if_true, if_false, ite_true, ite_false, reduceIte, upd_z, h0, h1, h2, h3, h4, BB, sr, b_bec, st1, Int.toNat_zero, Int.reduceToNat, cpy_z]; rfl) | ((repeat rw [hup_ne _ _ (by omega)]); done) | (rw [hup_ne _ _ (by omega)]; (repeat rw [hup_ne _ _ (by omega)]))
/-- two games' bets alike -/
def b_like (G K : GS) : Prop := K 7 9 = G 7 9 ∧ K 7 10 = G 7 10 ∧ ∀ k : Nat, (k : Int) < G 7 9 → K 3 k = G 3 k ∧ K 4 k = G 4 k ∧ K 5 k = G 5 k ∧ K 6 k = G 6 k
set_option maxRecDepth 16384 in
theorem sp_4 {n c : Nat} {K : GS} (hB : isB h b G) (hC : isB h c K) (hn : G 7 9 = n) (hn2 : n ≤ 10) (hl : b_like G K) : Sp E (d + 1) 4 [.ref b, .ref c] h sz (rets (some (.int (z 1))) h sz) := by
  obtain ⟨h0, h1, h2, h3, h4⟩ := hB
  obtain ⟨g0, g1, g2, g3, g4⟩ := hC
  obtain ⟨l1, l2, l3⟩ := hl
  rw [hn] at l1
  refine ⟨mi_4, mt_4, Nat.le_of_ble_eq_true rfl, ?_⟩
  change Rr _ _ _ _ mi_4 _ 0 [some (.ref b), some (.ref c), none, none] [] _ _ 0 0
  refine R_run 60 ?_
  simp only [run_s, run_0, isc, Bool.or_false, Bool.false_or, Bool.or_true, Bool.true_or, Bool.or_self, cond_false, cond_true, gl, sl, stl, stl2, c2, isw, nf, pf, lnb, tk, true_and, and_true, nsg0, nsg1, Int.cast_ofNat_Int, Int.natCast_zero, Int.natCast_one, zero_z, z_add, z_sub, z_mul, z_neg, cnd_eq, cnd_ne, cnd_lt, cnd_ge, cnd_gt, cnd_le, vok_0, vok_3r, vok_3n, vok_4, Nat.add_zero, Nat.zero_add, Nat.reduceAdd, Nat.reduceSub, Nat.reduceMod, Nat.reduceDiv, Nat.reduceEqDiff, Nat.reduceLeDiff, Nat.reduceMul, Int.reduceNeg, if_true, if_false, ite_true, ite_false, reduceIte, hup_app, Nat.add_left_cancel_iff, Nat.left_eq_add, Nat.add_eq_left, reduceCtorEq, subc_0, subc_1, subc_2, subc_3, subc_4, subc_5, subc_6, subc_7, subc_8, subc_9, subc_10, subc_11, subc_12, sube_2, sube_3, sube_5, sube_8, sube_9, sube_10, rets_ok, sI_aload_n, sI_bipush, sI_getfield, sI_goto, sI_iaload, sI_iconst, sI_ifCond, sI_if_icmp, sI_iinc, sI_iload_n, sI_ireturn, sI_istore_n, ix_4_0, ix_4_1, ix_4_4, ix_4_5, ix_4_8, ix_4_11, ix_4_12, ix_4_15, ix_4_16, ix_4_19, ix_4_22, ix_4_23, ix_4_26, ix_4_27, ix_4_28, ix_4_29, ix_4_30, ix_4_31, ix_4_34, ix_4_35, ix_4_36, ix_4_39, ix_4_42, ix_4_43, ix_4_45, ix_4_48, ix_4_49, ix_4_52, ix_4_53, ix_4_54, ix_4_55, ix_4_58, ix_4_59, ix_4_60, ix_4_63, ix_4_64, ix_4_67, ix_4_68, ix_4_69, ix_4_70, ix_4_73, ix_4_74, ix_4_75, ix_4_78, ix_4_79, ix_4_82, ix_4_83, ix_4_84, ix_4_85, ix_4_88, ix_4_89, ix_4_90, ix_4_93, ix_4_94, ix_4_97, ix_4_98, ix_4_99, ix_4_100, ix_4_103, ix_4_104, ix_4_105, ix_4_108, ix_4_109, ix_4_112, ix_4_113, ix_4_114, ix_4_117, ix_4_120, ix_4_121, mC_4, mS_4, mH_4, h0, g0, BB, hn, l1, l2, not_true_eq_false, not_false_eq_true, false_imp_iff, true_imp_iff, true_and, and_true]
  refine loop_up (P := fun k => Rr _ _ _ _ mi_4 _ 30 [some (.ref b), some (.ref c), some (.int (z 1)), some (.int (z k))] [] h sz 0 0) (n := n) ?_ (fun k hk ih => ?_) 0 (Nat.zero_le _)
  · refine R_hd ix_4_30 60 ?_
    simp only [run_s, run_0, isc, Bool.or_false, Bool.false_or, Bool.or_true, Bool.true_or, Bool.or_self, cond_false, cond_true, gl, sl, stl, stl2, c2, isw, nf, pf, lnb, tk, true_and, and_true, nsg0, nsg1, Int.cast_ofNat_Int, Int.natCast_zero, Int.natCast_one, zero_z, z_add, z_sub, z_mul, z_neg, cnd_eq, cnd_ne, cnd_lt, cnd_ge, cnd_gt, cnd_le, vok_0, vok_3r, vok_3n, vok_4, Nat.add_zero, Nat.zero_add, Nat.reduceAdd, Nat.reduceSub, Nat.reduceMod, Nat.reduceDiv, Nat.reduceEqDiff, Nat.reduceLeDiff, Nat.reduceMul, Int.reduceNeg, if_true, if_false, ite_true, ite_false, reduceIte, hup_app, Nat.add_left_cancel_iff, Nat.left_eq_add, Nat.add_eq_left, reduceCtorEq, subc_0, subc_1, subc_2, subc_3, subc_4, subc_5, subc_6, subc_7, subc_8, subc_9, subc_10, subc_11, subc_12, sube_2, sube_3, sube_5, sube_8, sube_9, sube_10, rets_ok, sI_aload_n, sI_bipush, sI_getfield, sI_goto, sI_iaload, sI_iconst, sI_ifCond, sI_if_icmp, sI_iinc, sI_iload_n, sI_ireturn, sI_istore_n, ix_4_0, ix_4_1, ix_4_4, ix_4_5, ix_4_8, ix_4_11, ix_4_12, ix_4_15, ix_4_16, ix_4_19, ix_4_22, ix_4_23, ix_4_26, ix_4_27, ix_4_28, ix_4_29, ix_4_30, ix_4_31, ix_4_34, ix_4_35, ix_4_36, ix_4_39, ix_4_42, ix_4_43, ix_4_45, ix_4_48, ix_4_49, ix_4_52, ix_4_53, ix_4_54, ix_4_55, ix_4_58, ix_4_59, ix_4_60, ix_4_63, ix_4_64, ix_4_67, ix_4_68, ix_4_69, ix_4_70, ix_4_73, ix_4_74, ix_4_75, ix_4_78, ix_4_79, ix_4_82, ix_4_83, ix_4_84, ix_4_85, ix_4_88, ix_4_89, ix_4_90, ix_4_93, ix_4_94, ix_4_97, ix_4_98, ix_4_99, ix_4_100, ix_4_103, ix_4_104, ix_4_105, ix_4_108, ix_4_109, ix_4_112, ix_4_113, ix_4_114, ix_4_117, ix_4_120, ix_4_121, mC_4, mS_4, mH_4, h0, h1, h2, h3, h4, g0, g1, g2, g3, g4, BB, hn]
    simp (disch := omega) only [z_lt, z_le, z_eq, z_in, z_nat, Int.toNat_natCast, upd_z, z_l, zl_0, zl_add, zl_sub, zl_mul, zl_i, zl_eq, zl_div, Int.reduceLT, Int.reduceLE, Int.reduceToNat, Nat.reduceAdd, Nat.reduceLeDiff, not_false_eq_true, true_and, and_true]
    rw [vok_z1 (Or.inr rfl)]
    simp only [rets_ok, and_self, implies_true, true_and]
    exact fun _ q => absurd (Int.le_refl _) q
  · obtain ⟨l4, l5, l6, l7⟩ := l3 k (by omega)
    simp only [Int.natCast_add, Int.natCast_one] at ih
    refine R_hd ix_4_30 60 ?_
    simp only [run_s, run_0, isc, Bool.or_false, Bool.false_or, Bool.or_true, Bool.true_or, Bool.or_self, cond_false, cond_true, gl, sl, stl, stl2, c2, isw, nf, pf, lnb, tk, true_and, and_true, nsg0, nsg1, Int.cast_ofNat_Int, Int.natCast_zero, Int.natCast_one, zero_z, z_add, z_sub, z_mul, z_neg, cnd_eq, cnd_ne, cnd_lt, cnd_ge, cnd_gt, cnd_le, vok_0, vok_3r, vok_3n, vok_4, Nat.add_zero, Nat.zero_add, Nat.reduceAdd, Nat.reduceSub, Nat.reduceMod, Nat.reduceDiv, Nat.reduceEqDiff, Nat.reduceLeDiff, Nat.reduceMul, Int.reduceNeg, if_true, if_false, ite_true, ite_false, reduceIte, hup_app, Nat.add_left_cancel_iff, Nat.left_eq_add, Nat.add_eq_left, reduceCtorEq, subc_0, subc_1, subc_2, subc_3, subc_4, subc_5, subc_6, subc_7, subc_8, subc_9, subc_10, subc_11, subc_12, sube_2, sube_3, sube_5, sube_8, sube_9, sube_10, rets_ok, sI_aload_n, sI_bipush, sI_getfield, sI_goto, sI_iaload, sI_iconst, sI_ifCond, sI_if_icmp, sI_iinc, sI_iload_n, sI_ireturn, sI_istore_n, ix_4_0, ix_4_1, ix_4_4, ix_4_5, ix_4_8, ix_4_11, ix_4_12, ix_4_15, ix_4_16, ix_4_19, ix_4_22, ix_4_23, ix_4_26, ix_4_27, ix_4_28, ix_4_29, ix_4_30, ix_4_31, ix_4_34, ix_4_35, ix_4_36, ix_4_39, ix_4_42, ix_4_43, ix_4_45, ix_4_48, ix_4_49, ix_4_52, ix_4_53, ix_4_54, ix_4_55, ix_4_58, ix_4_59, ix_4_60, ix_4_63, ix_4_64, ix_4_67, ix_4_68, ix_4_69, ix_4_70, ix_4_73, ix_4_74, ix_4_75, ix_4_78, ix_4_79, ix_4_82, ix_4_83, ix_4_84, ix_4_85, ix_4_88, ix_4_89, ix_4_90, ix_4_93, ix_4_94, ix_4_97, ix_4_98, ix_4_99, ix_4_100, ix_4_103, ix_4_104, ix_4_105, ix_4_108, ix_4_109, ix_4_112, ix_4_113, ix_4_114, ix_4_117, ix_4_120, ix_4_121, mC_4, mS_4, mH_4, h0, h1, h2, h3, h4, g0, g1, g2, g3, g4, BB, hn]
    simp (disch := omega) only [z_lt, z_le, z_eq, z_in, z_nat, Int.toNat_natCast, upd_z, z_l, zl_0, zl_add, zl_sub, zl_mul, zl_i, zl_eq, zl_div, Int.reduceLT, Int.reduceLE, Int.reduceToNat, Nat.reduceAdd, Nat.reduceLeDiff, not_false_eq_true, true_and, and_true, l4, l5, l6, l7]
    simp only [not_true_eq_false, false_imp_iff, true_and, not_false_eq_true, true_imp_iff]
    exact ⟨fun q => absurd q (by omega), fun _ => ⟨fun q => absurd q (by omega), fun _ => ⟨fun q => absurd q (by omega), fun _ => ⟨by omega, by omega, by omega, by omega, by omega, by omega, by omega, by omega, ih⟩⟩⟩⟩
/- no bets yet, all rows 0 -/
set_option maxRecDepth 16384 in
theorem sp_1 (h0 : h b = some (.inr (1, dfl 1))) : Sp E (d + 2) 1 [.ref b] h (b + 1) (rets none (blk h b 5 (BB b (fun _ _ => 0))) (b + 5)) := by
  refine ⟨mi_1, mt_1, Nat.le_of_ble_eq_true rfl, ?_⟩
  change Rr _ _ _ _ mi_1 _ 0 [some (.ref b)] [] _ _ 0 0
  refine R_run 60 ?_
  simp only [run_s, run_0, isc, Bool.or_false, Bool.false_or, Bool.or_true, Bool.true_or, Bool.or_self, cond_false, cond_true, gl, sl, stl, stl2, c2, isw, nf, pf, lnb, tk, true_and, and_true, nsg0, nsg1, Int.cast_ofNat_Int, Int.natCast_zero, Int.natCast_one, zero_z, z_add, z_sub, z_mul, z_neg, cnd_eq, cnd_ne, cnd_lt, cnd_ge, cnd_gt, cnd_le, vok_0, vok_3r, vok_3n, vok_4, Nat.add_zero, Nat.zero_add, Nat.reduceAdd, Nat.reduceSub, Nat.reduceMod, Nat.reduceDiv, Nat.reduceEqDiff, Nat.reduceLeDiff, Nat.reduceMul, Int.reduceNeg, if_true, if_false, ite_true, ite_false, reduceIte, hup_app, Nat.add_left_cancel_iff, Nat.left_eq_add, Nat.add_eq_left, reduceCtorEq, subc_0, subc_1, subc_2, subc_3, subc_4, subc_5, subc_6, subc_7, subc_8, subc_9, subc_10, subc_11, subc_12, sube_2, sube_3, sube_5, sube_8, sube_9, sube_10, rets_ok, sI_aload_n, sI_bipush, sI_invokespecial, sI_newarray, sI_putfield, sI_return_, ix_1_0, ix_1_1, ix_1_4, ix_1_5, ix_1_7, ix_1_9, ix_1_12, ix_1_13, ix_1_15, ix_1_17, ix_1_20, ix_1_21, ix_1_23, ix_1_25, ix_1_28, ix_1_29, ix_1_31, ix_1_33, ix_1_36, mC_1, mS_1, mH_1]
  refine R_obj ix_1_1 (Nat.le_of_ble_eq_true rfl) (by omega) ?_
  refine R_run 60 ?_
  simp only [run_s, run_0, isc, Bool.or_false, Bool.false_or, Bool.or_true, Bool.true_or, Bool.or_self, cond_false, cond_true, gl, sl, stl, stl2, c2, isw, nf, pf, lnb, tk, true_and, and_true, nsg0, nsg1, Int.cast_ofNat_Int, Int.natCast_zero, Int.natCast_one, zero_z, z_add, z_sub, z_mul, z_neg, cnd_eq, cnd_ne, cnd_lt, cnd_ge, cnd_gt, cnd_le, vok_0, vok_3r, vok_3n, vok_4, Nat.add_zero, Nat.zero_add, Nat.reduceAdd, Nat.reduceSub, Nat.reduceMod, Nat.reduceDiv, Nat.reduceEqDiff, Nat.reduceLeDiff, Nat.reduceMul, Int.reduceNeg, if_true, if_false, ite_true, ite_false, reduceIte, hup_app, Nat.add_left_cancel_iff, Nat.left_eq_add, Nat.add_eq_left, reduceCtorEq, subc_0, subc_1, subc_2, subc_3, subc_4, subc_5, subc_6, subc_7, subc_8, subc_9, subc_10, subc_11, subc_12, sube_2, sube_3, sube_5, sube_8, sube_9, sube_10, rets_ok, sI_aload_n, sI_bipush, sI_invokespecial, sI_newarray, sI_putfield, sI_return_, ix_1_0, ix_1_1, ix_1_4, ix_1_5, ix_1_7, ix_1_9, ix_1_12, ix_1_13, ix_1_15, ix_1_17, ix_1_20, ix_1_21, ix_1_23, ix_1_25, ix_1_28, ix_1_29, ix_1_31, ix_1_33, ix_1_36, mC_1, mS_1, mH_1, h0, dfl, Nat.add_assoc]
  simp (disch := omega) only [z_lt, z_le, z_eq, z_in, z_nat, Int.toNat_natCast, upd_z, z_l, zl_0, zl_add, zl_sub, zl_mul, zl_i, zl_eq, zl_div, Int.reduceLT, Int.reduceLE, Int.reduceToNat, Nat.reduceAdd, Nat.reduceLeDiff, not_false_eq_true, true_and, and_true]
  refine isB_eq ⟨?_, ?_, ?_, ?_, ?_⟩ (fun q hq => ?_)
  all_goals first | (simp only [hup_app, Nat.add_left_cancel_iff, Nat.left_eq_add, Nat.add_eq_left, Nat.reduceEqDiff, reduceCtorEq, if_true, if_false, ite_true, ite_false, reduceIte, upd_z, BB, dfa, zero_z]; done) | (simp only [hup_app, Nat.add_left_cancel_iff, Nat.left_eq_add, Nat.add_eq_left, Nat.reduceEqDiff, reduceCtorEq, if_true, if_false, ite_true, ite_false, reduceIte, upd_z, BB, dfa, zero_z]; rfl) | ((repeat rw [hup_ne _ _ (by omega)]); done) | (rw [hup_ne _ _ (by omega)]; (repeat rw [hup_ne _ _ (by omega)]))
end BETS
