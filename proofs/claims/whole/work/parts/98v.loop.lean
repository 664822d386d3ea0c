/-! ===== the law: its loop, its start ===== -/
section LAWLOOP
variable {E : EX} {h : AH} {sz x nc ns : Nat} {i : Int} {Q : QT}
theorem tsw_238 (v : Int32) : tsw 45 2084 0 34 #[155, 277, 345, 448, 504, 567, 623, 690, 746, 830, 886, 982, 1045, 1108, 1164, 1220, 1312, 1368, 1424, 1492, 1505, 1575, 1631, 1644, 1657, 1713, 1769, 1782, 1795, 1839, 1895, 1950, 1964, 2030, 2071] v = 2129 ∨ tsw 45 2084 0 34 #[155, 277, 345, 448, 504, 567, 623, 690, 746, 830, 886, 982, 1045, 1108, 1164, 1220, 1312, 1368, 1424, 1492, 1505, 1575, 1631, 1644, 1657, 1713, 1769, 1782, 1795, 1839, 1895, 1950, 1964, 2030, 2071] v = 200 ∨ tsw 45 2084 0 34 #[155, 277, 345, 448, 504, 567, 623, 690, 746, 830, 886, 982, 1045, 1108, 1164, 1220, 1312, 1368, 1424, 1492, 1505, 1575, 1631, 1644, 1657, 1713, 1769, 1782, 1795, 1839, 1895, 1950, 1964, 2030, 2071] v = 322 ∨ tsw 45 2084 0 34 #[155, 277, 345, 448, 504, 567, 623, 690, 746, 830, 886, 982, 1045, 1108, 1164, 1220, 1312, 1368, 1424, 1492, 1505, 1575, 1631, 1644, 1657, 1713, 1769, 1782, 1795, 1839, 1895, 1950, 1964, 2030, 2071] v = 390 ∨ tsw 45 2084 0 34 #[155, 277, 345, 448, 504, 567, 623, 690, 746, 830, 886, 982, 1045, 1108, 1164, 1220, 1312, 1368, 1424, 1492, 1505, 1575, 1631, 1644, 1657, 1713, 1769, 1782, 1795, 1839, 1895, 1950, 1964, 2030, 2071] v = 493 ∨ tsw 45 2084 0 34 #[155, 277, 345, 448, 504, 567, 623, 690, 746, 830, 886, 982, 1045, 1108, 1164, 1220, 1312, 1368, 1424, 1492, 1505, 1575, 1631, 1644, 1657, 1713, 1769, 1782, 1795, 1839, 1895, 1950, 1964, 2030, 2071] v = 549 ∨ tsw 45 2084 0 34 #[155, 277, 345, 448, 504, 567, 623, 690, 746, 830, 886, 982, 1045, 1108, 1164, 1220, 1312, 1368, 1424, 1492, 1505, 1575, 1631, 1644, 1657, 1713, 1769, 1782, 1795, 1839, 1895, 1950, 1964, 2030, 2071] v = 612 ∨ tsw 45 2084 0 34 #[155, 277, 345, 448, 504, 567, 623, 690, 746, 830, 886, 982, 1045, 1108, 1164, 1220, 1312, 1368, 1424, 1492, 1505, 1575, 1631, 1644, 1657, 1713, 1769, 1782, 1795, 1839, 1895, 1950, 1964, 2030, 2071] v = 668 ∨ tsw 45 2084 0 34 #[155, 277, 345, 448, 504, 567, 623, 690, 746, 830, 886, 982, 1045, 1108, 1164, 1220, 1312, 1368, 1424, 1492, 1505, 1575, 1631, 1644, 1657, 1713, 1769, 1782, 1795, 1839, 1895, 1950, 1964, 2030, 2071] v = 735 ∨ tsw 45 2084 0 34 #[155, 277, 345, 448, 504, 567, 623, 690, 746, 830, 886, 982, 1045, 1108, 1164, 1220, 1312, 1368, 1424, 1492, 1505, 1575, 1631, 1644, 1657, 1713, 1769, 1782, 1795, 1839, 1895, 1950, 1964, 2030, 2071] v = 791 ∨ tsw 45 2084 0 34 #[155, 277, 345, 448, 504, 567, 623, 690, 746, 830, 886, 982, 1045, 1108, 1164, 1220, 1312, 1368, 1424, 1492, 1505, 1575, 1631, 1644, 1657, 1713, 1769, 1782, 1795, 1839, 1895, 1950, 1964, 2030, 2071] v = 875 ∨ tsw 45 2084 0 34 #[155, 277, 345, 448, 504, 567, 623, 690, 746, 830, 886, 982, 1045, 1108, 1164, 1220, 1312, 1368, 1424, 1492, 1505, 1575, 1631, 1644, 1657, 1713, 1769, 1782, 1795, 1839, 1895, 1950, 1964, 2030, 2071] v = 931 ∨ tsw 45 2084 0 34 #[155, 277, 345, 448, 504, 567, 623, 690, 746, 830, 886, 982, 1045, 1108, 1164, 1220, 1312, 1368, 1424, 1492, 1505, 1575, 1631, 1644, 1657, 1713, 1769, 1782, 1795, 1839, 1895, 1950, 1964, 2030, 2071] v = 1027 ∨ tsw 45 2084 0 34 #[155, 277, 345, 448, 504, 567, 623, 690, 746, 830, 886, 982, 1045, 1108, 1164, 1220, 1312, 1368, 1424, 1492, 1505, 1575, 1631, 1644, 1657, 1713, 1769, 1782, 1795, 1839, 1895, 1950, 1964, 2030, 2071] v = 1090 ∨ tsw 45 2084 0 34 #[155, 277, 345, 448, 504, 567, 623, 690, 746, 830, 886, 982, 1045, 1108, 1164, 1220, 1312, 1368, 1424, 1492, 1505, 1575, 1631, 1644, 1657, 1713, 1769, 1782, 1795, 1839, 1895, 1950, 1964, 2030, 2071] v = 1153 ∨ tsw 45 2084 0 34 #[155, 277, 345, 448, 504, 567, 623, 690, 746, 830, 886, 982, 1045, 1108, 1164, 1220, 1312, 1368, 1424, 1492, 1505, 1575, 1631, 1644, 1657, 1713, 1769, 1782, 1795, 1839, 1895, 1950, 1964, 2030, 2071] v = 1209 ∨ tsw 45 2084 0 34 #[155, 277, 345, 448, 504, 567, 623, 690, 746, 830, 886, 982, 1045, 1108, 1164, 1220, 1312, 1368, 1424, 1492, 1505, 1575, 1631, 1644, 1657, 1713, 1769, 1782, 1795, 1839, 1895, 1950, 1964, 2030, 2071] v = 1265 ∨ tsw 45 2084 0 34 #[155, 277, 345, 448, 504, 567, 623, 690, 746, 830, 886, 982, 1045, 1108, 1164, 1220, 1312, 1368, 1424, 1492, 1505, 1575, 1631, 1644, 1657, 1713, 1769, 1782, 1795, 1839, 1895, 1950, 1964, 2030, 2071] v = 1357 ∨ tsw 45 2084 0 34 #[155, 277, 345, 448, 504, 567, 623, 690, 746, 830, 886, 982, 1045, 1108, 1164, 1220, 1312, 1368, 1424, 1492, 1505, 1575, 1631, 1644, 1657, 1713, 1769, 1782, 1795, 1839, 1895, 1950, 1964, 2030, 2071] v = 1413 ∨ tsw 45 2084 0 34 #[155, 277, 345, 448, 504, 567, 623, 690, 746, 830, 886, 982, 1045, 1108, 1164, 1220, 1312, 1368, 1424, 1492, 1505, 1575, 1631, 1644, 1657, 1713, 1769, 1782, 1795, 1839, 1895, 1950, 1964, 2030, 2071] v = 1469 ∨ tsw 45 2084 0 34 #[155, 277, 345, 448, 504, 567, 623, 690, 746, 830, 886, 982, 1045, 1108, 1164, 1220, 1312, 1368, 1424, 1492, 1505, 1575, 1631, 1644, 1657, 1713, 1769, 1782, 1795, 1839, 1895, 1950, 1964, 2030, 2071] v = 1537 ∨ tsw 45 2084 0 34 #[155, 277, 345, 448, 504, 567, 623, 690, 746, 830, 886, 982, 1045, 1108, 1164, 1220, 1312, 1368, 1424, 1492, 1505, 1575, 1631, 1644, 1657, 1713, 1769, 1782, 1795, 1839, 1895, 1950, 1964, 2030, 2071] v = 1550 ∨ tsw 45 2084 0 34 #[155, 277, 345, 448, 504, 567, 623, 690, 746, 830, 886, 982, 1045, 1108, 1164, 1220, 1312, 1368, 1424, 1492, 1505, 1575, 1631, 1644, 1657, 1713, 1769, 1782, 1795, 1839, 1895, 1950, 1964, 2030, 2071] v = 1620 ∨ tsw 45 2084 0 34 #[155, 277, 345, 448, 504, 567, 623, 690, 746, 830, 886, 982, 1045, 1108, 1164, 1220, 1312, 1368, 1424, 1492, 1505, 1575, 1631, 1644, 1657, 1713, 1769, 1782, 1795, 1839, 1895, 1950, 1964, 2030, 2071] v = 1676 ∨ tsw 45 2084 0 34 #[155, 277, 345, 448, 504, 567, 623, 690, 746, 830, 886, 982, 1045, 1108, 1164, 1220, 1312, 1368, 1424, 1492, 1505, 1575, 1631, 1644, 1657, 1713, 1769, 1782, 1795, 1839, 1895, 1950, 1964, 2030, 2071] v = 1689 ∨ tsw 45 2084 0 34 #[155, 277, 345, 448, 504, 567, 623, 690, 746, 830, 886, 982, 1045, 1108, 1164, 1220, 1312, 1368, 1424, 1492, 1505, 1575, 1631, 1644, 1657, 1713, 1769, 1782, 1795, 1839, 1895, 1950, 1964, 2030, 2071] v = 1702 ∨ tsw 45 2084 0 34 #[155, 277, 345, 448, 504, 567, 623, 690, 746, 830, 886, 982, 1045, 1108, 1164, 1220, 1312, 1368, 1424, 1492, 1505, 1575, 1631, 1644, 1657, 1713, 1769, 1782, 1795, 1839, 1895, 1950, 1964, 2030, 2071] v = 1758 ∨ tsw 45 2084 0 34 #[155, 277, 345, 448, 504, 567, 623, 690, 746, 830, 886, 982, 1045, 1108, 1164, 1220, 1312, 1368, 1424, 1492, 1505, 1575, 1631, 1644, 1657, 1713, 1769, 1782, 1795, 1839, 1895, 1950, 1964, 2030, 2071] v = 1814 ∨ tsw 45 2084 0 34 #[155, 277, 345, 448, 504, 567, 623, 690, 746, 830, 886, 982, 1045, 1108, 1164, 1220, 1312, 1368, 1424, 1492, 1505, 1575, 1631, 1644, 1657, 1713, 1769, 1782, 1795, 1839, 1895, 1950, 1964, 2030, 2071] v = 1827 ∨ tsw 45 2084 0 34 #[155, 277, 345, 448, 504, 567, 623, 690, 746, 830, 886, 982, 1045, 1108, 1164, 1220, 1312, 1368, 1424, 1492, 1505, 1575, 1631, 1644, 1657, 1713, 1769, 1782, 1795, 1839, 1895, 1950, 1964, 2030, 2071] v = 1840 ∨ tsw 45 2084 0 34 #[155, 277, 345, 448, 504, 567, 623, 690, 746, 830, 886, 982, 1045, 1108, 1164, 1220, 1312, 1368, 1424, 1492, 1505, 1575, 1631, 1644, 1657, 1713, 1769, 1782, 1795, 1839, 1895, 1950, 1964, 2030, 2071] v = 1884 ∨ tsw 45 2084 0 34 #[155, 277, 345, 448, 504, 567, 623, 690, 746, 830, 886, 982, 1045, 1108, 1164, 1220, 1312, 1368, 1424, 1492, 1505, 1575, 1631, 1644, 1657, 1713, 1769, 1782, 1795, 1839, 1895, 1950, 1964, 2030, 2071] v = 1940 ∨ tsw 45 2084 0 34 #[155, 277, 345, 448, 504, 567, 623, 690, 746, 830, 886, 982, 1045, 1108, 1164, 1220, 1312, 1368, 1424, 1492, 1505, 1575, 1631, 1644, 1657, 1713, 1769, 1782, 1795, 1839, 1895, 1950, 1964, 2030, 2071] v = 1995 ∨ tsw 45 2084 0 34 #[155, 277, 345, 448, 504, 567, 623, 690, 746, 830, 886, 982, 1045, 1108, 1164, 1220, 1312, 1368, 1424, 1492, 1505, 1575, 1631, 1644, 1657, 1713, 1769, 1782, 1795, 1839, 1895, 1950, 1964, 2030, 2071] v = 2009 ∨ tsw 45 2084 0 34 #[155, 277, 345, 448, 504, 567, 623, 690, 746, 830, 886, 982, 1045, 1108, 1164, 1220, 1312, 1368, 1424, 1492, 1505, 1575, 1631, 1644, 1657, 1713, 1769, 1782, 1795, 1839, 1895, 1950, 1964, 2030, 2071] v = 2075 ∨ tsw 45 2084 0 34 #[155, 277, 345, 448, 504, 567, 623, 690, 746, 830, 886, 982, 1045, 1108, 1164, 1220, 1312, 1368, 1424, 1492, 1505, 1575, 1631, 1644, 1657, 1713, 1769, 1782, 1795, 1839, 1895, 1950, 1964, 2030, 2071] v = 2116 := by
  unfold tsw
  by_cases hv : v.toInt < 0 ∨ 34 < v.toInt
  · rw [if_pos hv]
    exact Or.inl (by decide)
  · rw [if_neg hv]
    obtain ⟨k, hk⟩ : ∃ k : Nat, v.toInt = (k : Int) := ⟨v.toInt.toNat, by omega⟩
    have hk2 : k < 35 := by omega
    rw [hk]
    have e : (((k : Nat) : Int) - 0).toNat = k := by omega
    rw [e]
    have key : ∀ k : Nat, k < 35 → (((45 : Nat) : Int) + ((#[155, 277, 345, 448, 504, 567, 623, 690, 746, 830, 886, 982, 1045, 1108, 1164, 1220, 1312, 1368, 1424, 1492, 1505, 1575, 1631, 1644, 1657, 1713, 1769, 1782, 1795, 1839, 1895, 1950, 1964, 2030, 2071] : Array Int)[k]?).getD 0).toNat ∈ [200, 322, 390, 493, 549, 612, 668, 735, 791, 875, 931, 1027, 1090, 1153, 1209, 1265, 1357, 1413, 1469, 1537, 1550, 1620, 1676, 1689, 1702, 1758, 1814, 1827, 1840, 1884, 1940, 1995, 2009, 2075, 2116] := by decide +kernel
    have := key k hk2
    simp only [List.mem_cons, List.not_mem_nil, or_false] at this
    exact Or.inr this
set_option maxRecDepth 16384 in
theorem cs_nx (hi : 0 ≤ i ∧ i + 6 ≤ (E.1.2.1 : Int) ∧ E.1.2.1 ≤ 3072) (jj : JS E x h sz) (hb : nc ≤ 590000 ∧ ns ≤ 7000000) (ih : ∀ (h2 : AH) (s2 nc2 ns2 : Nat), JS E x h2 s2 → nc2 ≤ nc + 58 → ns2 ≤ ns + 1341 → Rr E (mcsT mtab) (Sp E 12) 12 mi_238 Q 28 [some (.ref E.1.1), some (.ref x), some (.ref (x + 122)), some (.ref (x + 155)), some (.ref (x + 156)), some (.int (z (i + 6))), none, none, none, none] [] h2 s2 nc2 ns2) : Rr E (mcsT mtab) (Sp E 12) 12 mi_238 Q 2129 [some (.ref E.1.1), some (.ref x), some (.ref (x + 122)), some (.ref (x + 155)), some (.ref (x + 156)), some (.int (z i)), none, none, none, none] [] h sz nc ns := by
  refine R_run 10 ?_
  simp only [run_s, run_0, isc, Bool.or_false, Bool.false_or, Bool.or_true, Bool.true_or, Bool.or_self, cond_false, cond_true, gl, sl, stl, stl2, c2, isw, nf, pf, lnb, tk, true_and, and_true, nsg0, nsg1, Int.cast_ofNat_Int, Int.natCast_zero, Int.natCast_one, zero_z, z_add, z_sub, z_mul, z_neg, cnd_eq, cnd_ne, cnd_lt, cnd_ge, cnd_gt, cnd_le, vok_0, vok_3r, vok_3n, vok_4, Nat.add_zero, Nat.zero_add, Nat.reduceAdd, Nat.reduceSub, Nat.reduceMod, Nat.reduceDiv, Nat.reduceEqDiff, Nat.reduceLeDiff, Nat.reduceMul, Int.reduceNeg, if_true, if_false, ite_true, ite_false, reduceIte, hup_app, Nat.add_left_cancel_iff, Nat.left_eq_add, Nat.add_eq_left, reduceCtorEq, subc_0, subc_1, subc_2, subc_3, subc_4, subc_5, subc_6, subc_7, subc_8, subc_9, subc_10, subc_11, subc_12, sube_2, sube_3, sube_5, sube_8, sube_9, sube_10, rets_ok, sI_goto, sI_iinc, ix_238_2129, ix_238_2132]
  exact ih _ _ _ _ jj (by omega) (by omega)
set_option maxRecDepth 16384 in
theorem law_step (hi : 0 ≤ i ∧ i + 6 ≤ (E.1.2.1 : Int) ∧ E.1.2.1 ≤ 3072) (jj : JS E x h sz) (hb : nc ≤ 590000 ∧ ns ≤ 7000000) (ih : ∀ (h2 : AH) (s2 nc2 ns2 : Nat), JS E x h2 s2 → nc2 ≤ nc + 58 → ns2 ≤ ns + 1341 → Rr E (mcsT mtab) (Sp E 12) 12 mi_238 Q 28 [some (.ref E.1.1), some (.ref x), some (.ref (x + 122)), some (.ref (x + 155)), some (.ref (x + 156)), some (.int (z (i + 6))), none, none, none, none] [] h2 s2 nc2 ns2) : Rr E (mcsT mtab) (Sp E 12) 12 mi_238 Q 28 [some (.ref E.1.1), some (.ref x), some (.ref (x + 122)), some (.ref (x + 155)), some (.ref (x + 156)), some (.int (z i)), none, none, none, none] [] h sz nc ns := by
  have hE : h E.1.1 = none := JS_E jj
  have key : ∀ v : Int32, Rr E (mcsT mtab) (Sp E 12) 12 mi_238 Q (tsw 45 2084 0 34 #[155, 277, 345, 448, 504, 567, 623, 690, 746, 830, 886, 982, 1045, 1108, 1164, 1220, 1312, 1368, 1424, 1492, 1505, 1575, 1631, 1644, 1657, 1713, 1769, 1782, 1795, 1839, 1895, 1950, 1964, 2030, 2071] v) [some (.ref E.1.1), some (.ref x), some (.ref (x + 122)), some (.ref (x + 155)), some (.ref (x + 156)), some (.int (z i)), none, none, none, none] [] h sz nc ns := fun v => by
    rcases tsw_238 v with e | e | e | e | e | e | e | e | e | e | e | e | e | e | e | e | e | e | e | e | e | e | e | e | e | e | e | e | e | e | e | e | e | e | e | e
    · rw [e]; exact cs_nx hi jj hb ih
    · rw [e]; exact cs_0 hi jj hb ih
    · rw [e]; exact cs_1 hi jj hb ih
    · rw [e]; exact cs_2 hi jj hb ih
    · rw [e]; exact cs_3 hi jj hb ih
    · rw [e]; exact cs_4 hi jj hb ih
    · rw [e]; exact cs_5 hi jj hb ih
    · rw [e]; exact cs_6 hi jj hb ih
    · rw [e]; exact cs_7 hi jj hb ih
    · rw [e]; exact cs_8 hi jj hb ih
    · rw [e]; exact cs_9 hi jj hb ih
    · rw [e]; exact cs_10 hi jj hb ih
    · rw [e]; exact cs_11 hi jj hb ih
    · rw [e]; exact cs_12 hi jj hb ih
    · rw [e]; exact cs_13 hi jj hb ih
    · rw [e]; exact cs_14 hi jj hb ih
    · rw [e]; exact cs_15 hi jj hb ih
    · rw [e]; exact cs_16 hi jj hb ih
    · rw [e]; exact cs_17 hi jj hb ih
    · rw [e]; exact cs_18 hi jj hb ih
    · rw [e]; exact cs_19 hi jj hb ih
    · rw [e]; exact cs_20 hi jj hb ih
    · rw [e]; exact cs_21 hi jj hb ih
    · rw [e]; exact cs_22 hi jj hb ih
    · rw [e]; exact cs_23 hi jj hb ih
    · rw [e]; exact cs_24 hi jj hb ih
    · rw [e]; exact cs_25 hi jj hb ih
    · rw [e]; exact cs_26 hi jj hb ih
    · rw [e]; exact cs_27 hi jj hb ih
    · rw [e]; exact cs_28 hi jj hb ih
    · rw [e]; exact cs_29 hi jj hb ih
    · rw [e]; exact cs_30 hi jj hb ih
    · rw [e]; exact cs_31 hi jj hb ih
    · rw [e]; exact cs_32 hi jj hb ih
    · rw [e]; exact cs_33 hi jj hb ih
    · rw [e]; exact cs_34 hi jj hb ih
  refine R_hd ix_238_28 1 ?_
  simp only [run_s, run_0, isc, Bool.or_false, Bool.false_or, Bool.or_true, Bool.true_or, Bool.or_self, cond_false, cond_true, gl, sl, stl, stl2, c2, isw, nf, pf, lnb, tk, true_and, and_true, nsg0, nsg1, Int.cast_ofNat_Int, Int.natCast_zero, Int.natCast_one, zero_z, z_add, z_sub, z_mul, z_neg, cnd_eq, cnd_ne, cnd_lt, cnd_ge, cnd_gt, cnd_le, vok_0, vok_3r, vok_3n, vok_4, Nat.add_zero, Nat.zero_add, Nat.reduceAdd, Nat.reduceSub, Nat.reduceMod, Nat.reduceDiv, Nat.reduceEqDiff, Nat.reduceLeDiff, Nat.reduceMul, Int.reduceNeg, if_true, if_false, ite_true, ite_false, reduceIte, hup_app, Nat.add_left_cancel_iff, Nat.left_eq_add, Nat.add_eq_left, reduceCtorEq, subc_0, subc_1, subc_2, subc_3, subc_4, subc_5, subc_6, subc_7, subc_8, subc_9, subc_10, subc_11, subc_12, sube_2, sube_3, sube_5, sube_8, sube_9, sube_10, rets_ok, sI_aload_n, sI_arraylength, sI_bipush, sI_iaload, sI_iand, sI_iconst, sI_if_icmp, sI_iload, sI_ireturn, sI_isub, sI_tableswitch, ix_238_28, ix_238_30, ix_238_31, ix_238_32, ix_238_34, ix_238_35, ix_238_38, ix_238_39, ix_238_41, ix_238_42, ix_238_44, ix_238_45, ix_238_2135, ix_238_2136]
  refine R_run 1 ?_
  simp only [run_s, run_0, isc, Bool.or_false, Bool.false_or, Bool.or_true, Bool.true_or, Bool.or_self, cond_false, cond_true, gl, sl, stl, stl2, c2, isw, nf, pf, lnb, tk, true_and, and_true, nsg0, nsg1, Int.cast_ofNat_Int, Int.natCast_zero, Int.natCast_one, zero_z, z_add, z_sub, z_mul, z_neg, cnd_eq, cnd_ne, cnd_lt, cnd_ge, cnd_gt, cnd_le, vok_0, vok_3r, vok_3n, vok_4, Nat.add_zero, Nat.zero_add, Nat.reduceAdd, Nat.reduceSub, Nat.reduceMod, Nat.reduceDiv, Nat.reduceEqDiff, Nat.reduceLeDiff, Nat.reduceMul, Int.reduceNeg, if_true, if_false, ite_true, ite_false, reduceIte, hup_app, Nat.add_left_cancel_iff, Nat.left_eq_add, Nat.add_eq_left, reduceCtorEq, subc_0, subc_1, subc_2, subc_3, subc_4, subc_5, subc_6, subc_7, subc_8, subc_9, subc_10, subc_11, subc_12, sube_2, sube_3, sube_5, sube_8, sube_9, sube_10, rets_ok, sI_aload_n, sI_arraylength, sI_bipush, sI_iaload, sI_iand, sI_iconst, sI_if_icmp, sI_iload, sI_ireturn, sI_isub, sI_tableswitch, ix_238_28, ix_238_30, ix_238_31, ix_238_32, ix_238_34, ix_238_35, ix_238_38, ix_238_39, ix_238_41, ix_238_42, ix_238_44, ix_238_45, ix_238_2135, ix_238_2136, hE]
  refine Or.inr ?_
  refine R_run 9 ?_
  simp only [run_s, run_0, isc, Bool.or_false, Bool.false_or, Bool.or_true, Bool.true_or, Bool.or_self, cond_false, cond_true, gl, sl, stl, stl2, c2, isw, nf, pf, lnb, tk, true_and, and_true, nsg0, nsg1, Int.cast_ofNat_Int, Int.natCast_zero, Int.natCast_one, zero_z, z_add, z_sub, z_mul, z_neg, cnd_eq, cnd_ne, cnd_lt, cnd_ge, cnd_gt, cnd_le, vok_0, vok_3r, vok_3n, vok_4, Nat.add_zero, Nat.zero_add, Nat.reduceAdd, Nat.reduceSub, Nat.reduceMod, Nat.reduceDiv, Nat.reduceEqDiff, Nat.reduceLeDiff, Nat.reduceMul, Int.reduceNeg, if_true, if_false, ite_true, ite_false, reduceIte, hup_app, Nat.add_left_cancel_iff, Nat.left_eq_add, Nat.add_eq_left, reduceCtorEq, subc_0, subc_1, subc_2, subc_3, subc_4, subc_5, subc_6, subc_7, subc_8, subc_9, subc_10, subc_11, subc_12, sube_2, sube_3, sube_5, sube_8, sube_9, sube_10, rets_ok, sI_aload_n, sI_arraylength, sI_bipush, sI_iaload, sI_iand, sI_iconst, sI_if_icmp, sI_iload, sI_ireturn, sI_isub, sI_tableswitch, ix_238_28, ix_238_30, ix_238_31, ix_238_32, ix_238_34, ix_238_35, ix_238_38, ix_238_39, ix_238_41, ix_238_42, ix_238_44, ix_238_45, ix_238_2135, ix_238_2136, hE, nI_z]
  try simp (disch := omega) only [z_lt, z_le, z_eq, z_in, Int.reduceLT, Int.reduceLE, not_false_eq_true, true_and, and_true]
  repeat' (first | (with_reducible refine ⟨?_, ?_⟩) | (with_reducible intro _))
  all_goals try (first | exact True.intro | with_reducible rfl | exact absurd True.intro (by assumption) | omega | (exfalso; omega) | (exact key _))
set_option maxRecDepth 16384 in
theorem law_end (hE : h E.1.1 = none) (hi : 0 ≤ i ∧ i ≤ 4000 ∧ (E.1.2.1 : Int) < i + 6 ∧ E.1.2.1 ≤ 3072) (hQ : ∀ (h : AH) (sz : Nat), Q (.ok (some (.int (z 1)))) h sz) : Rr E (mcsT mtab) (Sp E 12) 12 mi_238 Q 28 [some (.ref E.1.1), some (.ref x), some (.ref (x + 122)), some (.ref (x + 155)), some (.ref (x + 156)), some (.int (z i)), none, none, none, none] [] h sz nc ns := by
  refine R_hd ix_238_28 1 ?_
  simp only [run_s, run_0, isc, Bool.or_false, Bool.false_or, Bool.or_true, Bool.true_or, Bool.or_self, cond_false, cond_true, gl, sl, stl, stl2, c2, isw, nf, pf, lnb, tk, true_and, and_true, nsg0, nsg1, Int.cast_ofNat_Int, Int.natCast_zero, Int.natCast_one, zero_z, z_add, z_sub, z_mul, z_neg, cnd_eq, cnd_ne, cnd_lt, cnd_ge, cnd_gt, cnd_le, vok_0, vok_3r, vok_3n, vok_4, Nat.add_zero, Nat.zero_add, Nat.reduceAdd, Nat.reduceSub, Nat.reduceMod, Nat.reduceDiv, Nat.reduceEqDiff, Nat.reduceLeDiff, Nat.reduceMul, Int.reduceNeg, if_true, if_false, ite_true, ite_false, reduceIte, hup_app, Nat.add_left_cancel_iff, Nat.left_eq_add, Nat.add_eq_left, reduceCtorEq, subc_0, subc_1, subc_2, subc_3, subc_4, subc_5, subc_6, subc_7, subc_8, subc_9, subc_10, subc_11, subc_12, sube_2, sube_3, sube_5, sube_8, sube_9, sube_10, rets_ok, sI_aload_n, sI_arraylength, sI_bipush, sI_iaload, sI_iand, sI_iconst, sI_if_icmp, sI_iload, sI_ireturn, sI_isub, sI_tableswitch, ix_238_28, ix_238_30, ix_238_31, ix_238_32, ix_238_34, ix_238_35, ix_238_38, ix_238_39, ix_238_41, ix_238_42, ix_238_44, ix_238_45, ix_238_2135, ix_238_2136]
  refine R_run 1 ?_
  simp only [run_s, run_0, isc, Bool.or_false, Bool.false_or, Bool.or_true, Bool.true_or, Bool.or_self, cond_false, cond_true, gl, sl, stl, stl2, c2, isw, nf, pf, lnb, tk, true_and, and_true, nsg0, nsg1, Int.cast_ofNat_Int, Int.natCast_zero, Int.natCast_one, zero_z, z_add, z_sub, z_mul, z_neg, cnd_eq, cnd_ne, cnd_lt, cnd_ge, cnd_gt, cnd_le, vok_0, vok_3r, vok_3n, vok_4, Nat.add_zero, Nat.zero_add, Nat.reduceAdd, Nat.reduceSub, Nat.reduceMod, Nat.reduceDiv, Nat.reduceEqDiff, Nat.reduceLeDiff, Nat.reduceMul, Int.reduceNeg, if_true, if_false, ite_true, ite_false, reduceIte, hup_app, Nat.add_left_cancel_iff, Nat.left_eq_add, Nat.add_eq_left, reduceCtorEq, subc_0, subc_1, subc_2, subc_3, subc_4, subc_5, subc_6, subc_7, subc_8, subc_9, subc_10, subc_11, subc_12, sube_2, sube_3, sube_5, sube_8, sube_9, sube_10, rets_ok, sI_aload_n, sI_arraylength, sI_bipush, sI_iaload, sI_iand, sI_iconst, sI_if_icmp, sI_iload, sI_ireturn, sI_isub, sI_tableswitch, ix_238_28, ix_238_30, ix_238_31, ix_238_32, ix_238_34, ix_238_35, ix_238_38, ix_238_39, ix_238_41, ix_238_42, ix_238_44, ix_238_45, ix_238_2135, ix_238_2136, hE]
  refine Or.inr ?_
  refine R_run 5 ?_
  simp only [run_s, run_0, isc, Bool.or_false, Bool.false_or, Bool.or_true, Bool.true_or, Bool.or_self, cond_false, cond_true, gl, sl, stl, stl2, c2, isw, nf, pf, lnb, tk, true_and, and_true, nsg0, nsg1, Int.cast_ofNat_Int, Int.natCast_zero, Int.natCast_one, zero_z, z_add, z_sub, z_mul, z_neg, cnd_eq, cnd_ne, cnd_lt, cnd_ge, cnd_gt, cnd_le, vok_0, vok_3r, vok_3n, vok_4, Nat.add_zero, Nat.zero_add, Nat.reduceAdd, Nat.reduceSub, Nat.reduceMod, Nat.reduceDiv, Nat.reduceEqDiff, Nat.reduceLeDiff, Nat.reduceMul, Int.reduceNeg, if_true, if_false, ite_true, ite_false, reduceIte, hup_app, Nat.add_left_cancel_iff, Nat.left_eq_add, Nat.add_eq_left, reduceCtorEq, subc_0, subc_1, subc_2, subc_3, subc_4, subc_5, subc_6, subc_7, subc_8, subc_9, subc_10, subc_11, subc_12, sube_2, sube_3, sube_5, sube_8, sube_9, sube_10, rets_ok, sI_aload_n, sI_arraylength, sI_bipush, sI_iaload, sI_iand, sI_iconst, sI_if_icmp, sI_iload, sI_ireturn, sI_isub, sI_tableswitch, ix_238_28, ix_238_30, ix_238_31, ix_238_32, ix_238_34, ix_238_35, ix_238_38, ix_238_39, ix_238_41, ix_238_42, ix_238_44, ix_238_45, ix_238_2135, ix_238_2136, hE, nI_z, vok_z1 (Or.inr rfl)]
  try simp (disch := omega) only [z_lt, z_le, z_eq, z_in, Int.reduceLT, Int.reduceLE, not_false_eq_true, true_and, and_true]
  repeat' (first | (with_reducible refine ⟨?_, ?_⟩) | (with_reducible intro _))
  all_goals try (first | exact True.intro | with_reducible rfl | exact absurd True.intro (by assumption) | omega | (exfalso; omega) | (exact hQ _ _))
set_option maxRecDepth 16384 in
theorem law_loop (hL : E.1.2.1 ≤ 3072) (hQ : ∀ (h : AH) (sz : Nat), Q (.ok (some (.int (z 1)))) h sz) : ∀ (r j : Nat) (h : AH) (sz nc ns : Nat), JS E x h sz → E.1.2.1 < 6 * (j + r) → 6 * j ≤ E.1.2.1 → nc ≤ 200 + 58 * j → ns ≤ 6000 + 1341 * j → Rr E (mcsT mtab) (Sp E 12) 12 mi_238 Q 28 [some (.ref E.1.1), some (.ref x), some (.ref (x + 122)), some (.ref (x + 155)), some (.ref (x + 156)), some (.int (z (6 * (j : Int)))), none, none, none, none] [] h sz nc ns := by
  intro r
  induction r with
  | zero =>
    intro j h sz nc ns jj h1 h2 h3 h4
    omega
  | succ r ih =>
    intro j h sz nc ns jj h1 h2 h3 h4
    by_cases hj : 6 * j + 6 ≤ E.1.2.1
    · refine law_step (by omega) jj (by omega) (fun h2 s2 nc2 ns2 js k1 k2 => ?_)
      have := ih (j + 1) h2 s2 nc2 ns2 js (by omega) (by omega) (by omega) (by omega)
      rw [show 6 * (((j + 1 : Nat)) : Int) = 6 * (j : Int) + 6 by omega] at this
      exact this
    · exact law_end (JS_E jj) (by omega) hQ
set_option maxRecDepth 16384 in
theorem isC_base0 {b : Nat} {H : HT} {J : GS} {cu : Nat → Nat} (hC : isC E h (x + 122) x (x + 122) H 0 J 0 0 cu 0 0 0 0 T0) (hle : x + 122 ≤ b) : isC E h b x b H 0 J 0 0 cu 0 0 0 0 T0 := by
  obtain ⟨ha, ea, ca, a1, a2, a3, A, C, hCx⟩ := hC
  obtain ⟨c1, c2, c3, c4, c5, c6, c7, c8, ⟨r1, r2, r3, -, -, -⟩, t, ⟨z1, z2, z3, z4, z5⟩⟩ := hCx
  have key : ∀ {l a : Nat} {f : Nat → Nat}, isL E h l a 0 f → (a = E.2.1 ∨ x + 122 ≤ a) → a = E.2.1 := fun {l a f} k k2 => by
    rcases k2 with k2 | k2
    · exact k2
    · rcases arr_k k with ⟨q, -⟩ | ⟨u, q⟩
      · exact q
      · rw [z3 _ k2] at q
        cases q
  exact ⟨ha, ea, ca, a1, a2, a3, A, C, c1, c2, c3, c4, c5, fun i hi => absurd hi (by omega), fun i hi => absurd hi (by omega), fun i hi => absurd hi (by omega), ⟨Or.inl (key c2 r1), Or.inl (key c3 r2), Or.inl (key c4 r3), fun _ => key c2 r1, fun _ => key c2 r1, fun _ => key c3 r2⟩, t, ⟨z1, by omega, fun q hq => z3 q (by omega), by omega, Nat.le_refl _⟩⟩
set_option maxRecDepth 16384 in
theorem law_start (hL : E.1.2.1 ≤ 3072) (hEx : E.2.1 < x) (hSx : E.1.1 < x) (hQ : ∀ (h : AH) (sz : Nat), Q (.ok (some (.int (z 1)))) h sz) : Rr E (mcsT mtab) (Sp E 12) 12 mi_238 Q 0 [some (.ref E.1.1), none, none, none, none, none, none, none, none, none] [] (fun _ => none) x 0 0 := by
  obtain ⟨h1, s1, c1, lo1⟩ := sp_79y (E := E) (d := 0) (h := hup (fun _ => none) x (.inr (11, dfl 11))) (x := x) (fun _ _ => 0) (fun _ _ => 0) (fun _ => 0) (hup_eq _ _ _) (fun q hq => hup_ne _ _ (by omega)) (hup_ne _ _ (by omega)) (by omega)
  obtain ⟨h2, e2⟩ : ∃ h2 : AH, h2 = hup h1 (x + 122) (.inr (12, dfl 12)) := ⟨_, rfl⟩
  have s2 := m_124 (E := E) (d := 0) (h := h2) (m := x + 122) (by rw [e2]; exact hup_eq _ _ _)
  obtain ⟨h3, e3⟩ : ∃ h3 : AH, h3 = hup (hup (mh h2 (x + 122) M0) (x + 155) (.inl (4, dfa 4 1))) (x + 156) (.inl (5, dfa 5 1)) := ⟨_, rfl⟩
  have s1' := Sp_low 12 19 79 _ _ _ _ (rk12 79 (by decide)) (by decide) s1
  have s2' := Sp_low 12 19 124 _ _ _ _ (rk12 124 (by decide)) (by decide) s2
  have out : ∀ q, (q < x + 122 ∨ x + 157 ≤ q) → h3 q = h1 q := fun q hq => by
    have e : mh h2 (x + 122) M0 q = h2 q := blk_out (by omega)
    rw [e3, hup_ne _ _ (by omega), hup_ne _ _ (by omega), e, e2, hup_ne _ _ (by omega)]
  have jx : JX E h3 (x + 157) x (fun _ _ => 0) 0 (fun _ _ => 0) 0 0 (fun _ => 0) 0 0 0 0 T0 M0 (fun _ => 0) (fun _ => 0) := by
    refine ⟨isC_hole (isC_base0 c1 (by omega)) out ?_, sC_0 _ _ _, rC_0 _ _ _, mh_fr (h := mh h2 (x + 122) M0) (mh_mh h2 _ _ _) (fun j hj => ?_), ?_, ?_, hSx, ?_⟩
    · rw [out _ (by omega), (isC_z c1).1]
    · rw [e3, hup_ne _ _ (by omega), hup_ne _ _ (by omega)]
    · rw [e3, hup_ne _ _ (by omega), hup_eq]
      rfl
    · rw [e3, hup_eq]
      rfl
    · rw [out _ (by omega), lo1 _ hSx, hup_ne _ _ (by omega)]
  refine R_run 2 ?_
  simp only [run_s, run_0, isc, Bool.or_false, Bool.false_or, Bool.or_true, Bool.true_or, Bool.or_self, cond_false, cond_true, gl, sl, stl, stl2, c2, isw, nf, pf, lnb, tk, true_and, and_true, nsg0, nsg1, Int.cast_ofNat_Int, Int.natCast_zero, Int.natCast_one, zero_z, z_add, z_sub, z_mul, z_neg, cnd_eq, cnd_ne, cnd_lt, cnd_ge, cnd_gt, cnd_le, vok_0, vok_3r, vok_3n, vok_4, Nat.add_zero, Nat.zero_add, Nat.reduceAdd, Nat.reduceSub, Nat.reduceMod, Nat.reduceDiv, Nat.reduceEqDiff, Nat.reduceLeDiff, Nat.reduceMul, Int.reduceNeg, if_true, if_false, ite_true, ite_false, reduceIte, hup_app, Nat.add_left_cancel_iff, Nat.left_eq_add, Nat.add_eq_left, reduceCtorEq, subc_0, subc_1, subc_2, subc_3, subc_4, subc_5, subc_6, subc_7, subc_8, subc_9, subc_10, subc_11, subc_12, sube_2, sube_3, sube_5, sube_8, sube_9, sube_10, rets_ok, sI_astore, sI_astore_n, sI_dup, sI_iconst, sI_invokespecial, sI_istore, sI_new, sI_newarray, ix_238_0, ix_238_3, ix_238_4, ix_238_7, ix_238_8, ix_238_11, ix_238_12, ix_238_15, ix_238_16, ix_238_17, ix_238_19, ix_238_20, ix_238_21, ix_238_23, ix_238_25, ix_238_26, mC_238, mS_238]
  try simp (disch := omega) only [z_lt, z_le, z_eq, z_in, Int.reduceLT, Int.reduceLE, not_false_eq_true, true_and, and_true]
  repeat' (first | (with_reducible refine ⟨?_, ?_⟩) | (with_reducible intro _))
  all_goals try (first | exact True.intro | with_reducible rfl | exact absurd True.intro (by assumption) | omega | (exfalso; omega))
  refine R_cI ix_238_4 (by decide) rfl (s1') (Nat.le_of_ble_eq_true rfl) (by rw [mcs_79, mC_238]; omega) (by rw [mcs_79, mS_238]; omega) ?_
  simp only [mcs_79, vpu, Nat.add_zero, Nat.zero_add, Nat.reduceAdd]
  refine R_run 3 ?_
  simp only [run_s, run_0, isc, Bool.or_false, Bool.false_or, Bool.or_true, Bool.true_or, Bool.or_self, cond_false, cond_true, gl, sl, stl, stl2, c2, isw, nf, pf, lnb, tk, true_and, and_true, nsg0, nsg1, Int.cast_ofNat_Int, Int.natCast_zero, Int.natCast_one, zero_z, z_add, z_sub, z_mul, z_neg, cnd_eq, cnd_ne, cnd_lt, cnd_ge, cnd_gt, cnd_le, vok_0, vok_3r, vok_3n, vok_4, Nat.add_zero, Nat.zero_add, Nat.reduceAdd, Nat.reduceSub, Nat.reduceMod, Nat.reduceDiv, Nat.reduceEqDiff, Nat.reduceLeDiff, Nat.reduceMul, Int.reduceNeg, if_true, if_false, ite_true, ite_false, reduceIte, hup_app, Nat.add_left_cancel_iff, Nat.left_eq_add, Nat.add_eq_left, reduceCtorEq, subc_0, subc_1, subc_2, subc_3, subc_4, subc_5, subc_6, subc_7, subc_8, subc_9, subc_10, subc_11, subc_12, sube_2, sube_3, sube_5, sube_8, sube_9, sube_10, rets_ok, sI_astore, sI_astore_n, sI_dup, sI_iconst, sI_invokespecial, sI_istore, sI_new, sI_newarray, ix_238_0, ix_238_3, ix_238_4, ix_238_7, ix_238_8, ix_238_11, ix_238_12, ix_238_15, ix_238_16, ix_238_17, ix_238_19, ix_238_20, ix_238_21, ix_238_23, ix_238_25, ix_238_26, mC_238, mS_238]
  try simp (disch := omega) only [z_lt, z_le, z_eq, z_in, Int.reduceLT, Int.reduceLE, not_false_eq_true, true_and, and_true]
  repeat' (first | (with_reducible refine ⟨?_, ?_⟩) | (with_reducible intro _))
  all_goals try (first | exact True.intro | with_reducible rfl | exact absurd True.intro (by assumption) | omega | (exfalso; omega))
  refine R_heap (h := h2) e2.symm ?_
  refine R_cI ix_238_12 (by decide) rfl (s2') (Nat.le_of_ble_eq_true rfl) (by rw [mcs_124, mC_238]; omega) (by rw [mcs_124, mS_238]; omega) ?_
  simp only [mcs_124, vpu, Nat.add_zero, Nat.zero_add, Nat.reduceAdd]
  refine R_run 40 ?_
  simp only [run_s, run_0, isc, Bool.or_false, Bool.false_or, Bool.or_true, Bool.true_or, Bool.or_self, cond_false, cond_true, gl, sl, stl, stl2, c2, isw, nf, pf, lnb, tk, true_and, and_true, nsg0, nsg1, Int.cast_ofNat_Int, Int.natCast_zero, Int.natCast_one, zero_z, z_add, z_sub, z_mul, z_neg, cnd_eq, cnd_ne, cnd_lt, cnd_ge, cnd_gt, cnd_le, vok_0, vok_3r, vok_3n, vok_4, Nat.add_zero, Nat.zero_add, Nat.reduceAdd, Nat.reduceSub, Nat.reduceMod, Nat.reduceDiv, Nat.reduceEqDiff, Nat.reduceLeDiff, Nat.reduceMul, Int.reduceNeg, if_true, if_false, ite_true, ite_false, reduceIte, hup_app, Nat.add_left_cancel_iff, Nat.left_eq_add, Nat.add_eq_left, reduceCtorEq, subc_0, subc_1, subc_2, subc_3, subc_4, subc_5, subc_6, subc_7, subc_8, subc_9, subc_10, subc_11, subc_12, sube_2, sube_3, sube_5, sube_8, sube_9, sube_10, rets_ok, sI_astore, sI_astore_n, sI_dup, sI_iconst, sI_invokespecial, sI_istore, sI_new, sI_newarray, ix_238_0, ix_238_3, ix_238_4, ix_238_7, ix_238_8, ix_238_11, ix_238_12, ix_238_15, ix_238_16, ix_238_17, ix_238_19, ix_238_20, ix_238_21, ix_238_23, ix_238_25, ix_238_26, mC_238, mS_238, Nat.add_assoc]
  try simp (disch := omega) only [z_lt, z_le, z_eq, z_in, z_nat, Int.toNat_natCast, z_l, zl_0, zl_add, zl_i, zl_eq, Int.reduceLT, Int.reduceLE, Int.reduceToNat, Nat.reduceAdd, Nat.reduceLeDiff, not_false_eq_true, true_and, and_true]
  repeat' (first | (with_reducible refine ⟨?_, ?_⟩) | (with_reducible intro _))
  all_goals try (first | exact True.intro | with_reducible rfl | exact absurd True.intro (by assumption) | omega | (exfalso; omega))
  refine R_heap (h := h3) e3.symm ?_
  exact law_loop (x := x) hL hQ (E.1.2.1 + 1) 0 h3 (x + 157) _ _ ⟨_, _, _, _, _, _, _, _, _, _, _, _, _, _, jx⟩ (by omega) (by omega) (by omega) (by omega)
end LAWLOOP
