/-! ===== pure: what holds of a game ===== -/
theorem rw1_c {W G K : GS} {n : Nat} : ∀ k : Nat, (∀ q, q ≤ k → K 1 q = G 1 q) → rw1 W K n k = rw1 W G n k := by
  intro k
  induction k with
  | zero =>
    intro h
    show (0, pipN W (K 1 0).toNat n) = (0, pipN W (G 1 0).toNat n)
    rw [h 0 (Nat.le_refl _)]
  | succ k ih =>
    intro h
    rw [rw1_s, rw1_s, ih (fun q hq => h q (by omega)), h (k + 1) (Nat.le_refl _)]
theorem ruleW_c {W G K : GS} {n np : Nat} (hn : 1 ≤ np) (h7 : K 7 7 = G 7 7) (h3 : K 7 3 = G 7 3) (h1 : ∀ q, q < np → K 1 q = G 1 q) : ruleW W K n np = ruleW W G n np := by
  unfold ruleW
  rw [h7, h3, rw1_c (np - 1) (fun q hq => h1 q (by omega))]
theorem rw1_b {W G : GS} {n : Nat} : ∀ k : Nat, -1 ≤ (rw1 W G n k).1 ∧ (rw1 W G n k).1 ≤ k := by
  intro k
  induction k with
  | zero => exact ⟨show (-1 : Int) ≤ 0 by decide, Int.le_refl _⟩
  | succ k ih =>
    rw [rw1_s]
    split
    · dsimp only; omega
    · split
      · dsimp only; omega
      · omega
theorem ruleW_b {W G : GS} {n np : Nat} (hn : 1 ≤ np) (h3 : -1 ≤ G 7 3 ∧ G 7 3 < np) : -1 ≤ ruleW W G n np ∧ ruleW W G n np < np := by
  unfold ruleW
  split
  · exact h3
  · split
    · omega
    · have := rw1_b (W := W) (G := G) (n := n) (np - 1)
      omega
def gvS (P : Nat → Nat) (G : GS) : Prop := (0 ≤ G 7 0 ∧ G 7 0 ≤ (szN (P 0) : Int)) ∧ (0 ≤ G 7 1 ∧ G 7 1 ≤ (szN (P 0) : Int)) ∧ (0 ≤ G 7 2 ∧ G 7 2 < (P 1 : Int)) ∧ (-1 ≤ G 7 3 ∧ G 7 3 < (P 1 : Int)) ∧ (0 ≤ G 7 4 ∧ G 7 4 ≤ (P 1 : Int) ∧ (G 7 6 = -2 → G 7 4 < (P 1 : Int))) ∧ (G 7 5 = 0 ∨ G 7 5 = 1) ∧ (G 7 5 = 1 → G 7 6 = ruleW (WH P) G (szN (P 0)) (P 1)) ∧ (-2 ≤ G 7 6 ∧ G 7 6 < (P 1 : Int)) ∧ (G 7 7 = 108 ∨ G 7 7 = 115 ∨ G 7 7 = 110) ∧ (0 ≤ G 7 8 ∧ G 7 8 ≤ 2) ∧ (0 ≤ G 7 9 ∧ G 7 9 ≤ 10)
def gvB (P : Nat → Nat) (G : GS) : Prop := G 7 10 = sumTo (G 5) (G 7 9).toNat ∧ ∀ k, k < (G 7 9).toNat → (0 ≤ G 3 k ∧ G 3 k < 4) ∧ (0 ≤ G 4 k ∧ G 4 k < (P 1 : Int)) ∧ 1 ≤ G 5 k
def gvP (G : GS) : Prop := ∀ k, k < (G 7 9).toNat → G 6 k = if G 7 6 = -2 then 0 else payF G (G 7 6) (G 7 9).toNat k
def gvT (P : Nat → Nat) (G : GS) : Prop := (∀ q, q < P 1 → 0 ≤ G 1 q ∧ (G 1 q).toNat < 2 ^ szN (P 0) ∧ (G 7 6 = -2 → G 1 q ≠ 0)) ∧ (∀ k, (G 7 0).toNat ≤ k → k < szN (P 0) → 0 ≤ G 0 k ∧ G 0 k < (szN (P 0) : Int)) ∧ (∀ j k, (G 7 0).toNat ≤ j → j < k → k < szN (P 0) → G 0 j ≠ G 0 k) ∧ (∀ k q, (G 7 0).toNat ≤ k → k < szN (P 0) → q < P 1 → (G 1 q).toNat.testBit (G 0 k).toNat = false) ∧ (0 < G 7 1 → ∀ k : Nat, (k : Int) ≤ G 7 1 → 0 ≤ G 2 k ∧ G 2 k ≤ (P 0 : Int)) ∧ ((G 7 1).toNat + sumN (fun q => pct (G 1 q).toNat 32) (P 1) + (szN (P 0) - (G 7 0).toNat) = szN (P 0)) ∧ (∀ t, t < szN (P 0) → (∃ q, q < P 1 ∧ (G 1 q).toNat.testBit t = true) ∨ (∃ k, (G 7 0).toNat ≤ k ∧ k < szN (P 0) ∧ G 0 k = (t : Int)) ∨ (∃ j : Nat, (j : Int) < G 7 1 ∧ tileN (P 0) (G 2 j).toNat (G 2 (j + 1)).toNat = t))
def gv (P : Nat → Nat) (G : GS) : Prop := gvS P G ∧ gvB P G ∧ gvT P G
section GV
variable {P : Nat → Nat} {G : GS}
theorem gv_live (hP : hOK P) (h : gv P G) (hw : G 7 6 = -2) : G 7 5 = 0 := by
  obtain ⟨⟨-, -, -, s4, -, s6, s7, -⟩, -, -⟩ := h
  rcases s6 with q | q
  · exact q
  · have := ruleW_b (W := WH P) (G := G) (n := szN (P 0)) (np := P 1) (by have := hP.2.1; omega) s4
    have := s7 q
    omega
theorem p0_7 (hP : hOK P) : P 0 < 7 := by have := hP.1; omega
theorem szP_b (hP : hOK P) : szN (P 0) ≤ 28 ∧ 6 ≤ szN (P 0) := ⟨szN_b _ (p0_7 hP), szN_1 _ (p0_7 hP) hP.1.1⟩
theorem hand_28 (hP : hOK P) (h : gv P G) {q : Nat} (hq : q < P 1) : (G 1 q).toNat < 2 ^ 28 :=
  Nat.lt_of_lt_of_le (h.2.2.1 q hq).2.1 (Nat.pow_le_pow_right (by decide) (szP_b hP).1)
theorem pip_b (hP : hOK P) (m : Nat) : 0 ≤ pipN (WH P) m (szN (P 0)) ∧ pipN (WH P) m (szN (P 0)) ≤ 100000 := by
  rw [pipN_Q P m _ (Nat.le_refl _)]
  have := pipQ_b (m := m) (p0_7 hP) (szN (P 0)) (Nat.le_refl _)
  have := szP_b hP
  omega
theorem pay_nn (hB : gvB P G) (w : Int) : ∀ k, k < (G 7 9).toNat → 0 ≤ payF G w (G 7 9).toNat k := by
  intro k hk
  unfold payF
  split
  · rename_i q
    refine Int.ediv_nonneg (Int.mul_nonneg ?_ ?_) (by omega)
    · rw [hB.1]; exact sumTo_nn _ (fun k hk => by have := (hB.2 k hk).2.2; omega)
    · have := (hB.2 k hk).2.2; omega
  · exact Int.le_refl _
theorem gv_take (hP : hOK P) (h : gv P G) (hp : gvP G) (hw : G 7 6 = -2) {w de m o : Nat} (h2 : G 7 2 = w) (h0 : G 7 0 = de) (hde : de < szN (P 0)) (hm : G 1 w = m) (ho : G 0 de = o) : gv P (g_take G w de m o) ∧ gvP (g_take G w de m o) := by
  have hst := gv_live hP h hw
  obtain ⟨⟨s1, s2, s3, s4, s5, s6, s7, s8, s9, s10, s11⟩, hB, t1, t2, t3, t4, t5, t6, t7⟩ := h
  have hsz := szP_b hP
  rw [h0] at t2 t3 t4 t6 t7
  simp only [Int.toNat_natCast] at t2 t3 t4 t6 t7
  have hwp : w < P 1 := by omega
  have ho1 := t2 de (Nat.le_refl _) hde
  have hob := t4 de w (Nat.le_refl _) hde hwp
  rw [ho, hm] at hob
  simp only [Int.toNat_natCast] at hob
  have hm2 := (t1 w hwp).2.1
  rw [hm, Int.toNat_natCast] at hm2
  have e1 : ∀ q, g_take G w de m o 1 q = if q = w then ((m ||| 2 ^ o : Nat) : Int) else G 1 q := fun _ => rfl
  have e70 : g_take G w de m o 7 0 = (de : Int) + 1 := rfl
  have hon : o < szN (P 0) := by omega
  refine ⟨⟨⟨?_, s2, s3, s4, s5, s6, ?_, s8, s9, s10, s11⟩, hB, ?_, ?_, ?_, ?_, t5, ?_, ?_⟩, hp⟩
  · rw [e70]; omega
  · intro q
    have : G 7 5 = 1 := q
    omega
  · intro q hq
    rw [e1]
    by_cases hqw : q = w
    · rw [if_pos hqw]
      refine ⟨by omega, ?_, fun _ => ?_⟩
      · rw [Int.toNat_natCast]
        exact Nat.or_lt_two_pow hm2 (Nat.pow_lt_pow_right (by decide) hon)
      · intro q2
        have x : (m ||| 2 ^ o).testBit o = true := by rw [bit_in]; simp
        rw [show m ||| 2 ^ o = 0 by omega, Nat.zero_testBit] at x
        cases x
    · rw [if_neg hqw]
      exact t1 q hq
  · rw [e70]
    intro k hk hk2
    exact t2 k (by omega) hk2
  · rw [e70]
    intro j k hj hjk hk
    exact t3 j k (by omega) hjk hk
  · rw [e70]
    intro k q hk hk2 hq
    show (g_take G w de m o 1 q).toNat.testBit (G 0 k).toNat = false
    rw [e1]
    by_cases hqw : q = w
    · rw [if_pos hqw, Int.toNat_natCast, bit_in]
      have x1 := t4 k w (by omega) hk2 hwp
      rw [hm, Int.toNat_natCast] at x1
      have x2 := t3 de k (Nat.le_refl _) (by omega) hk2
      have x3 := t2 k (by omega) hk2
      rw [x1, Bool.false_or, decide_eq_false_iff_not]
      omega
    · rw [if_neg hqw]
      exact t4 k q (by omega) hk2 hq
  · rw [e70]
    have x1 := sumN_u (f := fun q => pct (g_take G w de m o 1 q).toNat 32) (g := fun q => pct (G 1 q).toNat 32) (w := w) (a := 0) (b := 1) (P 1) hwp (fun k hk hkw => by rw [e1, if_neg hkw]) (by
      rw [e1, if_pos rfl, hm, Int.toNat_natCast, Int.toNat_natCast, pct_in hob, if_pos (by omega)])
    show (G 7 1).toNat + _ + _ = _
    omega
  · intro t ht
    rcases t7 t ht with ⟨q, hq, hb⟩ | ⟨k, hk, hk2, e⟩ | ⟨j, hj, e⟩
    · refine Or.inl ⟨q, hq, ?_⟩
      rw [e1]
      by_cases hqw : q = w
      · rw [if_pos hqw, Int.toNat_natCast, bit_in]
        rw [hqw, hm, Int.toNat_natCast] at hb
        rw [hb, Bool.true_or]
      · rw [if_neg hqw]
        exact hb
    · by_cases hkd : k = de
      · subst hkd
        refine Or.inl ⟨w, hwp, ?_⟩
        rw [e1, if_pos rfl, Int.toNat_natCast, bit_in, show decide (o = t) = true from decide_eq_true (by omega), Bool.or_true]
      · refine Or.inr (Or.inl ⟨k, ?_, hk2, e⟩)
        rw [e70]; omega
    · exact Or.inr (Or.inr ⟨j, hj, e⟩)
theorem gv_skip (hP : hOK P) (h : gv P G) (hp : gvP G) (hw : G 7 6 = -2) : gv P (g_skip (WH P) G (szN (P 0)) (P 1)) ∧ (g_skip (WH P) G (szN (P 0)) (P 1) 7 6 = -2 → gvP (g_skip (WH P) G (szN (P 0)) (P 1))) := by
  have hst := gv_live hP h hw
  have hn := hP.2.1
  obtain ⟨⟨s1, s2, s3, s4, s5, s6, s7, s8, s9, s10, s11⟩, hB, t1, t2, t3, t4, t5, t6, t7⟩ := h
  unfold g_skip
  by_cases hc : (P 1 : Int) ≤ G 7 4 + 1
  · rw [if_pos hc]
    have hr := ruleW_b (W := WH P) (G := g_p2 G) (n := szN (P 0)) (np := P 1) (by omega) s4
    have e6 : g_move (g_win (g_p2 G) (ruleW (WH P) (g_p2 G) (szN (P 0)) (P 1))) (P 1) 7 6 = ruleW (WH P) (g_p2 G) (szN (P 0)) (P 1) := rfl
    have e2 : g_move (g_win (g_p2 G) (ruleW (WH P) (g_p2 G) (szN (P 0)) (P 1))) (P 1) 7 2 = if G 7 2 + 1 < (P 1 : Int) then G 7 2 + 1 else 0 := rfl
    have e4 : g_move (g_win (g_p2 G) (ruleW (WH P) (g_p2 G) (szN (P 0)) (P 1))) (P 1) 7 4 = G 7 4 + 1 := rfl
    refine ⟨⟨⟨s1, s2, ?_, s4, ?_, Or.inr rfl, fun _ => ?_, ?_, s9, s10, s11⟩, hB, fun q hq => ?_, t2, t3, t4, t5, t6, t7⟩, fun q => ?_⟩
    · rw [e2]; split <;> omega
    · rw [e4, e6]; exact ⟨by omega, by have := s5.2.2 hw; omega, fun q => by omega⟩
    · rw [e6]; exact ruleW_c (by omega) rfl rfl (fun _ _ => rfl)
    · rw [e6]; omega
    · exact ⟨(t1 q hq).1, (t1 q hq).2.1, fun q2 => by rw [e6] at q2; omega⟩
    · rw [e6] at q; omega
  · rw [if_neg hc]
    have e2 : g_move (g_p1 G) (P 1) 7 2 = if G 7 2 + 1 < (P 1 : Int) then G 7 2 + 1 else 0 := rfl
    have e4 : g_move (g_p1 G) (P 1) 7 4 = G 7 4 + 1 := rfl
    refine ⟨⟨⟨s1, s2, ?_, s4, ?_, s6, fun q => ?_, s8, s9, s10, s11⟩, hB, t1, t2, t3, t4, t5, t6, t7⟩, fun _ => hp⟩
    · rw [e2]; split <;> omega
    · rw [e4]; exact ⟨by omega, by omega, fun q => by omega⟩
    · have : G 7 5 = 1 := q
      omega
theorem gv_judge (hP : hOK P) (h : gv P G) (hs : G 7 5 = 1) {c : Int} (hc : c = 108 ∨ c = 115 ∨ c = 110) (ha : G 7 8 < 2) : gv P (g_judge (WH P) G c (szN (P 0)) (P 1)) ∧ g_judge (WH P) G c (szN (P 0)) (P 1) 7 6 ≠ -2 := by
  have hn := hP.2.1
  obtain ⟨⟨s1, s2, s3, s4, s5, s6, s7, s8, s9, s10, s11⟩, hB, t1, t2, t3, t4, t5, t6, t7⟩ := h
  have hr0 := ruleW_b (W := WH P) (G := G) (n := szN (P 0)) (np := P 1) (by omega) s4
  have hr := ruleW_b (W := WH P) (G := g_j1 G c) (n := szN (P 0)) (np := P 1) (by omega) s4
  have e6 : g_judge (WH P) G c (szN (P 0)) (P 1) 7 6 = ruleW (WH P) (g_j1 G c) (szN (P 0)) (P 1) := rfl
  have e8 : g_judge (WH P) G c (szN (P 0)) (P 1) 7 8 = G 7 8 + 1 := rfl
  have hw := s7 hs
  refine ⟨⟨⟨s1, s2, s3, s4, ⟨s5.1, s5.2.1, fun q => ?_⟩, s6, fun _ => ?_, ?_, hc, ?_, s11⟩, hB, fun q hq => ⟨(t1 q hq).1, (t1 q hq).2.1, fun q2 => ?_⟩, t2, t3, t4, t5, t6, t7⟩, ?_⟩
  · rw [e6] at q; omega
  · rw [e6]; exact ruleW_c (by omega) rfl rfl (fun _ _ => rfl)
  · rw [e6]; omega
  · rw [e8]; omega
  · rw [e6] at q2; omega
  · rw [e6]; omega
theorem gv_bet (hP : hOK P) (h : gv P G) (hp : gvP G) (hw : G 7 6 = -2) {n : Nat} {b p c : Int} (hn : G 7 9 = n) (hn2 : n < 10) (hb : 0 ≤ b ∧ b < 4) (hpl : 0 ≤ p ∧ p < (P 1 : Int)) (hc : 1 ≤ c) : gv P (b_add G n b p c) ∧ gvP (b_add G n b p c) := by
  obtain ⟨⟨s1, s2, s3, s4, s5, s6, s7, s8, s9, s10, s11⟩, ⟨b1, b2⟩, hT⟩ := h
  have e9 : b_add G n b p c 7 9 = G 7 9 + 1 := rfl
  have e10 : b_add G n b p c 7 10 = G 7 10 + c := rfl
  have e3 : ∀ k, b_add G n b p c 3 k = if k = n then b else G 3 k := fun _ => rfl
  have e4 : ∀ k, b_add G n b p c 4 k = if k = n then p else G 4 k := fun _ => rfl
  have e5 : ∀ k, b_add G n b p c 5 k = if k = n then c else G 5 k := fun _ => rfl
  have e6 : ∀ k, b_add G n b p c 6 k = if k = n then 0 else G 6 k := fun _ => rfl
  have e76 : b_add G n b p c 7 6 = -2 := hw
  have t9 : (b_add G n b p c 7 9).toNat = n + 1 := by rw [e9, hn]; omega
  rw [hn, Int.toNat_natCast] at b1 b2
  refine ⟨⟨⟨s1, s2, s3, s4, s5, s6, fun q => (s7 q).trans (ruleW_c (K := b_add G n b p c) (G := G) (show 1 ≤ P 1 by have := hP.2.1; omega) rfl rfl (fun _ _ => rfl)).symm, s8, s9, s10, ?_⟩, ⟨?_, ?_⟩, hT⟩, ?_⟩
  · rw [e9]; omega
  · rw [t9, e10, b1]
    show _ = sumTo (b_add G n b p c 5) n + b_add G n b p c 5 n
    rw [e5, if_pos rfl, sumTo_c (f := b_add G n b p c 5) (g := G 5) n (fun k hk => by rw [e5, if_neg (by omega)])]
  · rw [t9]
    intro k hk
    rw [e3, e4, e5]
    by_cases hkn : k = n
    · rw [if_pos hkn, if_pos hkn, if_pos hkn]
      exact ⟨hb, hpl, hc⟩
    · rw [if_neg hkn, if_neg hkn, if_neg hkn]
      exact b2 k (by omega)
  · intro k hk
    rw [t9] at hk
    rw [e76, if_pos rfl, e6]
    by_cases hkn : k = n
    · rw [if_pos hkn]
    · rw [if_neg hkn]
      have := hp k (by rw [hn]; omega)
      rw [hw, if_pos rfl] at this
      exact this
theorem gv_shr (hP : hOK P) (h : gv P G) (hw : G 7 6 ≠ -2) : gv P (b_shr G (G 7 6) (G 7 9).toNat) ∧ gvP (b_shr G (G 7 6) (G 7 9).toNat) := by
  obtain ⟨⟨s1, s2, s3, s4, s5, s6, s7, s8⟩, hB, hT⟩ := h
  refine ⟨⟨⟨s1, s2, s3, s4, s5, s6, fun q => (s7 q).trans (ruleW_c (K := b_shr G (G 7 6) (G 7 9).toNat) (G := G) (show 1 ≤ P 1 by have := hP.2.1; omega) rfl rfl (fun _ _ => rfl)).symm, s8⟩, hB, hT⟩, fun k hk => ?_⟩
  have hk' : k < (G 7 9).toNat := hk
  show cp _ _ _ k = if G 7 6 = -2 then 0 else payF (b_shr G (G 7 6) (G 7 9).toNat) (G 7 6) (G 7 9).toNat k
  rw [if_neg hw]
  unfold cp
  rw [if_pos hk']
  rfl
end GV
