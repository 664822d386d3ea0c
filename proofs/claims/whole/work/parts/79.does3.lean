/-! ===== lays and beginnings ===== -/
section DOES3
variable {E : EX} {d : Nat} {h : AH} {sz m : Nat} {H : HT} {nh g k w : Nat} {M M' ML : GS} {P : Nat → Nat} {G : GS} {T : TT} {e : Nat → Int}
/- a game is begun -/
theorem gs_g {s : Int} (hg : g < 6) (hk : k < 400) (hj : M 6 k = 103 ∧ M 7 k = g ∧ M 8 k = w ∧ M 9 k = s) (hP : hOK P) (hw : rH1 M w P) (hs : 0 ≤ s ∧ s ≤ 999999) : ∃ M', Sp E (d + 7) 136 [.ref m, .int (z (k : Int))] (mh h m M) sz (rets none (mh h m M') sz) ∧ sepG M M' g ∧ gR M' g P (wiH (gBeg P G s) w) ∧ M' 0 16 = (g : Int) + 1 ∧ M' 0 38 = M 0 38 ∧ M' 32 = M 32 := by
  obtain ⟨w0, w1, w2, w3, w4, w5⟩ := hw
  obtain ⟨p1, p2, p3, p4, p5, p6⟩ := id hP
  have hsz := szP_b hP
  obtain ⟨-, ho⟩ := gBeg_o hP G s
  have s137 := sp_137 (E := E) (d := d + 3) (h := h) (m := m) (M := M) (sz := sz) (g := g) (w := w) (p := P 0) (n := szN (P 0)) (np := P 1) (ti := P 2) (seed := s) (ru := P 4) (f0 := G 0) (o := oN (shf (G 0) (szN (P 0)) s (szN (P 0) - 1)).1) hg w0 w1 (by omega) rfl (by omega) w2 (by omega) w3 p4 (by omega) w5 (by omega) ho
  refine ⟨_, sp_136g (E := E) (d := d) hk hj.1 hj.2.1 hj.2.2.1 hj.2.2.2 s137, ?_, ⟨⟨⟨?_, ?_, ?_, ?_, ?_, ?_, ?_, ?_, ?_⟩, fun _ => ⟨?_, ?_⟩, fun j j1 j2 => ?_, fun q hq => ?_, ⟨30, ?_, Nat.le_refl _, Nat.le_add_right _ _, fun i hi => absurd (show (i : Int) < 0 from hi) (by omega)⟩, fun j hj => absurd (show j < (0 : Int).toNat from hj) (Nat.not_lt_zero _)⟩, fun j hj => absurd (show j < (0 : Int).toNat from hj) (Nat.not_lt_zero _)⟩, ?_, rfl, rfl⟩
  · have y1 : sepG M (mBas M g w) g := sep_t (sep_0 (Or.inl rfl)) (sep_6 (by omega))
    have y2 : sepG (mBas M g w) (sr (mBas M g w) 13 (emb (28 * g) (szN (P 0)) (shf (G 0) (szN (P 0)) s (szN (P 0) - 1)).1 (M 13))) g := sep_13 (fun j hj => emb_out (by omega))
    have y3 : sepG (sr (mBas M g w) 13 (emb (28 * g) (szN (P 0)) (shf (G 0) (szN (P 0)) s (szN (P 0) - 1)).1 (M 13))) (sr (sr (mBas M g w) 13 (emb (28 * g) (szN (P 0)) (shf (G 0) (szN (P 0)) s (szN (P 0) - 1)).1 (M 13))) 14 (emb (4 * g) 4 (dRow (fun _ => 0) (oN (shf (G 0) (szN (P 0)) s (szN (P 0) - 1)).1) (P 2) (P 1)) (M 14))) g := sep_14 (fun j hj => emb_out (by omega))
    refine sep_t (sep_t (sep_t (sep_t y1 y2) y3) (sep_6 (r := 15) (v := ((P 1 * P 2 : Nat) : Int)) (by omega))) ?_
    unfold mBeg mTail
    exact sep_t (sep_t (sep_t (sep_t (sep_t (sep_t (sep_t (sep_t (sep_t (sep_t (sep_6 (by omega)) (sep_6 (by omega))) (sep_6 (by omega))) (sep_6 (by omega))) (sep_6 (by omega))) (sep_6 (by omega))) (sep_6 (by omega))) (sep_6 (by omega))) (sep_6 (by omega))) (sep_6 (by omega))) (sep_6 (by omega))
  · exact st1_eq _ _ _
  · exact st1_eq _ _ _
  · exact st1_eq _ _ _
  · exact st1_eq _ _ _
  · exact st1_eq _ _ _
  · exact st1_eq _ _ _
  · exact st1_eq _ _ _
  · exact st1_eq _ _ _
  · exact st1_eq _ _ _
  · exact st1_eq _ _ _
  · exact st1_eq _ _ _
  · exact emb_at j2
  · show emb (4 * g) 4 (dRow (fun _ => 0) (oN (shf (G 0) (szN (P 0)) s (szN (P 0) - 1)).1) (P 2) (P 1)) (M 14) (4 * g + q) = dRow (G 1) (oN (shf (G 0) (szN (P 0)) s (szN (P 0) - 1)).1) (P 2) (P 1) q
    rw [emb_at (by omega)]
    unfold dRow
    rw [if_pos hq, if_pos hq]
  · exact st1_eq _ _ _
  · show st1 (M 0) 16 ((g : Int) + 1) 16 = _
    exact st1_eq _ _ _
theorem and_x {a t : Nat} (ha : a < 2 ^ 28) (ht : t < 28) (hb : a.testBit t = true) : a &&& (2 ^ t ^^^ 4294967295) = a ^^^ 2 ^ t := by
  apply Nat.eq_of_testBit_eq
  intro i
  rw [Nat.testBit_and, Nat.testBit_xor, Nat.testBit_xor, show (4294967295 : Nat) = 2 ^ 32 - 1 by decide, Nat.testBit_two_pow_sub_one, Nat.testBit_two_pow]
  by_cases hi : t = i
  · subst hi
    rw [hb, decide_eq_true rfl, decide_eq_true (by omega)]
    rfl
  · rw [decide_eq_false hi]
    by_cases h2 : i < 28
    · rw [decide_eq_true (by omega : i < 32)]
      cases a.testBit i <;> rfl
    · rw [Nat.testBit_lt_two_pow (Nat.lt_of_lt_of_le ha (Nat.pow_le_pow_right (by decide) (by omega)))]
      rfl
/- behind the line -/
theorem gs_tt {t n w' a : Nat} {lf : Bool} {l5 l6 b1 : Int} {o7 : Option Value} (hg : g < 6) (hP : hOK P) (hw : rH1 M w P) (h11 : G 7 11 = w) (hgv : gv P G) (hgp : gvP G) (hR : gR M g P G) (q2 : G 7 6 = -2) (hc : G 7 10 ≤ 30000) (h1 : G 7 1 = n) (h2 : G 7 2 = w') (hm : G 1 w' = a) (ht : t < szN (P 0)) (hb : a.testBit t = true) (hf : fitQ (P 0) G t lf) (hL : ∀ r, r ≠ 19 → r ≠ 20 → ML r = M r) (hs : sepG M ML g) (hl : ∃ f : Nat, ML 20 g = f ∧ f ≤ 30 ∧ 30 ≤ f + (n + 1) ∧ ∀ i : Nat, i < n + 1 → ML 19 (60 * g + (f + i)) = 10 * g_add G n (WH P 0 t) (WH P 1 t) lf 2 i + g_add G n (WH P 0 t) (WH P 1 t) lf 2 (i + 1)) (ho7 : o7 = none ∨ ∃ v, o7 = some (.int v)) : ∃ M', Rr E (mcsT mtab) (Sp E (d + 5)) (d + 5) mi_139 (rets none (mh h m M') sz) 194 [some (.ref m), some (.int (z (g : Int))), some (.int (z (t : Int))), some (.int (z b1)), some (.int (z (k : Int))), some (.int (z l5)), some (.int (z l6)), o7] [] (mh h m ML) sz 0 0 ∧ gst P (g_move (g_lay (WH P) G t n w' a lf) (P 1)) g M M' 0 (fun _ => 0) k := by
  obtain ⟨⟨⟨a1, a2, a3, a4, a5, a6, a7, a8, a9⟩, b, cc, dd, -, e6⟩, h31⟩ := hR
  obtain ⟨s, hB, t1, t2, t3, t4, t5, t6, t7⟩ := id hgv
  obtain ⟨v0, v1, v2, v3, v4, v5, v6, v7, v8, v9, v10⟩ := s
  have hsz := szP_b hP
  have hp := hP.1
  have hp1 := hP.2.1
  obtain ⟨b1', b2⟩ := b q2
  have w0 := hw.1
  obtain ⟨hn, gv', -⟩ := gv_lay hP hgv hgp q2 h1 h2 hm ht hb hf
  have ha28 : a < 2 ^ 28 := by
    have := hand_28 hP hgv (q := w') (by omega)
    rw [hm, Int.toNat_natCast] at this
    exact this
  have ex := and_x ha28 (show t < 28 by omega) hb
  obtain ⟨f, f1, f2, f3, f4⟩ := hl
  obtain ⟨G', eG⟩ : ∃ G', G' = g_move (g_lay (WH P) G t n w' a lf) (P 1) := ⟨_, rfl⟩
  rw [← eG] at gv' ⊢
  have e70 : G' 7 0 = G 7 0 := by rw [eG]; rfl
  have e71 : G' 7 1 = (n : Int) + 1 := by rw [eG]; rfl
  have e72 : G' 7 2 = if (w' : Int) + 1 < (P 1 : Int) then (w' : Int) + 1 else 0 := by rw [eG, ← h2]; rfl
  have e73 : G' 7 3 = w' := by rw [eG]; rfl
  have e74 : G' 7 4 = 0 := by rw [eG]; rfl
  have e75 : G' 7 5 = G 7 5 := by rw [eG]; rfl
  have e76 : G' 7 6 = if a ^^^ 2 ^ t = 0 then (w' : Int) else G 7 6 := by rw [eG, ← ex]; rfl
  have e77 : G' 7 7 = G 7 7 := by rw [eG]; rfl
  have e78 : G' 7 8 = G 7 8 := by rw [eG]; rfl
  have e79 : G' 7 9 = G 7 9 := by rw [eG]; rfl
  have e710 : G' 7 10 = G 7 10 := by rw [eG]; rfl
  have e711 : G' 7 11 = G 7 11 := by rw [eG]; rfl
  have e0 : G' 0 = G 0 := by rw [eG]; rfl
  have e1 : G' 1 = st1 (G 1) w' ((a ^^^ 2 ^ t : Nat) : Int) := by rw [eG, ← ex]; rfl
  have e2 : G' 2 = g_add G n (WH P 0 t) (WH P 1 t) lf 2 := by rw [eG]; rfl
  have e3 : G' 3 = G 3 ∧ G' 4 = G 4 ∧ G' 5 = G 5 ∧ G' 6 = G 6 := by rw [eG]; exact ⟨rfl, rfl, rfl, rfl⟩
  have L : ∀ r, r ≠ 19 → r ≠ 20 → r ≠ 21 → r ≠ 14 → r ≠ 18 → r ≠ 17 → mLy1 ML g w' t a (G 7 1) r = M r := fun r x1 x2 x3 x4 x5 x6 => by
    unfold mLy1
    rw [sr_ne x6, sr_ne x5, sr_ne x4, sr_ne x3, hL r x1 x2]
  -- all but the mover, the winner and what is paid
  have core : ∀ M5 : GS, (∀ r, r ≠ 16 → r ≠ 23 → r ≠ 26 → M5 r = mLy1 ML g w' t a (G 7 1) r) → M5 23 g = G' 7 6 → (G' 7 6 = -2 → M5 16 g = G' 7 2) → gA M5 g P G' := by
    intro M5 hM h23 h16
    have q14 : M5 14 = st1 (M 14) (4 * g + w') ((a ^^^ 2 ^ t : Nat) : Int) := by
      rw [hM 14 (by decide) (by decide) (by decide), ← hL 14 (by decide) (by decide)]
      rfl
    have q17 : M5 17 = st1 (M 17) g 0 := by
      rw [hM 17 (by decide) (by decide) (by decide), ← hL 17 (by decide) (by decide)]
      rfl
    have q18 : M5 18 = st1 (M 18) g (w' : Int) := by
      rw [hM 18 (by decide) (by decide) (by decide), ← hL 18 (by decide) (by decide)]
      rfl
    have q21 : M5 21 = st1 (M 21) g (G 7 1 + 1) := by
      rw [hM 21 (by decide) (by decide) (by decide), ← hL 21 (by decide) (by decide)]
      rfl
    have q19 : M5 19 = ML 19 := by rw [hM 19 (by decide) (by decide) (by decide)]; rfl
    have q20 : M5 20 = ML 20 := by rw [hM 20 (by decide) (by decide) (by decide)]; rfl
    have qo : ∀ r, r ≠ 16 → r ≠ 23 → r ≠ 26 → r ≠ 19 → r ≠ 20 → r ≠ 21 → r ≠ 14 → r ≠ 18 → r ≠ 17 → M5 r = M r := fun r x1 x2 x3 x4 x5 x6 x7 x8 x9 => by rw [hM r x1 x2 x3, L r x4 x5 x6 x7 x8 x9]
    have o12 := qo 12 (by decide) (by decide) (by decide) (by decide) (by decide) (by decide) (by decide) (by decide) (by decide)
    have o13 := qo 13 (by decide) (by decide) (by decide) (by decide) (by decide) (by decide) (by decide) (by decide) (by decide)
    have o15 := qo 15 (by decide) (by decide) (by decide) (by decide) (by decide) (by decide) (by decide) (by decide) (by decide)
    have o22 := qo 22 (by decide) (by decide) (by decide) (by decide) (by decide) (by decide) (by decide) (by decide) (by decide)
    have o24 := qo 24 (by decide) (by decide) (by decide) (by decide) (by decide) (by decide) (by decide) (by decide) (by decide)
    have o25 := qo 25 (by decide) (by decide) (by decide) (by decide) (by decide) (by decide) (by decide) (by decide) (by decide)
    have o27 := qo 27 (by decide) (by decide) (by decide) (by decide) (by decide) (by decide) (by decide) (by decide) (by decide)
    have o28 := qo 28 (by decide) (by decide) (by decide) (by decide) (by decide) (by decide) (by decide) (by decide) (by decide)
    have o29 := qo 29 (by decide) (by decide) (by decide) (by decide) (by decide) (by decide) (by decide) (by decide) (by decide)
    have o30 := qo 30 (by decide) (by decide) (by decide) (by decide) (by decide) (by decide) (by decide) (by decide) (by decide)
    refine ⟨⟨by rw [o12, e711, a1], by rw [o15, e70, a2], by rw [q21, e71, st1_eq, h1], by rw [q18, e73, st1_eq], by rw [o22, e75, a5], h23, by rw [o24, e77, a7], by rw [o25, e78, a8], by rw [o27, e79, a9]⟩, fun q => ⟨h16 q, by rw [q17, e74, st1_eq]⟩, fun j j1 j2 => ?_, fun q hq => ?_, ⟨f, by rw [q20, f1], f2, by rw [e71]; omega, fun i hi => ?_⟩, fun j hj => ?_⟩
    · rw [e70] at j1
      rw [o13, e0]
      exact cc j j1 j2
    · rw [q14, e1]
      unfold st1
      by_cases hqw : q = w'
      · rw [if_pos (by omega), if_pos hqw]
      · rw [if_neg (by omega), if_neg hqw]
        exact dd q hq
    · rw [e71] at hi
      rw [q19, e2]
      exact f4 i (by omega)
    · rw [e79] at hj
      rw [o28, o29, o30, e3.1, e3.2.1, e3.2.2.1]
      exact e6 j hj
  have hsep1 : sepG M (mLy1 ML g w' t a (G 7 1)) g := sep_t hs (sep_t (sep_t (sep_t (sep_6 (by omega)) (sep_14 (fun j hj => if_neg (by omega)))) (sep_6 (by omega))) (sep_6 (by omega)))
  have x0 : mLy1 ML g w' t a (G 7 1) 0 = M 0 := L 0 (by decide) (by decide) (by decide) (by decide) (by decide) (by decide)
  have x32 : mLy1 ML g w' t a (G 7 1) 32 = M 32 := L 32 (by decide) (by decide) (by decide) (by decide) (by decide) (by decide)
  have x31 : mLy1 ML g w' t a (G 7 1) 31 = M 31 := L 31 (by decide) (by decide) (by decide) (by decide) (by decide) (by decide)
  have l21 : ML 21 g = G 7 1 := by rw [hL 21 (by decide) (by decide), a3]
  have l16 : ML 16 g = w' := by rw [hL 16 (by decide) (by decide), b1', h2]
  have l14 : ML 14 (4 * g + w') = a := by rw [hL 14 (by decide) (by decide), dd w' (by omega), hm]
  have l12 : ML 12 g = w := by rw [hL 12 (by decide) (by decide), a1, h11]
  have l2 : ML 2 w = P 1 := by rw [hL 2 (by decide) (by decide)]; exact hw.2.2.1
  by_cases hz : a ^^^ 2 ^ t = 0
  · rw [if_pos hz] at e76
    have hA : gA (mLy3 (mLy1 ML g w' t a (G 7 1)) g w' k) g P G' := core _ (fun r x1 x2 x3 => by unfold mLy3; rw [sr_ne x3, sr_ne x2]) (by rw [e76]; exact st1_eq _ _ _) (fun q => by omega)
    have h144 := sp_144v (E := E) (d := d + 3) (h := h) (m := m) (sz := sz) (s := 1) hg hP gv' hA (by rw [e710]; exact hc) (Or.inl rfl)
    refine ⟨_, sp_139t (E := E) (d := d + 1) (h := h) (m := m) (sz := sz) (M := ML) (la := G 7 1) (p := w') (a := a) (w := w) (np := P 1) (ev := k) hg (by omega) (by omega) l21 l16 l14 ha28 l12 w0 l2 (by omega) (fun _ => h144) (fun q => absurd hz q) ho7, gst_o hP gv' (sep_t hsep1 (sep_t (sep_6 (by omega)) (sep_6 (by omega)))) (by omega) hA x0 x32 (st1_eq _ _ _)⟩
  · rw [if_neg hz] at e76
    have hA : gA (mLy2 (mLy1 ML g w' t a (G 7 1)) g w' (P 1)) g P G' := core _ (fun r x1 x2 x3 => by unfold mLy2; rw [sr_ne x1]) (by
      rw [e76, ← a6]
      show mLy1 ML g w' t a (G 7 1) 23 g = _
      rw [L 23 (by decide) (by decide) (by decide) (by decide) (by decide) (by decide)]) (fun _ => by
      rw [e72, ← mod_np (by omega) (by omega)]
      exact st1_eq _ _ _)
    refine ⟨_, sp_139t (E := E) (d := d + 1) (h := h) (m := m) (sz := sz) (M := ML) (la := G 7 1) (p := w') (a := a) (w := w) (np := P 1) (ev := k) hg (by omega) (by omega) l21 l16 l14 ha28 l12 w0 l2 (by omega) (fun q => absurd q hz) (fun _ => rfl) ho7, gst_l (sep_t hsep1 (sep_6 (by omega))) (by rw [e76]; exact q2) ⟨hA, fun j hj => ?_⟩ x0 x32⟩
    rw [e79] at hj
    show mLy1 ML g w' t a (G 7 1) 31 _ = _
    rw [x31, e3.2.2.2]
    exact h31 j hj
end DOES3
