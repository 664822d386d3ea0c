/-! ===== passes and appeals ===== -/
section DOES2
variable {E : EX} {d : Nat} {h : AH} {sz m : Nat} {H : HT} {nh g k w : Nat} {M M' M2 : GS} {P : Nat → Nat} {G : GS} {T : TT} {e : Nat → Int}
/- the house of a game in the reference -/
def rH1 (M : GS) (w : Nat) (P : Nat → Nat) : Prop := w < 4 ∧ M 1 w = P 0 ∧ M 2 w = P 1 ∧ M 3 w = P 2 ∧ M 4 w = P 3 ∧ M 5 w = P 4
theorem mod_np {t np : Int} (h1 : 0 ≤ t) (h2 : t < np) : (t + 1) % np = if t + 1 < np then t + 1 else 0 := by
  by_cases h3 : t + 1 < np
  · rw [if_pos h3, Int.emod_eq_of_lt (by omega) h3]
  · rw [if_neg h3, show t + 1 = np by omega, Int.emod_self]
theorem sp_142v (hg : g < 6) (hP : hOK P) (hw : rH1 M w P) (h12 : M 12 g = w) (h24 : M 24 g = G 7 7) (h18 : M 18 g = G 7 3) (hr : G 7 7 = 108 ∨ G 7 7 = 115 ∨ G 7 7 = 110) (h14 : ∀ q, q < P 1 → M 14 (4 * g + q) = G 1 q ∧ 0 ≤ G 1 q ∧ (G 1 q).toNat < 2 ^ 28) : Sp E (d + 4) 142 [.ref m, .int (z (g : Int))] (mh h m M) sz (rets (some (.int (z (ruleW (WH P) G (szN (P 0)) (P 1))))) (mh h m M) sz) := by
  obtain ⟨w0, w1, w2, -⟩ := hw
  have hp := hP.1
  have hp1 := hP.2.1
  have s := sp_142 (E := E) (d := d) (h := h) (m := m) (M := M) (sz := sz) (g := g) (w := w) (p := P 0) (np := P 1) (ru := G 7 7) (ll := G 7 3) (a := fun q => (G 1 q).toNat) hg h12 w0 w1 (by omega) w2 (by omega) h24 (by omega) h18 (fun q hq => by have := h14 q hq; exact ⟨by omega, this.2.2⟩)
  rw [ruQ_W hP (fun q hq => rfl)] at s
  exact s
theorem gs_p {ov : Int} (hg : g < 6) (hk : k < 400) (hj : M 6 k = 112 ∧ M 7 k = g) (hP : hOK P) (hw : rH1 M w P) (h11 : G 7 11 = w) (hgv : gv P G) (hgp : gvP G) (hR : gR M g P G) (q2 : G 7 6 = -2) (hc : G 7 10 ≤ 30000) (hov : ov = k) : ∃ M', Sp E (d + 7) 136 [.ref m, .int (z (k : Int))] (mh h m M) sz (rets none (mh h m M') sz) ∧ gst P (g_skip (WH P) G (szN (P 0)) (P 1)) g M M' 0 (fun _ => 0) ov := by
  obtain ⟨⟨⟨a1, a2, a3, a4, a5, a6, a7, a8, a9⟩, b, c, dd, ⟨f, f1, f2, f3, f4⟩, e6⟩, h31⟩ := hR
  obtain ⟨s, hB, t1, t2, t3, t4, t5, t6, t7⟩ := id hgv
  obtain ⟨v0, v1, v2, v3, v4, v5, v6, v7, v8, v9, v10⟩ := s
  have hsz := szP_b hP
  have hp := hP.1
  have hp1 := hP.2.1
  obtain ⟨b1, b2⟩ := b q2
  have hlv := v4.2.2 q2
  have w0 := hw.1
  by_cases hps : (P 1 : Int) ≤ G 7 4 + 1
  · have eG : g_skip (WH P) G (szN (P 0)) (P 1) = g_move (g_win (g_p2 G) (ruleW (WH P) (g_p2 G) (szN (P 0)) (P 1))) (P 1) := if_pos hps
    have gv' := (gv_skip hP hgv hgp q2).1
    rw [eG] at gv' ⊢
    have e76 : g_move (g_win (g_p2 G) (ruleW (WH P) (g_p2 G) (szN (P 0)) (P 1))) (P 1) 7 6 = ruleW (WH P) (g_p2 G) (szN (P 0)) (P 1) := rfl
    have e75 : g_move (g_win (g_p2 G) (ruleW (WH P) (g_p2 G) (szN (P 0)) (P 1))) (P 1) 7 5 = 1 := rfl
    have hne : g_move (g_win (g_p2 G) (ruleW (WH P) (g_p2 G) (szN (P 0)) (P 1))) (P 1) 7 6 ≠ -2 := fun q => by
      have := gv_live hP gv' q
      rw [e75] at this
      omega
    have hA : gA (mPs4 M g (G 7 4) (ruleW (WH P) (g_p2 G) (szN (P 0)) (P 1)) k) g P (g_move (g_win (g_p2 G) (ruleW (WH P) (g_p2 G) (szN (P 0)) (P 1))) (P 1)) := ⟨⟨a1, a2, a3, a4, st1_eq _ _ _, st1_eq _ _ _, a7, a8, a9⟩, fun q => absurd q hne, c, dd, ⟨f, f1, f2, f3, f4⟩, e6⟩
    have h142 := sp_142v (E := E) (d := d + 1) (h := h) (m := m) (sz := sz) (M := mPs3 M g (G 7 4)) (G := g_p2 G) (w := w) hg hP hw (by rw [← h11]; exact a1) a7 a4 v8 (fun q hq => ⟨dd q hq, (t1 q hq).1, hand_28 hP hgv hq⟩)
    have h144 := sp_144v (E := E) (d := d + 3) (h := h) (m := m) (sz := sz) (s := 1) hg hP gv' hA hc (Or.inl rfl)
    have s140 := sp_140b (E := E) (d := d + 1) (h := h) (m := m) (sz := sz) (w := w) (np := P 1) hg (by rw [← h11]; exact a1) w0 hw.2.2.1 (by omega) b2 (by omega) h142 h144
    refine ⟨_, sp_136p (E := E) (d := d) hk hj.1 hj.2 s140, gst_o hP gv' ?_ hne hA rfl rfl ?_⟩
    · exact sep_t (sep_t (sep_t (sep_6 (by omega)) (sep_6 (by omega))) (sep_6 (by omega))) (sep_6 (by omega))
    · rw [hov]; exact st1_eq _ _ _
  · have eG : g_skip (WH P) G (szN (P 0)) (P 1) = g_move (g_p1 G) (P 1) := if_neg hps
    rw [eG]
    have s140 := sp_140a (E := E) (d := d + 4) (h := h) (m := m) (sz := sz) (M := M) (w := w) (np := P 1) (ps := G 7 4) (tu := G 7 2) (ev := k) hg (by rw [← h11]; exact a1) w0 hw.2.2.1 (by omega) b2 (by omega) b1 (by omega)
    refine ⟨_, sp_136p (E := E) (d := d) hk hj.1 hj.2 s140, gst_l ?_ q2 ⟨⟨⟨a1, a2, a3, a4, a5, a6, a7, a8, a9⟩, fun _ => ⟨?_, ?_⟩, c, dd, ⟨f, f1, f2, f3, f4⟩, e6⟩, h31⟩ rfl rfl⟩
    · exact sep_t (sep_6 (by omega)) (sep_6 (by omega))
    · refine (st1_eq _ _ _).trans ?_
      rw [mod_np v2.1 v2.2]
      rfl
    · exact st1_eq _ _ _
/- an appeal -/
theorem gs_a {c : Int} (hg : g < 6) (hk : k < 400) (hj : M 6 k = 97 ∧ M 7 k = g ∧ M 8 k = c) (hP : hOK P) (hw : rH1 M w P) (h11 : G 7 11 = w) (hgv : gv P G) (hgp : gvP G) (hR : gR M g P G) (q5 : G 7 5 = 1) (qc : c = 108 ∨ c = 115 ∨ c = 110) (q8 : G 7 8 < 2) (hc : G 7 10 ≤ 30000) : ∃ M', Sp E (d + 7) 136 [.ref m, .int (z (k : Int))] (mh h m M) sz (rets none (mh h m M') sz) ∧ gst P (g_judge (WH P) G c (szN (P 0)) (P 1)) g M M' (-(G 7 10 - payS G)) (fun b => -(curB G b)) (M 26 g) := by
  obtain ⟨⟨⟨a1, a2, a3, a4, a5, a6, a7, a8, a9⟩, b, cc, dd, ⟨f, f1, f2, f3, f4⟩, e6⟩, h31⟩ := id hR
  obtain ⟨s, hB, t1, t2, t3, t4, t5, t6, t7⟩ := id hgv
  obtain ⟨v0, v1, v2, v3, v4, v5, v6, v7, v8, v9, v10⟩ := s
  have hp1 := hP.2.1
  have hov : G 7 6 ≠ -2 := fun q => by have := gv_live hP hgv q; omega
  obtain ⟨gv', n76⟩ := gv_judge hP hgv q5 qc q8
  have hpay : ∀ j, j < (G 7 9).toNat → G 6 j = payF G (G 7 6) (G 7 9).toNat j := fun j hj => by rw [hgp j hj, if_neg hov]
  have s1 := sp_144v (E := E) (d := d + 4) (h := h) (m := m) (sz := sz) (s := -1) hg hP hgv hR.1 hc (Or.inr rfl)
  obtain ⟨M1, eM1⟩ : ∃ M1, M1 = mPay M g (G 7 9).toNat G (G 7 6) (-1) := ⟨_, rfl⟩
  rw [← eM1] at s1
  have r1 : ∀ r, r ≠ 31 → r ≠ 32 → r ≠ 0 → M1 r = M r := fun r x1 x2 x3 => by rw [eM1]; unfold mPay; rw [sr_ne x3, sr_ne x2, sr_ne x1]
  have m38 : M1 0 38 = M 0 38 + -(G 7 10 - payS G) := by
    rw [eM1]
    show M 0 38 + (-1) * (G 7 10 - sumTo (payF G (G 7 6) (G 7 9).toNat) (G 7 9).toNat) = _
    unfold payS
    rw [sumTo_c (f := G 6) (g := payF G (G 7 6) (G 7 9).toNat) _ hpay]
    omega
  have m16 : M1 0 16 = M 0 16 := by rw [eM1]; rfl
  have m32 : ∀ b, M1 32 b = M 32 b + -(curB G b) := fun b => by
    rw [eM1]
    show mvP (M 32) (G 3) (payF G (G 7 6) (G 7 9).toNat) (-1) (G 7 9).toNat b = _
    rw [mvP_v, Int.neg_mul, Int.one_mul]
    unfold curB
    rw [sumTo_c (f := fun k => if (G 3 k).toNat = b then G 6 k else 0) (g := fun k => if (G 3 k).toNat = b then payF G (G 7 6) (G 7 9).toNat k else 0) _ (fun k hk => by rw [hpay k hk])]
  have hs1 : sepG M M1 g := by
    rw [eM1]
    exact sep_t (sep_t (sep_28 (by omega) (fun j hj => emb_out (by omega))) sep_32) (sep_0 (Or.inr rfl))
  have hA1 : gA M1 g P G := by
    refine ⟨⟨by rw [r1 12 (by decide) (by decide) (by decide), a1], by rw [r1 15 (by decide) (by decide) (by decide), a2], by rw [r1 21 (by decide) (by decide) (by decide), a3], by rw [r1 18 (by decide) (by decide) (by decide), a4], by rw [r1 22 (by decide) (by decide) (by decide), a5], by rw [r1 23 (by decide) (by decide) (by decide), a6], by rw [r1 24 (by decide) (by decide) (by decide), a7], by rw [r1 25 (by decide) (by decide) (by decide), a8], by rw [r1 27 (by decide) (by decide) (by decide), a9]⟩, fun q => absurd q hov, ?_, ?_, ⟨f, by rw [r1 20 (by decide) (by decide) (by decide), f1], f2, f3, ?_⟩, ?_⟩
    · rw [r1 13 (by decide) (by decide) (by decide)]; exact cc
    · rw [r1 14 (by decide) (by decide) (by decide)]; exact dd
    · rw [r1 19 (by decide) (by decide) (by decide)]; exact f4
    · rw [r1 28 (by decide) (by decide) (by decide), r1 29 (by decide) (by decide) (by decide), r1 30 (by decide) (by decide) (by decide)]; exact e6
  have hw1 : rH1 (mAp1 M1 g c (G 7 8)) w P := by
    have : ∀ r, 1 ≤ r → r ≤ 5 → mAp1 M1 g c (G 7 8) r = M r := fun r x1 x2 => by
      unfold mAp1
      rw [sr_ne (by omega), sr_ne (by omega), r1 r (by omega) (by omega) (by omega)]
    unfold rH1
    rw [this 1 (by decide) (by decide), this 2 (by decide) (by decide), this 3 (by decide) (by decide), this 4 (by decide) (by decide), this 5 (by decide) (by decide)]
    exact hw
  obtain ⟨⟨z1, z2, z3, z4, z5, z6, z7, z8, z9⟩, -, zc, zd, ⟨zf, zf1, zf2, zf3, zf4⟩, ze⟩ := id hA1
  have h142 := sp_142v (E := E) (d := d + 2) (h := h) (m := m) (sz := sz) (M := mAp1 M1 g c (G 7 8)) (G := g_j1 G c) (w := w) hg hP hw1 (by rw [← h11]; exact z1) (st1_eq _ _ _) z4 qc (fun q hq => ⟨zd q hq, (t1 q hq).1, hand_28 hP hgv hq⟩)
  have hA : gA (sr (mAp1 M1 g c (G 7 8)) 23 (st1 (mAp1 M1 g c (G 7 8) 23) g (ruleW (WH P) (g_j1 G c) (szN (P 0)) (P 1)))) g P (g_judge (WH P) G c (szN (P 0)) (P 1)) := ⟨⟨z1, z2, z3, z4, z5, st1_eq _ _ _, st1_eq _ _ _, st1_eq _ _ _, z9⟩, fun q => absurd q n76, zc, zd, ⟨zf, zf1, zf2, zf3, zf4⟩, ze⟩
  have h144 := sp_144v (E := E) (d := d + 4) (h := h) (m := m) (sz := sz) (s := 1) hg hP gv' hA hc (Or.inl rfl)
  have s136 := sp_136a (E := E) (d := d) (h := h) (m := m) (M := M) (sz := sz) (ap := G 7 8) (c := c) hk hj.1 hj.2.1 hg (by rw [r1 8 (by decide) (by decide) (by decide)]; exact hj.2.2) z8 s1 h142 h144
  obtain ⟨p1, p2, p3, p4, p5, p6⟩ := pay_R hP gv' n76 hA
  refine ⟨_, s136, sep_t (sep_t hs1 (sep_t (sep_t (sep_6 (by omega)) (sep_6 (by omega))) (sep_6 (by omega)))) p2, p1, by rw [p3]; exact m16, ?_, fun b hb => ?_, fun _ => ?_⟩
  · rw [p4, ← Int.add_assoc, ← m38]
    rfl
  · rw [p5 b hb, ← Int.add_assoc, ← m32]
    rfl
  · rw [p6]
    show M1 26 g = _
    rw [r1 26 (by decide) (by decide) (by decide)]
end DOES2
