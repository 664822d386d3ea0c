/-! ===== any entry, in the reference ===== -/
section DOES4
variable {E : EX} {d : Nat} {h : AH} {sz m : Nat} {H : HT} {nh g k w : Nat} {M M' ML : GS} {P : Nat → Nat} {G : GS} {T : TT} {e : Nat → Int}
theorem gs_t {t : Nat} {b1 : Int} (hg : g < 6) (hk : k < 400) (hj : M 6 k = 116 ∧ M 7 k = g ∧ M 8 k = t ∧ M 9 k = b1) (hbb : b1 = 0 ∨ b1 = 1) (hP : hOK P) (hw : rH1 M w P) (h11 : G 7 11 = w) (hgv : gv P G) (hgp : gvP G) (hR : gR M g P G) (q2 : G 7 6 = -2) (hc : G 7 10 ≤ 30000) (ht : t < szN (P 0)) (hb : (G 1 (G 7 2).toNat).toNat.testBit t = true) (hf : fitQ (P 0) G t (decide (b1 = 1))) : ∃ M', Sp E (d + 7) 136 [.ref m, .int (z (k : Int))] (mh h m M) sz (rets none (mh h m M') sz) ∧ gst P (g_move (g_lay (WH P) G t (G 7 1).toNat (G 7 2).toNat (G 1 (G 7 2).toNat).toNat (decide (b1 = 1))) (P 1)) g M M' 0 (fun _ => 0) k := by
  obtain ⟨⟨⟨a1, a2, a3, a4, a5, a6, a7, a8, a9⟩, b, cc, dd, ⟨f, f1, f2, f3, f4⟩, e6⟩, h31⟩ := id hR
  obtain ⟨s, hB, t1, t2, t3, t4, t5, t6, t7⟩ := id hgv
  obtain ⟨v0, v1, v2, v3, v4, v5, v6, v7, v8, v9, v10⟩ := s
  have hsz := szP_b hP
  have hp := hP.1
  have hp1 := hP.2.1
  obtain ⟨w0, w1, w2, -⟩ := id hw
  have hm0 := (t1 (G 7 2).toNat (by omega)).1
  have h1 : G 7 1 = ((G 7 1).toNat : Nat) := by omega
  have h2 : G 7 2 = ((G 7 2).toNat : Nat) := by omega
  have hm : G 1 (G 7 2).toNat = ((G 1 (G 7 2).toNat).toNat : Nat) := by omega
  have lo := WH_lo P ht
  have hi := WH_hi P ht
  have hn := (gv_lay hP hgv hgp q2 h1 h2 hm ht hb hf).1
  have l12 : M 12 g = w := by rw [a1, h11]
  have hch : ∀ j : Nat, 0 < G 7 1 → (j : Int) ≤ G 7 1 → 0 ≤ G 2 j ∧ G 2 j ≤ 6 := fun j x y => by have := t5 x j y; omega
  generalize hnn : (G 7 1).toNat = n at *
  by_cases hn0 : n = 0
  · have hz : G 7 1 = 0 := by omega
    have hf30 : f = 30 := by omega
    subst hf30
    have hl : ∀ i : Nat, i < n + 1 → mLn1 M g 30 (lowN (P 0) t) (highN (P 0) t) 19 (60 * g + (30 + i)) = 10 * g_add G n (WH P 0 t) (WH P 1 t) (decide (b1 = 1)) 2 i + g_add G n (WH P 0 t) (WH P 1 t) (decide (b1 = 1)) 2 (i + 1) := fun i hi' => by
      have i0 : i = 0 := by omega
      subst i0
      rw [hn0]
      show st1 (M 19) (60 * g + 30) (10 * (lowN (P 0) t : Int) + (highN (P 0) t : Int)) (60 * g + (30 + 0)) = 10 * WH P 0 t + WH P 1 t
      rw [Nat.add_zero, st1_eq, lo, hi]
    obtain ⟨M', r, q⟩ := gs_tt (E := E) (d := d) (h := h) (sz := sz) (m := m) (k := k) (ML := mLn1 M g 30 (lowN (P 0) t) (highN (P 0) t)) (l5 := (lowN (P 0) t : Int)) (l6 := (highN (P 0) t : Int)) (b1 := b1) (o7 := none) hg hP hw h11 hgv hgp hR q2 hc h1 h2 hm ht hb hf (fun r x1 x2 => sr_ne x1) (sep_19 (fun j hj => if_neg (by omega))) ⟨30, f1, Nat.le_refl _, Nat.le_add_right _ _, hl⟩ (Or.inl rfl)
    · exact ⟨M', sp_136t (E := E) (d := d) hk hj.1 hj.2.1 hj.2.2.1 hj.2.2.2 hbb (sp_139f (E := E) (d := d + 1) hg l12 w0 w1 (by omega) ht (by rw [a3, hz]) f1 (by decide) hbb r), q⟩
  · have hen : (lowN (P 0) t : Int) = endV G (decide (b1 = 1)) ∨ (highN (P 0) t : Int) = endV G (decide (b1 = 1)) := by
      rcases hf with q | q
      · omega
      · exact q
    rcases hbb with hb0 | hb1
    · subst hb0
      have ev : endV G (decide ((0 : Int) = 1)) = G 2 n := by unfold endV; rw [if_neg (by decide), hnn]
      rw [ev] at hen
      have c1 := hch (n - 1) (by omega) (by omega)
      have c2' := hch n (by omega) (by omega)
      have f5 := f4 (n - 1) (by omega)
      rw [show n - 1 + 1 = n by omega, show f + (n - 1) = f + n - 1 by omega] at f5
      have s138 := sp_138r (E := E) (d := d + 4) (h := h) (sz := sz) (m := m) (M := M) (g := g) (f := f) (l := n) hg f1 (by rw [a3, h1]) (by omega) (by omega) f5 c1 c2'
      have hl : ∀ i : Nat, i < n + 1 → mLn3 M g f n (if (lowN (P 0) t : Int) = G 2 n then 10 * (lowN (P 0) t : Int) + (highN (P 0) t : Int) else 10 * (highN (P 0) t : Int) + (lowN (P 0) t : Int)) 19 (60 * g + (f + i)) = 10 * g_add G n (WH P 0 t) (WH P 1 t) (decide ((0 : Int) = 1)) 2 i + g_add G n (WH P 0 t) (WH P 1 t) (decide ((0 : Int) = 1)) 2 (i + 1) := fun i hi' => by
        have eg : g_add G n (WH P 0 t) (WH P 1 t) (decide ((0 : Int) = 1)) 2 = st1 (G 2) (n + 1) ((lowN (P 0) t : Int) + (highN (P 0) t : Int) - G 2 n) := by
          unfold g_add
          rw [sr_ne (by decide), sr_eq, if_neg hn0, if_neg (by decide), lo, hi]
        rw [eg]
        have hvv : (if (lowN (P 0) t : Int) = G 2 n then 10 * (lowN (P 0) t : Int) + (highN (P 0) t : Int) else 10 * (highN (P 0) t : Int) + (lowN (P 0) t : Int)) = 10 * G 2 n + ((lowN (P 0) t : Int) + (highN (P 0) t : Int) - G 2 n) := by split <;> omega
        show st1 (M 19) (60 * g + (f + n)) (if (lowN (P 0) t : Int) = G 2 n then 10 * (lowN (P 0) t : Int) + (highN (P 0) t : Int) else 10 * (highN (P 0) t : Int) + (lowN (P 0) t : Int)) (60 * g + (f + i)) = _
        rw [hvv]
        unfold st1
        by_cases hin : i = n
        · rw [if_pos (by omega), hin, if_neg (by omega), if_pos rfl]
        · rw [if_neg (by omega), if_neg (by omega), if_neg (by omega)]
          exact f4 i (by omega)
      obtain ⟨M', r, q⟩ := gs_tt (E := E) (d := d) (h := h) (sz := sz) (m := m) (k := k) (ML := mLn3 M g f n (if (lowN (P 0) t : Int) = G 2 n then 10 * (lowN (P 0) t : Int) + (highN (P 0) t : Int) else 10 * (highN (P 0) t : Int) + (lowN (P 0) t : Int))) (l5 := (lowN (P 0) t : Int)) (l6 := (highN (P 0) t : Int)) (b1 := 0) (o7 := some (.int (z (G 2 n)))) hg hP hw h11 hgv hgp hR q2 hc h1 h2 hm ht hb hf (fun r x1 x2 => sr_ne x1) (sep_19 (fun j hj => if_neg (by omega))) ⟨f, f1, f2, by omega, hl⟩ (Or.inr ⟨_, rfl⟩)
      · exact ⟨M', sp_136t (E := E) (d := d) hk hj.1 hj.2.1 hj.2.2.1 hj.2.2.2 (Or.inl rfl) (sp_139r (E := E) (d := d + 1) (en := G 2 n) (la := n) hg l12 w0 w1 (by omega) ht (by rw [a3, h1]) (by omega) f1 (by omega) (by omega) s138 r), q⟩
    · subst hb1
      have ev : endV G (decide ((1 : Int) = 1)) = G 2 0 := by unfold endV; rw [if_pos (by decide)]
      rw [ev] at hen
      have c1 := hch 0 (by omega) (by omega)
      have c2' := hch 1 (by omega) (by omega)
      have f5 := f4 0 (by omega)
      rw [Nat.add_zero, Nat.zero_add] at f5
      have s138 := sp_138l (E := E) (d := d + 4) (h := h) (sz := sz) (m := m) (M := M) (g := g) (f := f) hg f1 (by omega) f5 c1 c2'
      have hl : ∀ i : Nat, i < n + 1 → mLn2 M g f (if (highN (P 0) t : Int) = G 2 0 then 10 * (lowN (P 0) t : Int) + (highN (P 0) t : Int) else 10 * (highN (P 0) t : Int) + (lowN (P 0) t : Int)) 19 (60 * g + (f - 1 + i)) = 10 * g_add G n (WH P 0 t) (WH P 1 t) (decide ((1 : Int) = 1)) 2 i + g_add G n (WH P 0 t) (WH P 1 t) (decide ((1 : Int) = 1)) 2 (i + 1) := fun i hi' => by
        have eg : g_add G n (WH P 0 t) (WH P 1 t) (decide ((1 : Int) = 1)) 2 = st1 (fun j => if 1 ≤ j ∧ j < 1 + (n + 1) then G 2 (j - 1) else G 2 j) 0 ((lowN (P 0) t : Int) + (highN (P 0) t : Int) - G 2 0) := by
          unfold g_add
          rw [sr_ne (by decide), sr_eq, if_neg hn0, if_pos (by decide), lo, hi]
        rw [eg]
        have hvv : (if (highN (P 0) t : Int) = G 2 0 then 10 * (lowN (P 0) t : Int) + (highN (P 0) t : Int) else 10 * (highN (P 0) t : Int) + (lowN (P 0) t : Int)) = 10 * ((lowN (P 0) t : Int) + (highN (P 0) t : Int) - G 2 0) + G 2 0 := by split <;> omega
        show st1 (M 19) (60 * g + (f - 1)) (if (highN (P 0) t : Int) = G 2 0 then 10 * (lowN (P 0) t : Int) + (highN (P 0) t : Int) else 10 * (highN (P 0) t : Int) + (lowN (P 0) t : Int)) (60 * g + (f - 1 + i)) = _
        rw [hvv]
        unfold st1
        try dsimp only
        by_cases hin : i = 0
        · rw [if_pos (by omega), hin, if_pos rfl, if_neg (by omega), if_pos (by omega)]
        · rw [if_neg (by omega), if_neg hin, if_pos (by omega), if_neg (by omega), if_pos (by omega)]
          have f6 := f4 (i - 1) (by omega)
          rw [show i + 1 - 1 = i - 1 + 1 by omega, show f - 1 + i = f + (i - 1) by omega]
          exact f6
      obtain ⟨M', r, q⟩ := gs_tt (E := E) (d := d) (h := h) (sz := sz) (m := m) (k := k) (ML := mLn2 M g f (if (highN (P 0) t : Int) = G 2 0 then 10 * (lowN (P 0) t : Int) + (highN (P 0) t : Int) else 10 * (highN (P 0) t : Int) + (lowN (P 0) t : Int))) (l5 := (lowN (P 0) t : Int)) (l6 := (highN (P 0) t : Int)) (b1 := 1) (o7 := some (.int (z (G 2 0)))) hg hP hw h11 hgv hgp hR q2 hc h1 h2 hm ht hb hf (fun r x1 x2 => by unfold mLn2; rw [sr_ne x1, sr_ne x2]) (sep_t (sep_6 (by omega)) (sep_19 (fun j hj => if_neg (by omega)))) ⟨f - 1, by show st1 (M 20) g ((f : Int) - 1) g = _; rw [st1_eq]; omega, by omega, by omega, hl⟩ (Or.inr ⟨_, rfl⟩)
      · exact ⟨M', sp_136t (E := E) (d := d) hk hj.1 hj.2.1 hj.2.2.1 hj.2.2.2 (Or.inr rfl) (sp_139l (E := E) (d := d + 1) (en := G 2 0) hg l12 w0 w1 (by omega) ht a3 (by omega) f1 (by omega) (by omega) s138 r), q⟩
/- what holds of the game of an entry -/
theorem ent_f (hH : hsOK H nh) (hT : TV H nh T) (h2 : 0 ≤ e 1 ∧ e 1 < T 6 1 1) (h3 : vG (H (hxi T (e 1).toNat)) (T (e 1).toNat) e) : (e 1).toNat < 6 ∧ e 1 = ((e 1).toNat : Nat) ∧ hxi T (e 1).toNat < nh ∧ hOK (H (hxi T (e 1).toNat)) ∧ gv (H (hxi T (e 1).toNat)) (T (e 1).toNat) ∧ gvP (T (e 1).toNat) ∧ gNew H T e = gDo (H (hxi T (e 1).toNat)) (T (e 1).toNat) e ∧ (gNew H T e 7 11).toNat = hxi T (e 1).toNat ∧ e 0 ≠ 103 ∧ T (e 1).toNat 7 11 = (hxi T (e 1).toNat : Nat) := by
  have h6 := hT.1
  obtain ⟨b1, b2, b3⟩ := hT.2 (e 1).toNat (by omega)
  have hn := vG_n _ _ h3
  have e1 : gNew H T e = gDo (H (hxi T (e 1).toNat)) (T (e 1).toNat) e := if_neg hn
  exact ⟨by omega, by omega, by unfold hxi; omega, hH.2 _ (by unfold hxi; omega), b2, b3, e1, by rw [e1, gDo_h]; rfl, hn, by unfold hxi; omega⟩
/- any entry -/
theorem does_v (hH : hsOK H nh) (hT : TV H nh T) (hM : TM H T) (hv : vE H nh T e) (hr : rHs H nh M) (hR : rTs H T M) (hk : k < 400) (hj : M 6 k = e 0 ∧ M 7 k = e 1 ∧ M 8 k = e 2 ∧ M 9 k = e 3 ∧ M 10 k = e 4) : ∃ M', Sp E (d + 7) 136 [.ref m, .int (z (k : Int))] (mh h m M) sz (rets none (mh h m M') sz) ∧ stpR H T e k M M' := by
  obtain ⟨j6, j7, j8, j9, j10⟩ := hj
  have h6 := hT.1
  have h4 := hH.1
  have rh : ∀ i, i < nh → rH1 M i (H i) := fun i hi => ⟨by omega, hr i hi⟩
  rcases hv with ⟨h0, h1, h2, h3, h5⟩ | ⟨h2, h3, h5⟩
  · have e1 : e 1 = ((e 1).toNat : Nat) := by omega
    have e2 : e 2 = ((e 2).toNat : Nat) := by omega
    have hw : (e 2).toNat < nh := by omega
    obtain ⟨M', s, q1, q2, q3, q4, q5⟩ := gs_g (E := E) (d := d) (h := h) (sz := sz) (m := m) (g := (e 1).toNat) (k := k) (w := (e 2).toNat) (M := M) (G := T (T 6 1 1).toNat) (s := e 3) (by omega) hk ⟨by rw [j6, h0], by omega, by omega, j9⟩ (hH.2 _ hw) (rh _ hw) h5
    have en : gNew H T e = wiH (gBeg (H (e 2).toNat) (T (T 6 1 1).toNat) (e 3)) ((e 2).toNat : Int) := by
      rw [← e2]
      exact if_pos h0
    have e11 : (gNew H T e 7 11).toNat = (e 2).toNat := by rw [en]; rfl
    have lv : gNew H T e 7 6 = -2 := by rw [en]; rfl
    obtain ⟨g1, g2, g3⟩ := fin_live lv
    refine ⟨M', s, q1, ?_, ?_, ?_, fun b hb => ?_, fun q => absurd lv q⟩
    · rw [e11, g1, en]; exact q2
    · rw [if_pos h0, q3]; omega
    · rw [q4, g2]
      unfold cluN
      rw [if_neg (by omega)]
      exact (Int.add_zero _).symm
    · rw [q5, g3 b]
      unfold purN
      rw [if_neg (by omega), if_neg (by omega)]
      exact (Int.add_zero _).symm
  · obtain ⟨i6, e1, x1, hP, hgv, hgp, en1, en2, n103, e11⟩ := ent_f hH hT h2 h3
    have hRg := hR.2.2.2 (e 1).toNat (by omega)
    have hcg := (TM_f hH hT hM).1 (e 1).toNat (by omega)
    have hw := rh _ x1
    have fin : ∀ {M' : GS} {c : Int} {p : Nat → Int} {ov : Int}, c = cluN T e → (∀ b, b < 4 → p b = purN T e b) → (gNew H T e 7 6 ≠ -2 → ov = if e 0 = 97 then M 26 (e 1).toNat else k) → gst (H (hxi T (e 1).toNat)) (gNew H T e) (e 1).toNat M M' c p ov → stpR H T e k M M' := by
      intro M' c p ov w1 w2 w3 ⟨y1, y2, y3, y4, y5, y6⟩
      refine ⟨y1, by rw [en2]; exact y2, by rw [if_neg n103, y3]; exact hR.1, by rw [y4, w1], fun b hb => by rw [y5 b hb, w2 b hb], fun q => by rw [y6 q, w3 q]⟩
    have c0 : e 0 ≠ 97 → (0 : Int) = cluN T e := fun q => (if_neg q).symm
    have p0 : e 0 ≠ 98 → e 0 ≠ 97 → ∀ b, b < 4 → (0 : Int) = purN T e b := fun x y b _ => by unfold purN; rw [if_neg x, if_neg y]
    rcases h3 with ⟨q0, qw, qt, qb, qs, qf⟩ | ⟨q0, qw, q3, q4⟩ | ⟨q0, qw⟩ | ⟨q0, qw, qb, qp, qc, qn⟩ | ⟨q0, q5, qc, q8⟩
    · obtain ⟨M', s, q⟩ := gs_t (E := E) (d := d) (h := h) (sz := sz) (m := m) (g := (e 1).toNat) (k := k) (w := hxi T (e 1).toNat) (M := M) (t := (e 2).toNat) (b1 := e 3) i6 hk ⟨by rw [j6, q0], by omega, by omega, j9⟩ qs hP hw e11 hgv hgp hRg qw (by omega) (by omega) qb qf
      refine ⟨M', s, fin (c0 (by omega)) (p0 (by omega) (by omega)) (fun _ => by rw [if_neg (by omega)]) ?_⟩
      rw [en1]
      unfold gDo
      rw [if_pos q0]
      exact q
    · obtain ⟨M', s, q⟩ := gs_d (E := E) (d := d) (h := h) (sz := sz) (m := m) (g := (e 1).toNat) (k := k) (M := M) (ov := k) i6 hk ⟨by rw [j6, q0], by omega⟩ hP hgv hRg qw q4
      refine ⟨M', s, fin (c0 (by omega)) (p0 (by omega) (by omega)) (fun _ => by rw [if_neg (by omega)]) ?_⟩
      rw [en1]
      unfold gDo
      rw [if_neg (by omega), if_pos q0]
      exact q
    · obtain ⟨M', s, q⟩ := gs_p (E := E) (d := d) (h := h) (sz := sz) (m := m) (g := (e 1).toNat) (k := k) (w := hxi T (e 1).toNat) (M := M) (ov := k) i6 hk ⟨by rw [j6, q0], by omega⟩ hP hw e11 hgv hgp hRg qw (by omega) rfl
      refine ⟨M', s, fin (c0 (by omega)) (p0 (by omega) (by omega)) (fun _ => by rw [if_neg (by omega)]) ?_⟩
      rw [en1]
      unfold gDo
      rw [if_neg (by omega), if_neg (by omega), if_pos q0]
      exact q
    · have e2 : e 2 = ((e 2).toNat : Nat) := by omega
      obtain ⟨M', s, q⟩ := gs_b (E := E) (d := d) (h := h) (sz := sz) (m := m) (P := H (hxi T (e 1).toNat)) (g := (e 1).toNat) (k := k) (M := M) (b := (e 2).toNat) (p := e 3) (c := e 4) (ov := k) i6 hk ⟨by rw [j6, q0], by omega, by omega, j9, j10⟩ (by omega) hgv hRg qw qn
      refine ⟨M', s, fin (c0 (by omega)) (fun b hb => by unfold purN; rw [if_pos q0]) (fun _ => by rw [if_neg (by omega)]) ?_⟩
      rw [en1]
      unfold gDo
      rw [if_neg (by omega), if_neg (by omega), if_neg (by omega), if_pos q0]
      rw [← e2] at q
      exact q
    · obtain ⟨M', s, q⟩ := gs_a (E := E) (d := d) (h := h) (sz := sz) (m := m) (g := (e 1).toNat) (k := k) (w := hxi T (e 1).toNat) (M := M) (c := e 2) i6 hk ⟨by rw [j6, q0], by omega, j8⟩ hP hw e11 hgv hgp hRg q5 qc q8 (by omega)
      refine ⟨M', s, fin (by unfold cluN; rw [if_pos q0]) (fun b hb => by unfold purN; rw [if_neg (by omega), if_pos q0]) (fun _ => by rw [if_pos q0]) ?_⟩
      rw [en1]
      unfold gDo
      rw [if_neg (by omega), if_neg (by omega), if_neg (by omega), if_neg (by omega)]
      exact q
end DOES4
