/-! ===== the reference's questions about one game ===== -/
section RQ
variable {E : EX} {d : Nat} {h : AH} {sz m : Nat} {H : HT} {nh g w : Nat} {J : GS} {n fl : Nat} {cu : Nat → Nat} {nc : Nat} {rf uf ue : Int} {N : TT} {M M' : GS} {P : Nat → Nat} {G : GS}
theorem th_th {c c' : Int} : th (th M c) c' = th M c' := by
  unfold th
  rw [sr_eq, st1_st1]
  funext r
  unfold sr
  by_cases hr : r = 0
  · rw [if_pos hr, if_pos hr]
  · rw [if_neg hr, if_neg hr, if_neg hr]
/- the house and the game beside -/
theorem rC_g (hS : sC H nh J n fl cu nc rf uf ue) (hV : TV H nh N) (k : rC H nh J n fl cu nc rf uf ue N M) (hg : (g : Int) < N 6 1 1) : g < 6 ∧ hOK (H (hxi N g)) ∧ rH1 M (hxi N g) (H (hxi N g)) ∧ N g 7 11 = (hxi N g : Nat) ∧ gv (H (hxi N g)) (N g) ∧ gvP (N g) ∧ gR M g (H (hxi N g)) (N g) ∧ hxi N g < nh := by
  have h6 := hV.1
  have h4 := hS.1.1
  obtain ⟨b1, b2, b3⟩ := hV.2 g hg
  have hx : hxi N g < nh := by unfold hxi; omega
  exact ⟨by omega, hS.1.2 _ hx, ⟨by omega, k.2.2.1 _ hx⟩, by unfold hxi; omega, b2, b3, k.2.2.2.2.2.1.2.2.2 g hg, hx⟩
theorem r129 {gg : Int} (hV : TV H nh N) (k : rC H nh J n fl cu nc rf uf ue N M) (hr : -2147483648 ≤ gg ∧ gg ≤ 2147483647) : Sp E (d + 2) 129 [.ref m, .int (z gg)] (mh h m M) sz (rets (some (.int (z (if 0 ≤ gg ∧ gg < N 6 1 1 then 1 else 0)))) (mh h m M) sz) := sp_129 hr k.2.2.2.2.2.1.1 hV.1
theorem r145 (hn : n ≤ 400) (k : rC H nh J n fl cu nc rf uf ue N M) : Sp E (d + 1) 145 [.ref m] (mh h m M) sz (rets (some (.int (z (if n = 400 then 1 else 0)))) (mh h m M) sz) := by
  have s := sp_145 (E := E) (d := d) (h := h) (m := m) (sz := sz) (M := M) (n := (n : Int)) k.1.2.1 (by omega)
  by_cases h4 : n = 400
  · rw [if_pos (by omega)] at s
    rw [if_pos h4]; exact s
  · rw [if_neg (by omega)] at s
    rw [if_neg h4]; exact s
theorem r146 (hg : g < 6) (hP : hOK P) (hgv : gv P G) (hR : gR M g P G) : Sp E (d + 1) 146 [.ref m, .int (z (g : Int))] (mh h m M) sz (rets (some (.int (z (if G 7 6 = -2 then 0 else 1)))) (mh h m M) sz) := by
  have := hP.2.1
  have := hgv.1.2.2.2.2.2.2.2.1
  exact sp_146 hg hR.1.1.2.2.2.2.2.1 (by omega)
theorem r130 (hg : g < 6) (hP : hOK P) (hw : rH1 M w P) (h11 : G 7 11 = w) (hR : gR M g P G) : Sp E (d + 2) 130 [.ref m, .int (z (g : Int))] (mh h m M) sz (rets (some (.int (z ((szN (P 0) : Nat) : Int)))) (mh h m M) sz) := by
  have := hP.1
  exact sp_130 hg (by rw [hR.1.1.1, h11]) hw.1 hw.2.1 (by omega)
theorem r131 (hg : g < 6) (hw : rH1 M w P) (h11 : G 7 11 = w) (hR : gR M g P G) : Sp E (d + 1) 131 [.ref m, .int (z (g : Int))] (mh h m M) sz (rets (some (.int (z (P 1 : Int)))) (mh h m M) sz) := by
  have s := sp_131 (E := E) (d := d) (h := h) (m := m) (sz := sz) (M := M) (w := w) hg (by rw [hR.1.1.1, h11]) hw.1
  rw [hw.2.2.1] at s
  exact s
theorem r138 {b1 : Int} (hg : g < 6) (hP : hOK P) (hgv : gv P G) (hR : gR M g P G) (hb : b1 = 0 ∨ b1 = 1) (hl : G 7 1 ≠ 0) : (0 ≤ endV G (decide (b1 = 1)) ∧ endV G (decide (b1 = 1)) ≤ 6) ∧ ∀ d, Sp E (d + 1) 138 [.ref m, .int (z (g : Int)), .int (z b1)] (mh h m M) sz (rets (some (.int (z (endV G (decide (b1 = 1)))))) (mh h m M) sz) := by
  obtain ⟨⟨⟨a1, a2, a3, a4, a5, a6, a7, a8, a9⟩, b, c, dd, ⟨f, f1, f2, f3, f4⟩, e⟩, h31⟩ := hR
  obtain ⟨s, hB, t1, t2, t3, t4, t5, t6, t7⟩ := hgv
  obtain ⟨v0, v1, v2, v3, v4, v5, v6, v7, v8, v9, v10⟩ := s
  have hsz := szP_b hP
  have hp := hP.1
  have hch : ∀ j : Nat, (j : Int) ≤ G 7 1 → 0 ≤ G 2 j ∧ G 2 j ≤ 6 := fun j y => by have := t5 (by omega) j y; omega
  rcases hb with rfl | rfl
  · have c1 := hch ((G 7 1).toNat - 1) (by omega)
    have c2' := hch (G 7 1).toNat (by omega)
    have f5 := f4 ((G 7 1).toNat - 1) (by omega)
    rw [show (G 7 1).toNat - 1 + 1 = (G 7 1).toNat by omega, show f + ((G 7 1).toNat - 1) = f + (G 7 1).toNat - 1 by omega] at f5
    have ev : endV G (decide ((0 : Int) = 1)) = G 2 (G 7 1).toNat := by unfold endV; rw [if_neg (by decide)]
    rw [ev]
    exact ⟨c2', fun d => sp_138r (E := E) (d := d) (h := h) (sz := sz) (m := m) (M := M) (g := g) (f := f) (l := (G 7 1).toNat) hg f1 (by omega) (by omega) (by omega) f5 c1 c2'⟩
  · have c1 := hch 0 (by omega)
    have c2' := hch 1 (by omega)
    have f5 := f4 0 (by omega)
    rw [Nat.add_zero, Nat.zero_add] at f5
    have ev : endV G (decide ((1 : Int) = 1)) = G 2 0 := by unfold endV; rw [if_pos (by decide)]
    rw [ev]
    exact ⟨c1, fun d => sp_138l (E := E) (d := d) (h := h) (sz := sz) (m := m) (M := M) (g := g) (f := f) hg f1 (by omega) f5 c1 c2'⟩
theorem r148 {t : Nat} {b1 : Int} (hg : g < 6) (hP : hOK P) (hw : rH1 M w P) (h11 : G 7 11 = w) (hgv : gv P G) (hR : gR M g P G) (hb : b1 = 0 ∨ b1 = 1) (ht : t < szN (P 0)) : Sp E (d + 2) 148 [.ref m, .int (z (g : Int)), .int (z (t : Int)), .int (z b1)] (mh h m M) sz (rets (some (.int (z (@ite Int (fitQ (P 0) G t (decide (b1 = 1))) (Classical.propDecidable _) 1 0)))) (mh h m M) sz) := by
  have hp := hP.1
  have hsz := szP_b hP
  have v1 := hgv.1.2.1
  have s := sp_148 (E := E) (d := d) (h := h) (m := m) (sz := sz) (M := M) (w := w) (b1 := b1) (v := endV G (decide (b1 = 1))) hg (by rw [hR.1.1.1, h11]) hw.1 hw.2.1 (by omega) ht hR.1.1.2.2.1 (by omega) (fun q => by have := r138 (E := E) (h := h) (m := m) (sz := sz) hg hP hgv hR hb q; exact ⟨by omega, fun dd => this.2 dd⟩)
  by_cases hc : fitQ (P 0) G t (decide (b1 = 1))
  · rw [if_pos hc]
    have hc' : G 7 1 = 0 ∨ (lowN (P 0) t : Int) = endV G (decide (b1 = 1)) ∨ (highN (P 0) t : Int) = endV G (decide (b1 = 1)) := hc
    rw [if_pos hc'] at s
    exact s
  · rw [if_neg hc]
    have hc' : ¬ (G 7 1 = 0 ∨ (lowN (P 0) t : Int) = endV G (decide (b1 = 1)) ∨ (highN (P 0) t : Int) = endV G (decide (b1 = 1))) := hc
    rw [if_neg hc'] at s
    exact s
theorem r149 {t : Nat} (hg : g < 6) (hP : hOK P) (hgv : gv P G) (hR : gR M g P G) (hl : G 7 6 = -2) (ht : t < 28) : Sp E (d + 1) 149 [.ref m, .int (z (g : Int)), .int (z (t : Int))] (mh h m M) sz (rets (some (.int (z (if (G 1 (G 7 2).toNat).toNat.testBit t = true then 1 else 0)))) (mh h m M) sz) := by
  have hp1 := hP.2.1
  have v2 := hgv.1.2.2.1
  have h1 := (hgv.2.2.1 (G 7 2).toNat (by omega)).1
  have h2 := hand_28 hP hgv (q := (G 7 2).toNat) (by omega)
  have h3 := hR.1.2.2.2.1 (G 7 2).toNat (by omega)
  have h4 := (hR.1.2.1 hl).1
  exact sp_149 (w := (G 7 2).toNat) (a := (G 1 (G 7 2).toNat).toNat) hg (by omega) (by omega) (by omega) h2 ht
theorem r152 (hg : g < 6) (hP : hOK P) (hw : rH1 M w P) (h11 : G 7 11 = w) (hgv : gv P G) (hR : gR M g P G) : Sp E (d + 3) 152 [.ref m, .int (z (g : Int))] (mh h m M) sz (rets (some (.int (z (if (P 3 : Int) = 1 ∧ G 7 0 < (szN (P 0) : Int) then 1 else 0)))) (mh h m M) sz) := by
  have hp := hP.1
  have hsz := szP_b hP
  have v0 := hgv.1.1
  have := hP.2.2.2.2.1
  exact sp_152 hg (by rw [hR.1.1.1, h11]) hw.1 hw.2.1 (by omega) hR.1.1.2.1 (by omega) hw.2.2.2.2.1 (by omega)
theorem anyT_t {f : Nat → Bool} : ∀ n, anyT f n = true ↔ ∃ t, t < n ∧ f t = true := by
  intro n
  induction n with
  | zero => exact ⟨fun q => (by cases q), fun ⟨t, h, _⟩ => absurd h (by omega)⟩
  | succ n ih =>
    show (anyT f n || f n) = true ↔ _
    rw [Bool.or_eq_true, ih]
    constructor
    · rintro (⟨t, h1, h2⟩ | h)
      · exact ⟨t, by omega, h2⟩
      · exact ⟨n, by omega, h⟩
    · rintro ⟨t, h1, h2⟩
      by_cases h : t = n
      · exact Or.inr (h ▸ h2)
      · exact Or.inl ⟨t, by omega, h2⟩
theorem r150 (hg : g < 6) (hP : hOK P) (hw : rH1 M w P) (h11 : G 7 11 = w) (hgv : gv P G) (hR : gR M g P G) (hl : G 7 6 = -2) : Sp E (d + 3) 150 [.ref m, .int (z (g : Int))] (mh h m M) sz (rets (some (.int (z (@ite Int (canL P G) (Classical.propDecidable _) 1 0)))) (mh h m M) sz) := by
  have hp := hP.1
  have hsz := szP_b hP
  have hbi : ∀ (p : Prop) (b : Bool), (b = true ↔ p) → @ite Int p (Classical.propDecidable _) 1 0 = bi b := fun p b hb => by
    cases b with
    | true => rw [if_pos (hb.mp rfl)]; rfl
    | false => rw [if_neg (fun q => Bool.noConfusion (hb.mpr q))]; rfl
  obtain ⟨fl, hfl⟩ : ∃ f : Nat → Bool, ∀ t, f t = true ↔ fitQ (P 0) G t true := ⟨fun t => @decide _ (Classical.propDecidable (fitQ (P 0) G t true)), fun t => @decide_eq_true_iff _ (Classical.propDecidable _)⟩
  obtain ⟨fr, hfr⟩ : ∃ f : Nat → Bool, ∀ t, f t = true ↔ fitQ (P 0) G t false := ⟨fun t => @decide _ (Classical.propDecidable (fitQ (P 0) G t false)), fun t => @decide_eq_true_iff _ (Classical.propDecidable _)⟩
  have s := sp_150 (E := E) (d := d) (h := h) (m := m) (sz := sz) (M := M) (w := w) (hb := fun t => (G 1 (G 7 2).toNat).toNat.testBit t) (fl := fl) (fr := fr) hg (by rw [hR.1.1.1, h11]) hw.1 hw.2.1 (by omega) (fun t ht dd => r149 hg hP hgv hR hl (by omega)) (fun t ht dd => by
    have := r148 (E := E) (d := dd) (h := h) (m := m) (sz := sz) (t := t) (b1 := 1) hg hP hw h11 hgv hR (Or.inr rfl) ht
    rw [show decide ((1 : Int) = 1) = true from rfl, hbi _ _ (hfl t)] at this
    exact this) (fun t ht dd => by
    have := r148 (E := E) (d := dd) (h := h) (m := m) (sz := sz) (t := t) (b1 := 0) hg hP hw h11 hgv hR (Or.inl rfl) ht
    rw [show decide ((0 : Int) = 1) = false from rfl, hbi _ _ (hfr t)] at this
    exact this)
  have key : anyT (fun t => (G 1 (G 7 2).toNat).toNat.testBit t && (fl t || fr t)) (szN (P 0)) = true ↔ canL P G := by
    rw [anyT_t]
    constructor
    · rintro ⟨t, h1, h2⟩
      rw [Bool.and_eq_true, Bool.or_eq_true, hfl, hfr] at h2
      exact Or.inr ⟨t, h1, h2⟩
    · rintro (q | ⟨t, h1, h2, h3⟩)
      · have v2 := hgv.1.2.2.1
        have h1 := (hgv.2.2.1 (G 7 2).toNat (by omega))
        have hne : (G 1 (G 7 2).toNat).toNat ≠ 0 := by have := h1.2.2 hl; omega
        obtain ⟨t, ht⟩ := Nat.exists_testBit_of_ne_zero hne
        have htn : t < szN (P 0) := by
          rcases Nat.lt_or_ge t (szN (P 0)) with hh | hh
          · exact hh
          · rw [Nat.testBit_lt_two_pow (Nat.lt_of_lt_of_le h1.2.1 (Nat.pow_le_pow_right (by decide) hh))] at ht
            cases ht
        refine ⟨t, htn, ?_⟩
        rw [Bool.and_eq_true, Bool.or_eq_true, hfl]
        exact ⟨ht, Or.inl (Or.inl q)⟩
      · refine ⟨t, h1, ?_⟩
        rw [Bool.and_eq_true, Bool.or_eq_true, hfl, hfr]
        exact ⟨h2, h3⟩
  by_cases hc : canL P G
  · rw [if_pos hc]
    rw [key.mpr hc] at s
    exact s
  · rw [if_neg hc]
    rw [Bool.eq_false_iff.mpr (fun q => hc (key.mp q))] at s
    exact s
theorem r143 (hg : g < 6) (hgv : gv P G) (hR : gR M g P G) : Sp E (d + 1) 143 [.ref m, .int (z (g : Int))] (mh h m M) sz (rets (some (.int (z (G 7 10)))) (mh h m M) sz) := by
  have v10 := hgv.1.2.2.2.2.2.2.2.2.2.2
  have s := sp_143 (E := E) (d := d) (h := h) (m := m) (sz := sz) (M := M) (n := (G 7 9).toNat) hg (by rw [hR.1.1.2.2.2.2.2.2.2.2]; omega) (by omega)
  rw [hgv.2.1.1, ← sumTo_c _ (fun k hk => (hR.1.2.2.2.2.2 k hk).2.2)]
  exact s
end RQ
