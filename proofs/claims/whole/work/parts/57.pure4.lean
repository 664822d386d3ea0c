/-! ===== pure: games that are alike as far as they count ===== -/
def gEq (P : Nat → Nat) (G K : GS) : Prop := g_like G K (szN (P 0)) (P 1) ∧ K 7 11 = G 7 11
section GQ
variable {P : Nat → Nat} {G K : GS}
theorem sumTo_lk {f g : Nat → Int} {c : Int} {n : Nat} (hn : n = c.toNat) (h : ∀ k : Nat, (k : Int) < c → f k = g k) : sumTo f n = sumTo g n := sumTo_c n (fun k hk => h k (by omega))
theorem onW_lk {w : Int} {n : Nat} (h4 : ∀ k, k < n → K 4 k = G 4 k) (h5 : ∀ k, k < n → K 5 k = G 5 k) : onW K w n = onW G w n := sumTo_c n (fun k hk => by rw [h4 k hk, h5 k hk])
theorem payF_lk {w : Int} {n k : Nat} (h4 : ∀ k, k < n → K 4 k = G 4 k) (h5 : ∀ k, k < n → K 5 k = G 5 k) (h10 : K 7 10 = G 7 10) (hk : k < n) : payF K w n k = payF G w n k := by
  unfold payF
  rw [onW_lk h4 h5, h4 k hk, h5 k hk, h10]
theorem gEq_r (P : Nat → Nat) (G : GS) : gEq P G G := ⟨⟨fun _ _ => rfl, ⟨fun _ _ _ => rfl, fun _ _ => rfl, fun _ _ _ => rfl⟩, rfl, rfl, fun _ _ => ⟨rfl, rfl, rfl, rfl⟩⟩, rfl⟩
theorem gEq_s (h : gEq P G K) : gEq P K G := by
  obtain ⟨⟨h7, ⟨h0, h1, h2⟩, h9, h10, hb⟩, h11⟩ := h
  refine ⟨⟨fun k hk => (h7 k hk).symm, ⟨fun k hk hk2 => (h0 k ?_ hk2).symm, fun k hk => (h1 k hk).symm, fun q k hk => (h2 ?_ k ?_).symm⟩, h9.symm, h10.symm, fun k hk => ?_⟩, h11.symm⟩
  · rw [← h7 0 (by decide)]; exact hk
  · rw [← h7 1 (by decide)]; exact q
  · rw [← h7 1 (by decide)]; exact hk
  · obtain ⟨a, b, c, d⟩ := hb k (by rw [← h9]; exact hk)
    exact ⟨a.symm, b.symm, c.symm, d.symm⟩
theorem gEq_t {L : GS} (h : gEq P G K) (h' : gEq P K L) : gEq P G L := by
  obtain ⟨⟨h7, ⟨h0, h1, h2⟩, h9, h10, hb⟩, h11⟩ := h
  obtain ⟨⟨k7, ⟨k0, k1, k2⟩, k9, k10, kb⟩, k11⟩ := h'
  refine ⟨⟨fun k hk => (k7 k hk).trans (h7 k hk), ⟨fun k hk hk2 => (k0 k ?_ hk2).trans (h0 k hk hk2), fun k hk => (k1 k hk).trans (h1 k hk), fun q k hk => (k2 ?_ k ?_).trans (h2 q k hk)⟩, k9.trans h9, k10.trans h10, fun k hk => ?_⟩, k11.trans h11⟩
  · rw [h7 0 (by decide)]; exact hk
  · rw [h7 1 (by decide)]; exact q
  · rw [h7 1 (by decide)]; exact hk
  · obtain ⟨a, b, c, d⟩ := hb k hk
    obtain ⟨a', b', c', d'⟩ := kb k (by rw [h9]; exact hk)
    exact ⟨a'.trans a, b'.trans b, c'.trans c, d'.trans d⟩
theorem gv_eq (hP : hOK P) (h : gv P G) (hp : gvP G) (q : gEq P G K) : gv P K ∧ gvP K := by
  obtain ⟨⟨s1, s2, s3, s4, s5, s6, s7, s8, s9, s10, s11⟩, ⟨b1, b2⟩, t1, t2, t3, t4, t5, t6, t7⟩ := h
  obtain ⟨⟨h7, ⟨h0, h1, h2⟩, h9, h10, hb⟩, h11⟩ := q
  have e0 := h7 0 (by decide)
  have e1 := h7 1 (by decide)
  have e2 := h7 2 (by decide)
  have e3 := h7 3 (by decide)
  have e4 := h7 4 (by decide)
  have e5 := h7 5 (by decide)
  have e6 := h7 6 (by decide)
  have e7 := h7 7 (by decide)
  have e8 := h7 8 (by decide)
  have l3 : ∀ k, k < (G 7 9).toNat → K 3 k = G 3 k := fun k hk => (hb k (by omega)).1
  have l4 : ∀ k, k < (G 7 9).toNat → K 4 k = G 4 k := fun k hk => (hb k (by omega)).2.1
  have l5 : ∀ k, k < (G 7 9).toNat → K 5 k = G 5 k := fun k hk => (hb k (by omega)).2.2.1
  have l6 : ∀ k, k < (G 7 9).toNat → K 6 k = G 6 k := fun k hk => (hb k (by omega)).2.2.2
  have l0 : ∀ k, (G 7 0).toNat ≤ k → k < szN (P 0) → K 0 k = G 0 k := fun k hk hk2 => h0 k (by omega) hk2
  refine ⟨⟨⟨?_, ?_, ?_, ?_, ?_, ?_, ?_, ?_, ?_, ?_, ?_⟩, ⟨?_, ?_⟩, ?_, ?_, ?_, ?_, ?_, ?_, ?_⟩, ?_⟩
  · rw [e0]; exact s1
  · rw [e1]; exact s2
  · rw [e2]; exact s3
  · rw [e3]; exact s4
  · rw [e4, e6]; exact s5
  · rw [e5]; exact s6
  · rw [e5, e6]
    intro q
    rw [s7 q]
    exact (ruleW_c (show 1 ≤ P 1 by have := hP.2.1; omega) e7 e3 h1).symm
  · rw [e6]; exact s8
  · rw [e7]; exact s9
  · rw [e8]; exact s10
  · rw [h9]; exact s11
  · rw [h9, h10, b1]; exact (sumTo_c _ l5).symm
  · rw [h9]
    intro k hk
    rw [l3 k hk, l4 k hk, l5 k hk]
    exact b2 k hk
  · rw [e6]
    intro q hq
    rw [h1 q hq]
    exact t1 q hq
  · rw [e0]
    intro k hk hk2
    rw [l0 k hk hk2]
    exact t2 k hk hk2
  · rw [e0]
    intro j k hj hjk hk
    rw [l0 k (by omega) hk, l0 j hj (by omega)]
    exact t3 j k hj hjk hk
  · rw [e0]
    intro k q hk hk2 hq
    rw [l0 k hk hk2, h1 q hq]
    exact t4 k q hk hk2 hq
  · rw [e1]
    intro q k hk
    rw [h2 q k hk]
    exact t5 q k hk
  · rw [e0, e1, sumN_c (g := fun q => pct (G 1 q).toNat 32) (P 1) (fun q hq => by rw [h1 q hq])]
    exact t6
  · rw [e0, e1]
    intro t ht
    rcases t7 t ht with ⟨q, hq, b⟩ | ⟨k, hk, hk2, e⟩ | ⟨j, hj, e⟩
    · exact Or.inl ⟨q, hq, by rw [h1 q hq]; exact b⟩
    · exact Or.inr (Or.inl ⟨k, hk, hk2, by rw [l0 k hk hk2]; exact e⟩)
    · exact Or.inr (Or.inr ⟨j, hj, by rw [h2 (by omega) j (by omega), h2 (by omega) (j + 1) (by omega)]; exact e⟩)
  · intro k hk
    rw [h9] at hk ⊢
    rw [e6, l6 k hk, payF_lk l4 l5 h10 hk]
    exact hp k hk
/- what an entry does to its game -/
def gDo (P : Nat → Nat) (G : GS) (e : Nat → Int) : GS := if e 0 = 116 then g_move (g_lay (WH P) G (e 2).toNat (G 7 1).toNat (G 7 2).toNat (G 1 (G 7 2).toNat).toNat (decide (e 3 = 1))) (P 1) else if e 0 = 100 then g_take G (G 7 2).toNat (G 7 0).toNat (G 1 (G 7 2).toNat).toNat (G 0 (G 7 0).toNat).toNat else if e 0 = 112 then g_skip (WH P) G (szN (P 0)) (P 1) else if e 0 = 98 then b_add G (G 7 9).toNat (e 2) (e 3) (e 4) else g_judge (WH P) G (e 2) (szN (P 0)) (P 1)
def vG (P : Nat → Nat) (G : GS) (e : Nat → Int) : Prop := (e 0 = 116 ∧ G 7 6 = -2 ∧ (0 ≤ e 2 ∧ e 2 < (szN (P 0) : Int)) ∧ (G 1 (G 7 2).toNat).toNat.testBit (e 2).toNat = true ∧ (e 3 = 0 ∨ e 3 = 1) ∧ fitQ (P 0) G (e 2).toNat (decide (e 3 = 1))) ∨ (e 0 = 100 ∧ G 7 6 = -2 ∧ P 3 = 1 ∧ G 7 0 < (szN (P 0) : Int)) ∨ (e 0 = 112 ∧ G 7 6 = -2) ∨ (e 0 = 98 ∧ G 7 6 = -2 ∧ (0 ≤ e 2 ∧ e 2 < 4) ∧ (0 ≤ e 3 ∧ e 3 < (P 1 : Int)) ∧ 1 ≤ e 4 ∧ G 7 9 < 10) ∨ (e 0 = 97 ∧ G 7 5 = 1 ∧ (e 2 = 108 ∨ e 2 = 115 ∨ e 2 = 110) ∧ G 7 8 < 2)
theorem gv_do {e : Nat → Int} (hP : hOK P) (h : gv P G) (hp : gvP G) (hv : vG P G e) : gv P (gDo P G e) ∧ (gDo P G e 7 6 = -2 → gvP (gDo P G e)) := by
  have hs := h.1
  have hh := hand_28 hP h (q := (G 7 2).toNat) (by have := hs.2.2.1; omega)
  have h1 := (h.2.2.1 (G 7 2).toNat (by have := hs.2.2.1; omega)).1
  unfold gDo
  rcases hv with ⟨e0, hw, ht, hb, hlf, hf⟩ | ⟨e0, hw, hd, hde⟩ | ⟨e0, hw⟩ | ⟨e0, hw, hb, hpl, hc, hn⟩ | ⟨e0, hst, hc, ha⟩
  · rw [if_pos e0]
    exact (gv_lay hP h hp hw (n := (G 7 1).toNat) (w := (G 7 2).toNat) (m := (G 1 (G 7 2).toNat).toNat) (by have := hs.2.1; omega) (by have := hs.2.2.1; omega) (by omega) (by omega) hb hf).2
  · rw [if_neg (by omega), if_pos e0]
    have h0 := (h.2.2.2.1 (G 7 0).toNat (Nat.le_refl _) (by have := hs.1; omega)).1
    have := gv_take hP h hp hw (w := (G 7 2).toNat) (de := (G 7 0).toNat) (m := (G 1 (G 7 2).toNat).toNat) (o := (G 0 (G 7 0).toNat).toNat) (by have := hs.2.2.1; omega) (by have := hs.1; omega) (by have := hs.1; omega) (by omega) (by omega)
    exact ⟨this.1, fun _ => this.2⟩
  · rw [if_neg (by omega), if_neg (by omega), if_pos e0]
    exact gv_skip hP h hp hw
  · rw [if_neg (by omega), if_neg (by omega), if_neg (by omega), if_pos e0]
    have s11 := hs.2.2.2.2.2.2.2.2.2.2
    have := gv_bet hP h hp hw (n := (G 7 9).toNat) (b := e 2) (p := e 3) (c := e 4) (by omega) (by omega) hb hpl hc
    exact ⟨this.1, fun _ => this.2⟩
  · rw [if_neg (by omega), if_neg (by omega), if_neg (by omega), if_neg (by omega)]
    have := gv_judge hP h hst hc ha
    exact ⟨this.1, fun q => absurd q this.2⟩
theorem end_lk (h : gEq P G K) (hG : 0 ≤ G 7 1) (hl : G 7 1 ≠ 0) (lf : Bool) : endV K lf = endV G lf := by
  obtain ⟨⟨h7, ⟨h0, h1, h2⟩, h9, h10, hb⟩, h11⟩ := h
  unfold endV
  rw [h7 1 (by decide), h2 (by omega) 0 (by omega), h2 (by omega) (G 7 1).toNat (by omega)]
theorem vG_eq {e : Nat → Int} (h : gv P G) (q : gEq P G K) (hv : vG P G e) : vG P K e := by
  have q' := q
  obtain ⟨⟨h7, ⟨h0, h1, h2⟩, h9, h10, hb⟩, h11⟩ := q
  have hs := h.1
  unfold vG
  rw [h7 6 (by decide), h7 2 (by decide), h7 0 (by decide), h9, h7 5 (by decide), h7 8 (by decide), h1 (G 7 2).toNat (by have := hs.2.2.1; omega)]
  rcases hv with ⟨e0, hw, ht, hb, hlf, hf⟩ | hv | hv | hv | hv
  · refine Or.inl ⟨e0, hw, ht, hb, hlf, ?_⟩
    unfold fitQ at hf ⊢
    rw [h7 1 (by decide)]
    by_cases hl : G 7 1 = 0
    · exact Or.inl hl
    · rw [end_lk q' hs.2.1.1 hl]
      exact hf
  · exact Or.inr (Or.inl hv)
  · exact Or.inr (Or.inr (Or.inl hv))
  · exact Or.inr (Or.inr (Or.inr (Or.inl hv)))
  · exact Or.inr (Or.inr (Or.inr (Or.inr hv)))
theorem eq_take {w de m o : Nat} (q : gEq P G K) (hde : G 7 0 = de) : gEq P (g_take G w de m o) (g_take K w de m o) := by
  obtain ⟨⟨h7, ⟨h0, h1, h2⟩, h9, h10, hb⟩, h11⟩ := q
  refine ⟨⟨fun k hk => ?_, ⟨fun k hk hk2 => h0 k ?_ hk2, fun k hk => ?_, h2⟩, h9, h10, hb⟩, h11⟩
  · show (if k = 0 then _ else K 7 k) = if k = 0 then _ else G 7 k
    rw [h7 k hk]
  · have : (de : Int) + 1 ≤ k := hk
    omega
  · show (if k = w then _ else K 1 k) = if k = w then _ else G 1 k
    rw [h1 k hk]
theorem eq_mv {np : Int} (q : gEq P G K) : gEq P (g_move G np) (g_move K np) := by
  obtain ⟨⟨h7, ht, hb⟩, h11⟩ := q
  refine ⟨⟨fun k hk => ?_, ht, hb⟩, h11⟩
  show (if k = 2 then (if K 7 2 + 1 < np then K 7 2 + 1 else 0) else K 7 k) = if k = 2 then (if G 7 2 + 1 < np then G 7 2 + 1 else 0) else G 7 k
  rw [h7 2 (by decide), h7 k hk]
theorem eq_p1 (q : gEq P G K) : gEq P (g_p1 G) (g_p1 K) := by
  obtain ⟨⟨h7, ht, hb⟩, h11⟩ := q
  refine ⟨⟨fun k hk => ?_, ht, hb⟩, h11⟩
  show (if k = 4 then K 7 4 + 1 else K 7 k) = if k = 4 then G 7 4 + 1 else G 7 k
  rw [h7 4 (by decide), h7 k hk]
theorem eq_p2 (q : gEq P G K) : gEq P (g_p2 G) (g_p2 K) := by
  obtain ⟨⟨h7, ht, hb⟩, h11⟩ := q
  refine ⟨⟨fun k hk => ?_, ht, hb⟩, h11⟩
  show (if k = 5 then _ else if k = 4 then K 7 4 + 1 else K 7 k) = if k = 5 then _ else if k = 4 then G 7 4 + 1 else G 7 k
  rw [h7 4 (by decide), h7 k hk]
theorem eq_win {v : Int} (q : gEq P G K) : gEq P (g_win G v) (g_win K v) := by
  obtain ⟨⟨h7, ht, hb⟩, h11⟩ := q
  refine ⟨⟨fun k hk => ?_, ht, hb⟩, h11⟩
  show (if k = 6 then _ else K 7 k) = if k = 6 then _ else G 7 k
  rw [h7 k hk]
theorem eq_j1 {c : Int} (q : gEq P G K) : gEq P (g_j1 G c) (g_j1 K c) := by
  obtain ⟨⟨h7, ht, hb⟩, h11⟩ := q
  refine ⟨⟨fun k hk => ?_, ht, hb⟩, h11⟩
  show (if k = 8 then K 7 8 + 1 else if k = 7 then _ else K 7 k) = if k = 8 then G 7 8 + 1 else if k = 7 then _ else G 7 k
  rw [h7 8 (by decide), h7 k hk]
theorem rule_lk (hP : hOK P) (q : gEq P G K) : ruleW (WH P) K (szN (P 0)) (P 1) = ruleW (WH P) G (szN (P 0)) (P 1) := ruleW_c (show 1 ≤ P 1 by have := hP.2.1; omega) (q.1.1 7 (by decide)) (q.1.1 3 (by decide)) q.1.2.1.2.1
theorem eq_skip (hP : hOK P) (q : gEq P G K) : gEq P (g_skip (WH P) G (szN (P 0)) (P 1)) (g_skip (WH P) K (szN (P 0)) (P 1)) := by
  unfold g_skip
  rw [q.1.1 4 (by decide), rule_lk hP (eq_p2 q)]
  split
  · exact eq_mv (eq_win (eq_p2 q))
  · exact eq_mv (eq_p1 q)
theorem eq_judge {c : Int} (hP : hOK P) (q : gEq P G K) : gEq P (g_judge (WH P) G c (szN (P 0)) (P 1)) (g_judge (WH P) K c (szN (P 0)) (P 1)) := by
  unfold g_judge
  rw [rule_lk hP (eq_j1 q)]
  exact eq_win (eq_j1 q)
theorem eq_bet {n : Nat} {b p c : Int} (q : gEq P G K) (hn : G 7 9 = n) : gEq P (b_add G n b p c) (b_add K n b p c) := by
  obtain ⟨⟨h7, ht, h9, h10, hb⟩, h11⟩ := q
  refine ⟨⟨fun k hk => ?_, ht, ?_, ?_, fun k hk => ?_⟩, h11⟩
  · show (if k = 10 then _ else if k = 9 then _ else K 7 k) = if k = 10 then _ else if k = 9 then _ else G 7 k
    rw [if_neg (by omega), if_neg (by omega), if_neg (by omega), if_neg (by omega), h7 k hk]
  · show K 7 9 + 1 = G 7 9 + 1
    rw [h9]
  · show K 7 10 + c = G 7 10 + c
    rw [h10]
  · have hk' : (k : Int) < G 7 9 + 1 := hk
    show (if k = n then _ else K 3 k) = (if k = n then _ else G 3 k) ∧ (if k = n then _ else K 4 k) = (if k = n then _ else G 4 k) ∧ (if k = n then _ else K 5 k) = (if k = n then _ else G 5 k) ∧ (if k = n then _ else K 6 k) = (if k = n then _ else G 6 k)
    by_cases hkn : k = n
    · simp only [if_pos hkn, and_self]
    · obtain ⟨a1, a2, a3, a4⟩ := hb k (by omega)
      simp only [if_neg hkn]
      exact ⟨a1, a2, a3, a4⟩
theorem eq_shr (hG : 0 ≤ G 7 9) (q : gEq P G K) : gEq P (b_shr G (G 7 6) (G 7 9).toNat) (b_shr K (K 7 6) (K 7 9).toNat) := by
  obtain ⟨⟨h7, ht, h9, h10, hb⟩, h11⟩ := q
  refine ⟨⟨h7, ht, h9, h10, fun k hk => ?_⟩, h11⟩
  have hk' : (k : Int) < G 7 9 := hk
  obtain ⟨a1, a2, a3, a4⟩ := hb k hk'
  refine ⟨a1, a2, a3, ?_⟩
  show cp _ _ _ k = cp _ _ _ k
  rw [h9, h7 6 (by decide)]
  unfold cp
  rw [if_pos (by omega), if_pos (by omega)]
  exact payF_lk (fun k hk => (hb k (by omega)).2.1) (fun k hk => (hb k (by omega)).2.2.1) h10 (by omega)
theorem eq_lay {t n w m : Nat} {lf : Bool} (q : gEq P G K) (hn : G 7 1 = n) : gEq P (g_lay (WH P) G t n w m lf) (g_lay (WH P) K t n w m lf) := by
  obtain ⟨⟨h7, ⟨h0, h1, h2⟩, h9, h10, hb⟩, h11⟩ := q
  have e71 : g_lay (WH P) G t n w m lf 7 1 = (n : Int) + 1 := rfl
  refine ⟨⟨fun k hk => ?_, ⟨h0, fun k hk => ?_, fun _ k hk => ?_⟩, h9, h10, hb⟩, h11⟩
  · show (if k = 6 then (if _ then _ else K 7 6) else if k = 3 then _ else if k = 4 then _ else if k = 1 then _ else K 7 k) = if k = 6 then (if _ then _ else G 7 6) else if k = 3 then _ else if k = 4 then _ else if k = 1 then _ else G 7 k
    rw [h7 6 (by decide), h7 k hk]
  · show (if k = w then _ else K 1 k) = if k = w then _ else G 1 k
    rw [h1 k hk]
  · rw [e71] at hk
    show g_add K n _ _ lf 2 k = g_add G n _ _ lf 2 k
    show (if n = 0 then st1 (st1 (K 2) 0 _) 1 _ else if lf = true then st1 (fun j => if 1 ≤ j ∧ j < 1 + (n + 1) then K 2 (j - 1) else K 2 j) 0 (_ + _ - K 2 0) else st1 (K 2) (n + 1) (_ + _ - K 2 n)) k = (if n = 0 then st1 (st1 (G 2) 0 _) 1 _ else if lf = true then st1 (fun j => if 1 ≤ j ∧ j < 1 + (n + 1) then G 2 (j - 1) else G 2 j) 0 (_ + _ - G 2 0) else st1 (G 2) (n + 1) (_ + _ - G 2 n)) k
    by_cases hn0 : n = 0
    · rw [if_pos hn0, if_pos hn0]
      unfold st1
      by_cases k1 : k = 1
      · rw [if_pos k1, if_pos k1]
      · rw [if_neg k1, if_neg k1, if_pos (by omega), if_pos (by omega)]
    · rw [if_neg hn0, if_neg hn0, h2 (by omega) 0 (by omega), h2 (by omega) n (by omega)]
      by_cases hl : lf = true
      · rw [if_pos hl, if_pos hl]
        unfold st1
        dsimp only
        by_cases k0 : k = 0
        · rw [if_pos k0, if_pos k0]
        · rw [if_neg k0, if_neg k0, if_pos (by omega), if_pos (by omega)]
          exact h2 (by omega) (k - 1) (by omega)
      · rw [if_neg hl, if_neg hl]
        unfold st1
        by_cases k0 : k = n + 1
        · rw [if_pos k0, if_pos k0]
        · rw [if_neg k0, if_neg k0]
          exact h2 (by omega) k (by omega)
theorem eq_do {e : Nat → Int} (hP : hOK P) (h : gv P G) (q : gEq P G K) (hv : vG P G e) : gEq P (gDo P G e) (gDo P K e) := by
  have hs := h.1
  have q' := q
  obtain ⟨⟨h7, ⟨h0, h1, h2⟩, h9, h10, hb⟩, h11⟩ := q'
  unfold gDo
  rw [h7 1 (by decide), h7 2 (by decide), h7 0 (by decide), h9, h1 (G 7 2).toNat (by have := hs.2.2.1; omega)]
  rcases hv with ⟨e0, hw, ht, hb, hlf, hf⟩ | ⟨e0, hw, hd, hde⟩ | ⟨e0, hw⟩ | ⟨e0, hw, hb, hpl, hc, hn⟩ | ⟨e0, hst, hc, ha⟩
  · rw [if_pos e0, if_pos e0]
    exact eq_mv (eq_lay q (by have := hs.2.1; omega))
  · rw [if_neg (by omega), if_pos e0, if_neg (by omega), if_pos e0, h0 (G 7 0).toNat (by have := hs.1; omega) (by have := hs.1; omega)]
    exact eq_take q (by have := hs.1; omega)
  · rw [if_neg (by omega), if_neg (by omega), if_pos e0, if_neg (by omega), if_neg (by omega), if_pos e0]
    exact eq_skip hP q
  · rw [if_neg (by omega), if_neg (by omega), if_neg (by omega), if_pos e0, if_neg (by omega), if_neg (by omega), if_neg (by omega), if_pos e0]
    exact eq_bet q (by have := hs.2.2.2.2.2.2.2.2.2.2; omega)
  · rw [if_neg (by omega), if_neg (by omega), if_neg (by omega), if_neg (by omega), if_neg (by omega), if_neg (by omega), if_neg (by omega), if_neg (by omega)]
    exact eq_judge hP q
theorem eq_beg (hP : hOK P) (G K : GS) (seed v : Int) : gEq P (wiH (gBeg P G seed) v) (wiH (gBeg P K seed) v) := by
  have hsz := szP_b hP
  obtain ⟨sc, -⟩ := shf_c (f := K 0) (g := G 0) (n := szN (P 0)) (seed := seed) (by omega) (szN (P 0) - 1) (Nat.le_refl _)
  obtain ⟨-, og⟩ := gBeg_o hP G seed
  have hon : ∀ k, k < szN (P 0) → oN (shf (K 0) (szN (P 0)) seed (szN (P 0) - 1)).1 k = oN (shf (G 0) (szN (P 0)) seed (szN (P 0) - 1)).1 k := by
    intro k hk
    unfold oN
    rw [sc k hk]
  have hle := hP.2.2.2.1
  refine ⟨⟨fun k hk => ?_, ⟨fun k hk hk2 => sc k hk2, fun k hk => ?_, fun q => ?_⟩, rfl, rfl, fun k hk => ?_⟩, rfl⟩
  · match k, hk with
    | 0, _ => rfl
    | 1, _ => rfl
    | 2, _ => rfl
    | 3, _ => rfl
    | 4, _ => rfl
    | 5, _ => rfl
    | 6, _ => rfl
    | 7, _ => rfl
    | 8, _ => rfl
  · show (if k < P 1 then ((dm (oN _) (k * P 2) (P 2) : Nat) : Int) else K 1 k) = (if k < P 1 then ((dm (oN _) (k * P 2) (P 2) : Nat) : Int) else G 1 k)
    rw [if_pos hk, if_pos hk]
    have hdm : ∀ c, c ≤ P 2 → dm (oN (shf (K 0) (szN (P 0)) seed (szN (P 0) - 1)).1) (k * P 2) c = dm (oN (shf (G 0) (szN (P 0)) seed (szN (P 0) - 1)).1) (k * P 2) c := by
      intro c
      induction c with
      | zero => intro _; rfl
      | succ c ih =>
        intro hc
        have := Nat.mul_le_mul_right (P 2) (show k + 1 ≤ P 1 by omega)
        rw [Nat.succ_mul] at this
        show _ ||| _ = _ ||| _
        rw [ih (by omega), hon (k * P 2 + c) (by omega)]
    rw [hdm _ (Nat.le_refl _)]
  · exact absurd q (by decide : ¬ (0 : Int) < 0)
  · have : (k : Int) < 0 := hk
    omega
end GQ
