/-! ===== pure: a tile laid, a game begun ===== -/
section GV2
variable {P : Nat → Nat} {G : GS}
/- the numbers at the ends -/
def endV (G : GS) (lf : Bool) : Int := if lf = true then G 2 0 else G 2 (G 7 1).toNat
def fitQ (p : Nat) (G : GS) (t : Nat) (lf : Bool) : Prop := G 7 1 = 0 ∨ (lowN p t : Int) = endV G lf ∨ (highN p t : Int) = endV G lf
theorem gv_lay (hP : hOK P) (h : gv P G) (hp : gvP G) (hw : G 7 6 = -2) {t n w m : Nat} {lf : Bool} (h1 : G 7 1 = n) (h2 : G 7 2 = w) (hm : G 1 w = m) (ht : t < szN (P 0)) (hb : m.testBit t = true) (hf : fitQ (P 0) G t lf) : n < szN (P 0) ∧ gv P (g_move (g_lay (WH P) G t n w m lf) (P 1)) ∧ (g_move (g_lay (WH P) G t n w m lf) (P 1) 7 6 = -2 → gvP (g_move (g_lay (WH P) G t n w m lf) (P 1))) := by
  have hst := gv_live hP h hw
  have hh := hand_28 hP h (q := w) (by have := h.1.2.2.1; omega)
  rw [hm, Int.toNat_natCast] at hh
  obtain ⟨⟨s1, s2, s3, s4, s5, s6, s7, s8, s9, s10, s11⟩, hB, t1, t2, t3, t4, t5, t6, t7⟩ := h
  have hsz := szP_b hP
  have hp7 := p0_7 hP
  have hwp : w < P 1 := by omega
  have hm2 := (t1 w hwp).2.1
  rw [hm, Int.toNat_natCast] at hm2
  have hnn : n < szN (P 0) := by
    have x1 := sumN_one (f := fun q => pct (G 1 q).toNat 32) (P 1) hwp
    have x2 := pct_pos hb 32 (by omega)
    rw [hm, Int.toNat_natCast] at x1
    omega
  refine ⟨hnn, ?_⟩
  have hlh := high_le hp7 ht
  have htl := tile_ok (P 0) hp7 t ht
  generalize hM : m &&& (2 ^ t ^^^ 4294967295) = m'
  have hbo : ∀ i, m'.testBit i = (m.testBit i && !decide (i = t)) := fun i => by rw [← hM]; exact bit_out (by omega) hh i
  have hm'2 : m' < 2 ^ szN (P 0) := by rw [← hM]; exact bit_out_lt hm2
  have hct : pct m' 32 + 1 = pct m 32 := by
    have := pct_out (t := t) (by omega) hh hb 32
    rw [hM, if_pos (by omega)] at this
    exact this
  generalize hGG : g_move (g_lay (WH P) G t n w m lf) (P 1) = K
  have e1 : ∀ q, K 1 q = if q = w then (m' : Int) else G 1 q := fun q => by rw [← hGG, ← hM]; rfl
  have e0 : K 0 = G 0 := by rw [← hGG]; rfl
  have e3 : K 3 = G 3 := by rw [← hGG]; rfl
  have e4 : K 4 = G 4 := by rw [← hGG]; rfl
  have e5 : K 5 = G 5 := by rw [← hGG]; rfl
  have e6 : K 6 = G 6 := by rw [← hGG]; rfl
  have e70 : K 7 0 = G 7 0 := by rw [← hGG]; rfl
  have e71 : K 7 1 = (n : Int) + 1 := by rw [← hGG]; rfl
  have e72 : K 7 2 = if (w : Int) + 1 < (P 1 : Int) then (w : Int) + 1 else 0 := by rw [← hGG, ← h2]; rfl
  have e73 : K 7 3 = w := by rw [← hGG]; rfl
  have e74 : K 7 4 = 0 := by rw [← hGG]; rfl
  have e75 : K 7 5 = G 7 5 := by rw [← hGG]; rfl
  have e76 : K 7 6 = if m' = 0 then (w : Int) else G 7 6 := by rw [← hGG, ← hM]; rfl
  have e77 : K 7 7 = G 7 7 := by rw [← hGG]; rfl
  have e78 : K 7 8 = G 7 8 := by rw [← hGG]; rfl
  have e79 : K 7 9 = G 7 9 := by rw [← hGG]; rfl
  have e710 : K 7 10 = G 7 10 := by rw [← hGG]; rfl
  have ec : K 2 = if n = 0 then st1 (st1 (G 2) 0 (lowN (P 0) t)) 1 (highN (P 0) t) else if lf = true then st1 (fun j => if 1 ≤ j ∧ j < 1 + (n + 1) then G 2 (j - 1) else G 2 j) 0 ((lowN (P 0) t : Int) + (highN (P 0) t : Int) - G 2 0) else st1 (G 2) (n + 1) ((lowN (P 0) t : Int) + (highN (P 0) t : Int) - G 2 n) := by
    rw [← hGG, ← WH_lo P ht, ← WH_hi P ht]; rfl
  have hen : n ≠ 0 → (lowN (P 0) t : Int) = endV G lf ∨ (highN (P 0) t : Int) = endV G lf := by
    intro q
    rcases hf with hf | hf
    · omega
    · exact hf
  have hch : ∀ k : Nat, n ≠ 0 → k ≤ n → 0 ≤ G 2 k ∧ G 2 k ≤ (P 0 : Int) := fun k q hk => t5 (by omega) k (by omega)
  have hnew : ∀ v : Int, (lowN (P 0) t : Int) = v ∨ (highN (P 0) t : Int) = v → (0 ≤ (lowN (P 0) t : Int) + (highN (P 0) t : Int) - v ∧ (lowN (P 0) t : Int) + (highN (P 0) t : Int) - v ≤ (P 0 : Int)) ∧ tileN (P 0) ((lowN (P 0) t : Int) + (highN (P 0) t : Int) - v).toNat v.toNat = t ∧ tileN (P 0) v.toNat ((lowN (P 0) t : Int) + (highN (P 0) t : Int) - v).toNat = t := by
    intro v hv
    rcases hv with hv | hv
    · subst hv
      rw [show ((lowN (P 0) t : Int) + (highN (P 0) t : Int) - (lowN (P 0) t : Int)) = (highN (P 0) t : Int) by omega, Int.toNat_natCast, Int.toNat_natCast]
      exact ⟨by omega, htl.2, htl.1⟩
    · subst hv
      rw [show ((lowN (P 0) t : Int) + (highN (P 0) t : Int) - (highN (P 0) t : Int)) = (lowN (P 0) t : Int) by omega, Int.toNat_natCast, Int.toNat_natCast]
      exact ⟨by omega, htl.1, htl.2⟩
  -- the line behind it
  have hline : (∀ k : Nat, k ≤ n + 1 → 0 ≤ K 2 k ∧ K 2 k ≤ (P 0 : Int)) ∧ (∃ j, j < n + 1 ∧ tileN (P 0) (K 2 j).toNat (K 2 (j + 1)).toNat = t) ∧ (∀ j, j < n → ∃ j', j' < n + 1 ∧ K 2 j' = G 2 j ∧ K 2 (j' + 1) = G 2 (j + 1)) := by
    rw [ec]
    by_cases hn0 : n = 0
    · rw [if_pos hn0]
      refine ⟨fun k hk => ?_, ⟨0, by omega, ?_⟩, fun j hj => by omega⟩
      · unfold st1
        by_cases k1 : k = 1
        · rw [if_pos k1]; omega
        · rw [if_neg k1, if_pos (by omega)]; omega
      · show tileN (P 0) ((lowN (P 0) t : Nat) : Int).toNat ((highN (P 0) t : Nat) : Int).toNat = t
        rw [Int.toNat_natCast, Int.toNat_natCast]
        exact htl.1
    · rw [if_neg hn0]
      have hv := hen hn0
      by_cases hl : lf = true
      · rw [if_pos hl]
        have ev : endV G lf = G 2 0 := by unfold endV; rw [if_pos hl]
        rw [ev] at hv
        obtain ⟨x1, x2, x3⟩ := hnew _ hv
        have f0 : st1 (fun j => if 1 ≤ j ∧ j < 1 + (n + 1) then G 2 (j - 1) else G 2 j) 0 ((lowN (P 0) t : Int) + (highN (P 0) t : Int) - G 2 0) 0 = (lowN (P 0) t : Int) + (highN (P 0) t : Int) - G 2 0 := rfl
        have f1 : ∀ k, k ≤ n → st1 (fun j => if 1 ≤ j ∧ j < 1 + (n + 1) then G 2 (j - 1) else G 2 j) 0 ((lowN (P 0) t : Int) + (highN (P 0) t : Int) - G 2 0) (k + 1) = G 2 k := by
          intro k hk
          unfold st1
          rw [if_neg (by omega)]
          show (if 1 ≤ k + 1 ∧ k + 1 < 1 + (n + 1) then G 2 (k + 1 - 1) else G 2 (k + 1)) = _
          rw [if_pos (by omega), Nat.add_sub_cancel]
        refine ⟨fun k hk => ?_, ⟨0, by omega, ?_⟩, fun j hj => ⟨j + 1, by omega, f1 j (by omega), f1 (j + 1) (by omega)⟩⟩
        · cases k with
          | zero => rw [f0]; exact x1
          | succ k => rw [f1 k (by omega)]; exact hch k hn0 (by omega)
        · rw [f0, f1 0 (by omega)]
          exact x2
      · rw [if_neg hl]
        have ev : endV G lf = G 2 n := by unfold endV; rw [if_neg hl, h1, Int.toNat_natCast]
        rw [ev] at hv
        obtain ⟨x1, x2, x3⟩ := hnew _ hv
        have f0 : st1 (G 2) (n + 1) ((lowN (P 0) t : Int) + (highN (P 0) t : Int) - G 2 n) (n + 1) = (lowN (P 0) t : Int) + (highN (P 0) t : Int) - G 2 n := st1_eq _ _ _
        have f1 : ∀ k, k ≤ n → st1 (G 2) (n + 1) ((lowN (P 0) t : Int) + (highN (P 0) t : Int) - G 2 n) k = G 2 k := by
          intro k hk
          unfold st1
          rw [if_neg (by omega)]
        refine ⟨fun k hk => ?_, ⟨n, by omega, ?_⟩, fun j hj => ⟨j, by omega, f1 j (by omega), f1 (j + 1) (by omega)⟩⟩
        · by_cases k1 : k = n + 1
          · rw [k1, f0]; exact x1
          · rw [f1 k (by omega)]; exact hch k hn0 (by omega)
        · rw [f0, f1 n (by omega)]
          exact x3
  obtain ⟨l1, ⟨lj, lj2, lt⟩, l3⟩ := hline
  have hwin : K 7 6 = -2 → m' ≠ 0 ∧ G 7 6 = -2 := by
    intro q
    rw [e76] at q
    by_cases hz : m' = 0
    · rw [if_pos hz] at q; omega
    · exact ⟨hz, hw⟩
  refine ⟨⟨⟨?_, ?_, ?_, ?_, ?_, ?_, ?_, ?_, ?_, ?_, ?_⟩, ⟨?_, ?_⟩, ?_, ?_, ?_, ?_, ?_, ?_, ?_⟩, ?_⟩
  · rw [e70]; exact s1
  · rw [e71]; omega
  · rw [e72]; split <;> omega
  · rw [e73]; omega
  · rw [e74]; exact ⟨by omega, by omega, fun _ => by omega⟩
  · rw [e75]; exact s6
  · intro q; rw [e75] at q; omega
  · rw [e76]; split <;> omega
  · rw [e77]; exact s9
  · rw [e78]; exact s10
  · rw [e79]; exact s11
  · rw [e710, e5, e79]; exact hB.1
  · rw [e79, e3, e4, e5]; exact hB.2
  · intro q hq
    rw [e1]
    by_cases hqw : q = w
    · rw [if_pos hqw, Int.toNat_natCast]
      exact ⟨by omega, hm'2, fun q2 => by have := (hwin q2).1; omega⟩
    · rw [if_neg hqw]
      exact ⟨(t1 q hq).1, (t1 q hq).2.1, fun q2 => (t1 q hq).2.2 (hwin q2).2⟩
  · rw [e70, e0]; exact t2
  · rw [e70, e0]; exact t3
  · rw [e70, e0]
    intro k q hk hk2 hq
    have x := t4 k q hk hk2 hq
    rw [e1]
    by_cases hqw : q = w
    · rw [if_pos hqw, Int.toNat_natCast, hbo]
      rw [hqw, hm, Int.toNat_natCast] at x
      rw [x, Bool.false_and]
    · rw [if_neg hqw]; exact x
  · rw [e71]
    intro _ k hk
    exact l1 k (by omega)
  · rw [e71, e70]
    have x1 := sumN_u (f := fun q => pct (K 1 q).toNat 32) (g := fun q => pct (G 1 q).toNat 32) (w := w) (a := 1) (b := 0) (P 1) hwp (fun k hk hkw => by rw [e1, if_neg hkw]) (by
      rw [e1, if_pos rfl, hm, Int.toNat_natCast, Int.toNat_natCast]
      exact hct)
    omega
  · rw [e71, e70, e0]
    intro t' ht'
    by_cases htt : t' = t
    · subst htt
      exact Or.inr (Or.inr ⟨lj, by omega, lt⟩)
    · rcases t7 t' ht' with ⟨q, hq, hb'⟩ | hs | ⟨j, hj, e⟩
      · refine Or.inl ⟨q, hq, ?_⟩
        rw [e1]
        by_cases hqw : q = w
        · rw [if_pos hqw, Int.toNat_natCast, hbo, decide_eq_false htt]
          rw [hqw, hm, Int.toNat_natCast] at hb'
          rw [hb']; rfl
        · rw [if_neg hqw]; exact hb'
      · exact Or.inr (Or.inl hs)
      · obtain ⟨j', j1, j2, j3⟩ := l3 j (by omega)
        refine Or.inr (Or.inr ⟨j', by omega, ?_⟩)
        rw [j2, j3]; exact e
  · intro q k hk
    rw [e79] at hk
    rw [q, if_pos rfl, e6]
    have := hp k hk
    rw [hw, if_pos rfl] at this
    exact this
/- a game begins -/
def oN (f : Nat → Int) : Nat → Nat := fun k => (f k).toNat
def gBeg (P : Nat → Nat) (G : GS) (seed : Int) : GS := g_begin (WH P) G (oN (shf (G 0) (szN (P 0)) seed (szN (P 0) - 1)).1) (szN (P 0)) (P 1) (P 2) seed
theorem gBeg_o (hP : hOK P) (G : GS) (seed : Int) : permF (shf (G 0) (szN (P 0)) seed (szN (P 0) - 1)).1 (szN (P 0)) ∧ ∀ k, k < P 1 * P 2 → (shf (G 0) (szN (P 0)) seed (szN (P 0) - 1)).1 k = oN (shf (G 0) (szN (P 0)) seed (szN (P 0) - 1)).1 k ∧ oN (shf (G 0) (szN (P 0)) seed (szN (P 0) - 1)).1 k < 28 := by
  have hsz := szP_b hP
  have hpm := shf_p (f := G 0) (n := szN (P 0)) (seed := seed) (by omega) (szN (P 0) - 1) (Nat.le_refl _)
  refine ⟨hpm, fun k hk => ?_⟩
  have := hpm.1 k (by have := hP.2.2.2.1; omega)
  unfold oN
  omega
theorem sumN_k (c : Nat) : ∀ n, sumN (fun _ => c) n = n * c := by
  intro n
  induction n with
  | zero => rw [Nat.zero_mul]; rfl
  | succ n ih =>
    show sumN (fun _ => c) n + c = _
    rw [ih, Nat.succ_mul]
theorem gv_beg (hP : hOK P) (G : GS) (seed v : Int) : gv P (wiH (gBeg P G seed) v) ∧ gvP (wiH (gBeg P G seed) v) := by
  have hsz := szP_b hP
  obtain ⟨hpm, ho⟩ := gBeg_o hP G seed
  have hle := hP.2.2.2.1
  unfold gBeg
  generalize hf : (shf (G 0) (szN (P 0)) seed (szN (P 0) - 1)).1 = f at *
  generalize hK : wiH (g_begin (WH P) G (oN f) (szN (P 0)) (P 1) (P 2) seed) v = K
  obtain ⟨p1, p2, p3⟩ := hpm
  have e0 : K 0 = f := by rw [← hK, ← hf]; rfl
  have e1 : ∀ q, q < P 1 → K 1 q = (dm (oN f) (q * P 2) (P 2) : Nat) := by
    intro q hq
    rw [← hK]
    show (if q < P 1 then ((dm (oN f) (q * P 2) (P 2) : Nat) : Int) else G 1 q) = _
    rw [if_pos hq]
  have e70 : K 7 0 = ((P 1 * P 2 : Nat) : Int) := by rw [← hK]; rfl
  have e71 : K 7 1 = 0 := by rw [← hK]; rfl
  have e72 : K 7 2 = 0 := by rw [← hK]; rfl
  have e73 : K 7 3 = -1 := by rw [← hK]; rfl
  have e74 : K 7 4 = 0 := by rw [← hK]; rfl
  have e75 : K 7 5 = 0 := by rw [← hK]; rfl
  have e76 : K 7 6 = -2 := by rw [← hK]; rfl
  have e77 : K 7 7 = P 4 := by rw [← hK]; rfl
  have e78 : K 7 8 = 0 := by rw [← hK]; rfl
  have e79 : K 7 9 = 0 := by rw [← hK]; rfl
  have e710 : K 7 10 = 0 := by rw [← hK]; rfl
  have hix : ∀ q c, q < P 1 → c < P 2 → q * P 2 + c < P 1 * P 2 := by
    intro q c hq hc
    have := Nat.mul_le_mul_right (P 2) (show q + 1 ≤ P 1 by omega)
    rw [Nat.succ_mul] at this
    omega
  have hoN : ∀ k, k < szN (P 0) → f k = oN f k := by
    intro k hk
    have := p1 k hk
    unfold oN
    omega
  have hodd : ∀ j k, j ≠ k → j < szN (P 0) → k < szN (P 0) → oN f j ≠ oN f k := by
    intro j k hjk hj hk q
    have x1 := hoN j hj
    have x2 := hoN k hk
    rcases Nat.lt_or_gt_of_ne hjk with q2 | q2
    · exact p2 j k q2 hk (by omega)
    · exact p2 k j q2 hj (by omega)
  have hbt : ∀ q t, q < P 1 → ((K 1 q).toNat.testBit t = true ↔ ∃ c, c < P 2 ∧ oN f (q * P 2 + c) = t) := by
    intro q t hq
    rw [e1 q hq, Int.toNat_natCast]
    exact dm_b _ _ _ _
  have h1 := hP.2.1
  have h2 := hP.2.2.1
  have h4 := hP.2.2.2.2.2
  refine ⟨⟨⟨?_, ?_, ?_, ?_, ?_, ?_, ?_, ?_, ?_, ?_, ?_⟩, ⟨?_, ?_⟩, ?_, ?_, ?_, ?_, ?_, ?_, ?_⟩, ?_⟩
  · rw [e70]; omega
  · rw [e71]; omega
  · rw [e72]; omega
  · rw [e73]; omega
  · rw [e74]; exact ⟨by omega, by omega, fun _ => by omega⟩
  · exact Or.inl e75
  · intro q; omega
  · rw [e76]; omega
  · rw [e77]; omega
  · rw [e78]; omega
  · rw [e79]; omega
  · rw [e710, e79]; rfl
  · rw [e79]
    intro k hk
    exact absurd hk (Nat.not_lt_zero k)
  · intro q hq
    have hb := (hbt q (oN f (q * P 2 + 0)) hq).mpr ⟨0, by omega, rfl⟩
    refine ⟨by rw [e1 q hq]; omega, ?_, fun _ q2 => ?_⟩
    · rw [e1 q hq, Int.toNat_natCast]
      refine dm_lt _ (fun c hc => ?_)
      have x := hix q c hq hc
      have := p1 (q * P 2 + c) (by omega)
      unfold oN
      omega
    · rw [q2] at hb
      rw [show (0 : Int).toNat = 0 from rfl, Nat.zero_testBit] at hb
      cases hb
  · rw [e0]
    intro k _ hk
    exact p1 k hk
  · rw [e0]
    intro j k _ hjk hk
    exact p2 j k hjk hk
  · rw [e70, e0]
    intro k q hk hk2 hq
    rw [Int.toNat_natCast] at hk
    rw [Bool.eq_false_iff]
    intro hb
    obtain ⟨c, hc, e⟩ := (hbt q _ hq).mp hb
    have x := hix q c hq hc
    exact hodd (q * P 2 + c) k (by omega) (by omega) hk2 e
  · rw [e71]
    intro q
    exact absurd q (by decide)
  · rw [e71, e70, Int.toNat_natCast]
    have x1 := sumN_c (f := fun q => pct (K 1 q).toNat 32) (g := fun _ => P 2) (P 1) (fun q hq => by
      rw [e1 q hq, Int.toNat_natCast]
      refine dm_ct _ (fun j k hj hk => ?_) (fun k hk => ?_)
      · have x1 := hix q k hq hk
        have x2 := hix q j hq (by omega)
        exact hodd _ _ (by omega) (by omega) (by omega)
      · have x1 := hix q k hq hk
        have := p1 (q * P 2 + k) (by omega)
        unfold oN
        omega)
    rw [x1, sumN_k]
    have : (0 : Int).toNat = 0 := rfl
    omega
  · rw [e70, e0, Int.toNat_natCast]
    intro t ht
    obtain ⟨k, hk, e⟩ := p3 t ht
    by_cases hkd : P 1 * P 2 ≤ k
    · exact Or.inr (Or.inl ⟨k, hkd, hk, e⟩)
    · have hp2 : 0 < P 2 := by omega
      have x1 : k / P 2 < P 1 := by
        rw [Nat.div_lt_iff_lt_mul hp2]
        omega
      refine Or.inl ⟨k / P 2, x1, (hbt _ _ x1).mpr ⟨k % P 2, Nat.mod_lt _ hp2, ?_⟩⟩
      have x2 := Nat.div_add_mod k (P 2)
      rw [Nat.mul_comm] at x2
      rw [x2]
      have := hoN k hk
      omega
  · intro k hk
    rw [e79] at hk
    exact absurd hk (Nat.not_lt_zero k)
end GV2
