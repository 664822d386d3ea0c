/-! ===== what the entries do to the reference ===== -/
section DOES1
variable {E : EX} {d : Nat} {h : AH} {sz m : Nat} {H : HT} {nh g k : Nat} {M M' M2 : GS} {P : Nat → Nat} {G : GS} {T : TT} {e : Nat → Int}
theorem fin_live (hw : G 7 6 = -2) : gFin G = G ∧ finC G = 0 ∧ (∀ b, finP G b = 0) := ⟨if_pos hw, if_pos hw, fun _ => if_pos hw⟩
theorem pay_R (hP : hOK P) (hv : gv P G) (hw : G 7 6 ≠ -2) (hA : gA M g P G) : gR (mPay M g (G 7 9).toNat G (G 7 6) 1) g P (gFin G) ∧ sepG M (mPay M g (G 7 9).toNat G (G 7 6) 1) g ∧ mPay M g (G 7 9).toNat G (G 7 6) 1 0 16 = M 0 16 ∧ mPay M g (G 7 9).toNat G (G 7 6) 1 0 38 = M 0 38 + finC G ∧ (∀ b, b < 4 → mPay M g (G 7 9).toNat G (G 7 6) 1 32 b = M 32 b + finP G b) ∧ mPay M g (G 7 9).toNat G (G 7 6) 1 26 = M 26 := by
  have hf : gFin G = b_shr G (G 7 6) (G 7 9).toNat := if_neg hw
  have v10 := hv.1.2.2.2.2.2.2.2.2.2.2
  refine ⟨⟨?_, fun k hk => ?_⟩, ?_, rfl, ?_, fun b hb => ?_, rfl⟩
  · rw [hf]; exact hA
  · rw [hf] at hk ⊢
    have hk' : k < (G 7 9).toNat := hk
    show emb (10 * g) (G 7 9).toNat (fun k => if (1 : Int) = 1 then payF G (G 7 6) (G 7 9).toNat k else 0) (M 31) (10 * g + k) = cp (G 7 9).toNat (payF G (G 7 6) (G 7 9).toNat) (G 6) k
    rw [emb_at hk', if_pos rfl]
    unfold cp
    rw [if_pos hk']
  · refine sep_t (sep_t (sep_28 (by omega) (fun j hj => emb_out (by omega))) sep_32) (sep_0 (Or.inr rfl))
  · unfold finC
    rw [if_neg hw, hf]
    show M 0 38 + 1 * (G 7 10 - sumTo (payF G (G 7 6) (G 7 9).toNat) (G 7 9).toNat) = M 0 38 + (G 7 10 - sumTo (cp (G 7 9).toNat (payF G (G 7 6) (G 7 9).toNat) (G 6)) (G 7 9).toNat)
    rw [Int.one_mul, sumTo_c (f := cp (G 7 9).toNat (payF G (G 7 6) (G 7 9).toNat) (G 6)) (g := payF G (G 7 6) (G 7 9).toNat) _ (fun k hk => by unfold cp; rw [if_pos hk])]
  · unfold finP
    rw [if_neg hw, hf]
    show mvP (M 32) (G 3) (payF G (G 7 6) (G 7 9).toNat) 1 (G 7 9).toNat b = M 32 b + sumTo (fun k => if (G 3 k).toNat = b then cp (G 7 9).toNat (payF G (G 7 6) (G 7 9).toNat) (G 6) k else 0) (G 7 9).toNat
    rw [mvP_v, Int.one_mul]
    congr 1
    refine sumTo_c _ (fun k hk => ?_)
    unfold cp
    rw [if_pos hk]
theorem sp_144v (hg : g < 6) (hP : hOK P) (hv : gv P G) (hA : gA M g P G) (hc : G 7 10 ≤ 30000) {s : Int} (hs : s = 1 ∨ s = -1) : Sp E (d + 2) 144 [.ref m, .int (z (g : Int)), .int (z s)] (mh h m M) sz (rets none (mh h m (mPay M g (G 7 9).toNat G (G 7 6) s)) sz) := by
  have hp1 := hP.2.1
  obtain ⟨⟨v0, v1, v2, v3, v4, v5, v6, v7, v8, v9, v10⟩, ⟨b1, b2⟩, -⟩ := hv
  obtain ⟨⟨a1, a2, a3, a4, a5, a6, a7, a8, a9⟩, -, -, -, -, e6⟩ := hA
  refine sp_144 hg (by omega) (by omega) a6 (by omega) hs (fun k hk => ?_) (fun k hk => ?_) (fun k hk => ?_) b1 hc
  · have := (b2 k hk).1
    exact ⟨(e6 k hk).1, this.1, this.2⟩
  · have := (b2 k hk).2.1
    exact ⟨(e6 k hk).2.1, by omega, by omega⟩
  · exact ⟨(e6 k hk).2.2, (b2 k hk).2.2⟩
/- what an entry does to its own game -/
def gst (P : Nat → Nat) (G' : GS) (g : Nat) (M M' : GS) (c : Int) (p : Nat → Int) (ov : Int) : Prop := sepG M M' g ∧ gR M' g P (gFin G') ∧ M' 0 16 = M 0 16 ∧ M' 0 38 = M 0 38 + (c + finC G') ∧ (∀ b, b < 4 → M' 32 b = M 32 b + (p b + finP G' b)) ∧ (G' 7 6 ≠ -2 → M' 26 g = ov)
/- a game that goes on -/
theorem gst_l {ov : Int} (hs : sepG M M' g) (hw : G 7 6 = -2) (hR : gR M' g P G) (h1 : M' 0 = M 0) (h2 : M' 32 = M 32) : gst P G g M M' 0 (fun _ => 0) ov := by
  obtain ⟨f1, f2, f3⟩ := fin_live hw
  refine ⟨hs, by rw [f1]; exact hR, by rw [h1], by rw [h1, f2]; exact (Int.add_zero _).symm, fun b _ => by rw [h2, f3 b]; exact (Int.add_zero _).symm, fun q => absurd hw q⟩
/- a game that is over then -/
theorem gst_o {ov : Int} (hP : hOK P) (hv : gv P G) (hs : sepG M M' g) (hw : G 7 6 ≠ -2) (hA : gA M' g P G) (h1 : M' 0 = M 0) (h2 : M' 32 = M 32) (h3 : M' 26 g = ov) : gst P G g M (mPay M' g (G 7 9).toNat G (G 7 6) 1) 0 (fun _ => 0) ov := by
  obtain ⟨r1, r2, r3, r4, r5, r6⟩ := pay_R hP hv hw hA
  refine ⟨sep_t hs r2, r1, by rw [r3, h1], by rw [r4, h1, Int.zero_add], fun b hb => by rw [r5 b hb, h2]; show _ = _ + (0 + _); rw [Int.zero_add], fun _ => by rw [r6, h3]⟩
/- a draw -/
theorem gs_d {ov : Int} (hg : g < 6) (hk : k < 400) (hj : M 6 k = 100 ∧ M 7 k = g) (hP : hOK P) (hgv : gv P G) (hR : gR M g P G) (q2 : G 7 6 = -2) (q4 : G 7 0 < (szN (P 0) : Int)) : ∃ M', Sp E (d + 7) 136 [.ref m, .int (z (k : Int))] (mh h m M) sz (rets none (mh h m M') sz) ∧ gst P (g_take G (G 7 2).toNat (G 7 0).toNat (G 1 (G 7 2).toNat).toNat (G 0 (G 7 0).toNat).toNat) g M M' 0 (fun _ => 0) ov := by
  obtain ⟨⟨⟨a1, a2, a3, a4, a5, a6, a7, a8, a9⟩, b, c, dd, ⟨f, f1, f2, f3, f4⟩, e6⟩, h31⟩ := hR
  obtain ⟨s, hB, t1, t2, t3, t4, t5, t6, t7⟩ := id hgv
  obtain ⟨v0, v1, v2, v3, v4, v5, v6, v7, v8, v9, v10⟩ := s
  have hsz := szP_b hP
  have hp1 := hP.2.1
  obtain ⟨b1, b2⟩ := b q2
  have ho := t2 (G 7 0).toNat (Nat.le_refl _) (by omega)
  have hm0 := (t1 (G 7 2).toNat (by omega)).1
  have hw4 : (G 7 2).toNat < 4 := by omega
  have hd4 := dd (G 7 2).toNat (by omega)
  have hc4 := c (G 7 0).toNat (Nat.le_refl _) (by omega)
  have s := sp_136d (E := E) (d := d) (h := h) (m := m) (M := M) (sz := sz) (e := k) (g := g) (w := (G 7 2).toNat) (a := (G 1 (G 7 2).toNat).toNat) (de := (G 7 0).toNat) (o := (G 0 (G 7 0).toNat).toNat) hk hj.1 hj.2 hg (by omega) hw4 (by omega) (by omega) (by omega) (by omega) (by omega)
  have e0 : g_take G (G 7 2).toNat (G 7 0).toNat (G 1 (G 7 2).toNat).toNat (G 0 (G 7 0).toNat).toNat 7 0 = ((G 7 0).toNat : Int) + 1 := rfl
  refine ⟨_, s, gst_l (sep_t (sep_14 (fun j hj => if_neg (by omega))) (sep_6 (by omega))) q2 ⟨⟨⟨a1, ?_, a3, a4, a5, a6, a7, a8, a9⟩, fun _ => ⟨b1, b2⟩, fun j j1 j2 => ?_, fun q hq => ?_, ⟨f, f1, f2, f3, f4⟩, e6⟩, h31⟩ rfl rfl⟩
  · exact (st1_eq _ _ _).trans e0.symm
  · rw [e0] at j1
    exact c j (by omega) j2
  · show st1 (M 14) (4 * g + (G 7 2).toNat) _ (4 * g + q) = st1 (G 1) (G 7 2).toNat _ q
    unfold st1
    by_cases hqw : q = (G 7 2).toNat
    · rw [if_pos (by omega), if_pos hqw]
    · rw [if_neg (by omega), if_neg hqw]
      exact dd q hq
/- a bet -/
theorem gs_b {b : Nat} {p c ov : Int} (hg : g < 6) (hk : k < 400) (hj : M 6 k = 98 ∧ M 7 k = g ∧ M 8 k = b ∧ M 9 k = p ∧ M 10 k = c) (hb : b < 4) (hgv : gv P G) (hR : gR M g P G) (q2 : G 7 6 = -2) (q4 : G 7 9 < 10) : ∃ M', Sp E (d + 7) 136 [.ref m, .int (z (k : Int))] (mh h m M) sz (rets none (mh h m M') sz) ∧ gst P (b_add G (G 7 9).toNat b p c) g M M' 0 (fun q => if q = b then -c else 0) ov := by
  obtain ⟨⟨⟨a1, a2, a3, a4, a5, a6, a7, a8, a9⟩, bb, cc, dd, ⟨f, f1, f2, f3, f4⟩, e6⟩, h31⟩ := hR
  obtain ⟨v0, v1, v2, v3, v4, v5, v6, v7, v8, v9, v10⟩ := hgv.1
  have s := sp_136b (E := E) (d := d) (h := h) (m := m) (M := M) (sz := sz) (e := k) (g := g) (n := (G 7 9).toNat) (b := b) (p := p) (c := c) hk hj.1 hj.2.1 hg hj.2.2.1 hb hj.2.2.2.1 hj.2.2.2.2 (by omega) (by omega)
  have hl : b_add G (G 7 9).toNat b p c 7 6 = -2 := q2
  obtain ⟨g1, g2, g3⟩ := fin_live hl
  have n9 : b_add G (G 7 9).toNat b p c 7 9 = G 7 9 + 1 := rfl
  refine ⟨_, s, ?_, ?_, rfl, ?_, fun q hq => ?_, fun q => absurd hl q⟩
  · refine sep_t (sep_t (sep_t (sep_t (sep_t (sep_28 (r := 28) (by omega) (fun j hj => if_neg (by omega))) (sep_28 (r := 29) (by omega) (fun j hj => if_neg (by omega)))) (sep_28 (r := 30) (by omega) (fun j hj => if_neg (by omega)))) (sep_28 (r := 31) (by omega) (fun j hj => if_neg (by omega)))) (sep_6 (by omega))) sep_32
  · rw [g1]
    refine ⟨⟨⟨a1, a2, a3, a4, a5, a6, a7, a8, ?_⟩, bb, cc, dd, ⟨f, f1, f2, f3, f4⟩, fun j hj => ?_⟩, fun j hj => ?_⟩
    · rw [n9]
      refine (st1_eq _ _ _).trans ?_
      omega
    · rw [n9] at hj
      show st1 (M 28) (10 * g + (G 7 9).toNat) (b : Int) (10 * g + j) = st1 (G 3) (G 7 9).toNat (b : Int) j ∧ st1 (M 29) (10 * g + (G 7 9).toNat) p (10 * g + j) = st1 (G 4) (G 7 9).toNat p j ∧ st1 (M 30) (10 * g + (G 7 9).toNat) c (10 * g + j) = st1 (G 5) (G 7 9).toNat c j
      unfold st1
      by_cases hjn : j = (G 7 9).toNat
      · rw [if_pos (by omega), if_pos hjn, if_pos (by omega), if_pos hjn, if_pos (by omega), if_pos hjn]
        exact ⟨rfl, rfl, rfl⟩
      · rw [if_neg (by omega), if_neg hjn, if_neg (by omega), if_neg hjn, if_neg (by omega), if_neg hjn]
        exact e6 j (by omega)
    · rw [n9] at hj
      show st1 (M 31) (10 * g + (G 7 9).toNat) 0 (10 * g + j) = st1 (G 6) (G 7 9).toNat 0 j
      unfold st1
      by_cases hjn : j = (G 7 9).toNat
      · rw [if_pos (by omega), if_pos hjn]
      · rw [if_neg (by omega), if_neg hjn]
        exact h31 j (by omega)
  · rw [g2]; exact (Int.add_zero _).symm
  · rw [g3 q]
    show st1 (M 32) b (M 32 b - c) q = M 32 q + ((if q = b then -c else 0) + 0)
    unfold st1
    by_cases hqb : q = b
    · rw [if_pos hqb, if_pos hqb, hqb]; omega
    · rw [if_neg hqb, if_neg hqb]; omega
end DOES1
