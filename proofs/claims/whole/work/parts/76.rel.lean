/-! ===== the reference beside the table ===== -/
def gA (M : GS) (g : Nat) (P : Nat → Nat) (G : GS) : Prop := (M 12 g = G 7 11 ∧ M 15 g = G 7 0 ∧ M 21 g = G 7 1 ∧ M 18 g = G 7 3 ∧ M 22 g = G 7 5 ∧ M 23 g = G 7 6 ∧ M 24 g = G 7 7 ∧ M 25 g = G 7 8 ∧ M 27 g = G 7 9) ∧ (G 7 6 = -2 → M 16 g = G 7 2 ∧ M 17 g = G 7 4) ∧ (∀ k, (G 7 0).toNat ≤ k → k < szN (P 0) → M 13 (28 * g + k) = G 0 k) ∧ (∀ q, q < P 1 → M 14 (4 * g + q) = G 1 q) ∧ (∃ f : Nat, M 20 g = f ∧ f ≤ 30 ∧ 30 ≤ f + (G 7 1).toNat ∧ ∀ i : Nat, (i : Int) < G 7 1 → M 19 (60 * g + (f + i)) = 10 * G 2 i + G 2 (i + 1)) ∧ (∀ k, k < (G 7 9).toNat → M 28 (10 * g + k) = G 3 k ∧ M 29 (10 * g + k) = G 4 k ∧ M 30 (10 * g + k) = G 5 k)
def g31 (M : GS) (g : Nat) (G : GS) : Prop := ∀ k, k < (G 7 9).toNat → M 31 (10 * g + k) = G 6 k
def gR (M : GS) (g : Nat) (P : Nat → Nat) (G : GS) : Prop := gA M g P G ∧ g31 M g G
def rHs (H : HT) (nh : Nat) (M : GS) : Prop := ∀ i, i < nh → M 1 i = H i 0 ∧ M 2 i = H i 1 ∧ M 3 i = H i 2 ∧ M 4 i = H i 3 ∧ M 5 i = H i 4
def rTs (H : HT) (T : TT) (M : GS) : Prop := M 0 16 = T 6 1 1 ∧ M 0 38 = T 6 1 2 ∧ (∀ b, b < 4 → M 32 b = T 6 0 b) ∧ ∀ i : Nat, (i : Int) < T 6 1 1 → gR M i (H (hxi T i)) (T i)
/- nothing but one game, the purses and the club -/
def sepG (M M' : GS) (g : Nat) : Prop := (∀ r, (r = 12 ∨ (15 ≤ r ∧ r ≤ 18) ∨ (20 ≤ r ∧ r ≤ 27)) → ∀ j, j ≠ g → M' r j = M r j) ∧ (∀ r, 1 ≤ r → r ≤ 11 → M' r = M r) ∧ (∀ k, k ≠ 16 → k ≠ 38 → M' 0 k = M 0 k) ∧ (∀ j, (j < 28 * g ∨ 28 * g + 28 ≤ j) → M' 13 j = M 13 j) ∧ (∀ j, (j < 4 * g ∨ 4 * g + 4 ≤ j) → M' 14 j = M 14 j) ∧ (∀ j, (j < 60 * g ∨ 60 * g + 60 ≤ j) → M' 19 j = M 19 j) ∧ (∀ r, (28 ≤ r ∧ r ≤ 31) → ∀ j, (j < 10 * g ∨ 10 * g + 10 ≤ j) → M' r j = M r j)
section RELM
variable {H : HT} {nh g : Nat} {M M' M2 : GS} {P : Nat → Nat} {G : GS} {T : TT} {e : Nat → Int}
theorem sep_r : sepG M M g := ⟨fun _ _ _ _ => rfl, fun _ _ _ => rfl, fun _ _ _ => rfl, fun _ _ => rfl, fun _ _ => rfl, fun _ _ => rfl, fun _ _ _ _ => rfl⟩
theorem sep_t (h : sepG M M' g) (h' : sepG M' M2 g) : sepG M M2 g := ⟨fun r a j b => (h'.1 r a j b).trans (h.1 r a j b), fun r a b => (h'.2.1 r a b).trans (h.2.1 r a b), fun k a b => (h'.2.2.1 k a b).trans (h.2.2.1 k a b), fun j a => (h'.2.2.2.1 j a).trans (h.2.2.2.1 j a), fun j a => (h'.2.2.2.2.1 j a).trans (h.2.2.2.2.1 j a), fun j a => (h'.2.2.2.2.2.1 j a).trans (h.2.2.2.2.2.1 j a), fun r a j b => (h'.2.2.2.2.2.2 r a j b).trans (h.2.2.2.2.2.2 r a j b)⟩
theorem sr_ne {r q : Nat} {f : Nat → Int} (h : q ≠ r) : sr M r f q = M q := if_neg h
theorem sr_eq {r : Nat} {f : Nat → Int} : sr M r f r = f := if_pos rfl
/- one row of the class of six -/
theorem sep_6 {r : Nat} {v : Int} (hr : r = 12 ∨ (15 ≤ r ∧ r ≤ 18) ∨ (20 ≤ r ∧ r ≤ 27)) : sepG M (sr M r (st1 (M r) g v)) g := by
  refine ⟨fun q _ j hj => ?_, fun q _ _ => sr_ne (by omega), fun k _ _ => by rw [sr_ne (by omega)], fun j _ => by rw [sr_ne (by omega)], fun j _ => by rw [sr_ne (by omega)], fun j _ => by rw [sr_ne (by omega)], fun q _ j _ => by rw [sr_ne (by omega)]⟩
  by_cases hq : q = r
  · rw [hq, sr_eq]; exact if_neg hj
  · rw [sr_ne hq]
theorem sep_13 {f : Nat → Int} (hf : ∀ j, (j < 28 * g ∨ 28 * g + 28 ≤ j) → f j = M 13 j) : sepG M (sr M 13 f) g :=
  ⟨fun q _ j _ => by rw [sr_ne (by omega)], fun q _ _ => sr_ne (by omega), fun _ _ _ => rfl, fun j hj => hf j hj, fun _ _ => rfl, fun _ _ => rfl, fun q _ j _ => by rw [sr_ne (by omega)]⟩
theorem sep_14 {f : Nat → Int} (hf : ∀ j, (j < 4 * g ∨ 4 * g + 4 ≤ j) → f j = M 14 j) : sepG M (sr M 14 f) g :=
  ⟨fun q _ j _ => by rw [sr_ne (by omega)], fun q _ _ => sr_ne (by omega), fun _ _ _ => rfl, fun _ _ => rfl, fun j hj => hf j hj, fun _ _ => rfl, fun q _ j _ => by rw [sr_ne (by omega)]⟩
theorem sep_19 {f : Nat → Int} (hf : ∀ j, (j < 60 * g ∨ 60 * g + 60 ≤ j) → f j = M 19 j) : sepG M (sr M 19 f) g :=
  ⟨fun q _ j _ => by rw [sr_ne (by omega)], fun q _ _ => sr_ne (by omega), fun _ _ _ => rfl, fun _ _ => rfl, fun _ _ => rfl, fun j hj => hf j hj, fun q _ j _ => by rw [sr_ne (by omega)]⟩
theorem sep_28 {r : Nat} {f : Nat → Int} (hr : 28 ≤ r ∧ r ≤ 31) (hf : ∀ j, (j < 10 * g ∨ 10 * g + 10 ≤ j) → f j = M r j) : sepG M (sr M r f) g := by
  refine ⟨fun q _ j _ => by rw [sr_ne (by omega)], fun q _ _ => sr_ne (by omega), fun k _ _ => by rw [sr_ne (by omega)], fun j _ => by rw [sr_ne (by omega)], fun j _ => by rw [sr_ne (by omega)], fun j _ => by rw [sr_ne (by omega)], fun q _ j hj => ?_⟩
  by_cases hq : q = r
  · rw [hq, sr_eq]; exact hf j hj
  · rw [sr_ne hq]
theorem sep_32 {f : Nat → Int} : sepG M (sr M 32 f) g :=
  ⟨fun q _ j _ => by rw [sr_ne (by omega)], fun q _ _ => sr_ne (by omega), fun _ _ _ => rfl, fun _ _ => rfl, fun _ _ => rfl, fun _ _ => rfl, fun q _ j _ => by rw [sr_ne (by omega)]⟩
theorem sep_0 {k : Nat} {v : Int} (hk : k = 16 ∨ k = 38) : sepG M (sr M 0 (st1 (M 0) k v)) g :=
  ⟨fun q _ j _ => by rw [sr_ne (by omega)], fun q _ _ => sr_ne (by omega), fun j _ _ => if_neg (by omega), fun _ _ => rfl, fun _ _ => rfl, fun _ _ => rfl, fun q _ j _ => by rw [sr_ne (by omega)]⟩
theorem gR_sep (hs : sepG M M' g) {i : Nat} (hi : i ≠ g) (hP : hOK P) (hv : gv P G) (k : gR M i P G) : gR M' i P G := by
  obtain ⟨s1, s2, s3, s4, s5, s6, s7⟩ := hs
  have hsz := szP_b hP
  have hp1 := hP.2.1
  obtain ⟨v0, v1, v2, v3, v4, v5, v6, v7, v8, v9, v10⟩ := hv.1
  obtain ⟨⟨⟨a1, a2, a3, a4, a5, a6, a7, a8, a9⟩, b, c, d, ⟨f, f1, f2, f3, f4⟩, e⟩, h31⟩ := k
  refine ⟨⟨⟨by rw [s1 12 (by omega) i hi, a1], by rw [s1 15 (by omega) i hi, a2], by rw [s1 21 (by omega) i hi, a3], by rw [s1 18 (by omega) i hi, a4], by rw [s1 22 (by omega) i hi, a5], by rw [s1 23 (by omega) i hi, a6], by rw [s1 24 (by omega) i hi, a7], by rw [s1 25 (by omega) i hi, a8], by rw [s1 27 (by omega) i hi, a9]⟩, fun q => ?_, fun k k1 k2 => ?_, fun q hq => ?_, ⟨f, by rw [s1 20 (by omega) i hi, f1], f2, f3, fun j hj => ?_⟩, fun k hk => ?_⟩, fun k hk => ?_⟩
  · rw [s1 16 (by omega) i hi, s1 17 (by omega) i hi]; exact b q
  · rw [s4 _ (by omega)]; exact c k k1 k2
  · rw [s5 _ (by omega)]; exact d q hq
  · rw [s6 _ (by omega)]; exact f4 j hj
  · rw [s7 28 (by omega) _ (by omega), s7 29 (by omega) _ (by omega), s7 30 (by omega) _ (by omega)]; exact e k hk
  · rw [s7 31 (by omega) _ (by omega)]; exact h31 k hk
/- what one entry does to the reference -/
def stpR (H : HT) (T : TT) (e : Nat → Int) (k : Nat) (M M' : GS) : Prop := sepG M M' (e 1).toNat ∧ gR M' (e 1).toNat (H (gNew H T e 7 11).toNat) (gFin (gNew H T e)) ∧ (M' 0 16 = if e 0 = 103 then T 6 1 1 + 1 else T 6 1 1) ∧ M' 0 38 = M 0 38 + (cluN T e + finC (gNew H T e)) ∧ (∀ b, b < 4 → M' 32 b = M 32 b + (purN T e b + finP (gNew H T e) b)) ∧ (gNew H T e 7 6 ≠ -2 → M' 26 (e 1).toNat = if e 0 = 97 then M 26 (e 1).toNat else k)
theorem stp_T {k : Nat} (hH : hsOK H nh) (hT : TV H nh T) (hv : vE H nh T e) (hM : rTs H T M) (hs : stpR H T e k M M') : rTs H (pStep H T e) M' := by
  obtain ⟨s1, s2, s3, s4, s5, -⟩ := hs
  obtain ⟨m1, m2, m3, m4⟩ := hM
  have hi := vE_i hT hv
  have h6 := hT.1
  refine ⟨by rw [s3, (pStep_6 hT hv).2], by rw [s4, (pStep_p hT hv 0).2, m2, Int.add_assoc], fun b hb => by rw [s5 b hb, (pStep_p hT hv b).1, m3 b hb, Int.add_assoc], fun i hi' => ?_⟩
  rw [(pStep_6 hT hv).2] at hi'
  have hi6 : i < 6 := by
    rcases hv with ⟨h0, h2, h3, -⟩ | ⟨h2, h3, -⟩
    · rw [if_pos h0] at hi'; omega
    · rw [if_neg (vG_n _ _ h3)] at hi'; omega
  have hx : hxi (pStep H T e) i = if i = (e 1).toNat then (gNew H T e 7 11).toNat else hxi T i := by
    unfold hxi
    rw [pStep_h hT hv i hi6]
    split <;> rfl
  rw [hx, pStep_g hT hv i hi6]
  by_cases hie : i = (e 1).toNat
  · rw [if_pos hie, if_pos hie, hie]
    exact s2
  · rw [if_neg hie, if_neg hie]
    have hlt : (i : Int) < T 6 1 1 := by
      rcases hv with ⟨h0, h2, h3, -⟩ | ⟨h2, h3, -⟩
      · rw [if_pos h0] at hi'; omega
      · rw [if_neg (vG_n _ _ h3)] at hi'; exact hi'
    obtain ⟨b1, b2, b3⟩ := hT.2 i hlt
    exact gR_sep s1 hie (hH.2 _ (by unfold hxi; omega)) b2 (m4 i hlt)
/- who wins a blocked game, in both -/
theorem mb_rw {a : Nat → Nat} (hP : hOK P) (ha : ∀ q, q < P 1 → a q = (G 1 q).toNat) : ∀ k, k < P 1 → mb (P 0) (szN (P 0)) a (k + 1) = rw1 (WH P) G (szN (P 0)) k := by
  have hp := hP.1
  have hsz := szP_b hP
  intro k
  induction k with
  | zero =>
    intro h0
    have hb := pipQ_b (p := P 0) (m := a 0) (by omega) (szN (P 0)) (Nat.le_refl _)
    show (if pipQ (P 0) (a 0) (szN (P 0)) < 1000 then ((0 : Nat) : Int) else _, if pipQ (P 0) (a 0) (szN (P 0)) < 1000 then pipQ (P 0) (a 0) (szN (P 0)) else 1000) = ((0 : Int), pipN (WH P) (G 1 0).toNat (szN (P 0)))
    rw [if_pos (by omega), if_pos (by omega), pipN_Q _ _ _ (Nat.le_refl _), ha 0 h0]
    rfl
  | succ k ih =>
    intro hk
    have e := ih (by omega)
    have e1 : mb (P 0) (szN (P 0)) a (k + 1 + 1) = (if pipQ (P 0) (a (k + 1)) (szN (P 0)) < (mb (P 0) (szN (P 0)) a (k + 1)).2 then ((k + 1 : Nat) : Int) else if pipQ (P 0) (a (k + 1)) (szN (P 0)) = (mb (P 0) (szN (P 0)) a (k + 1)).2 then -1 else (mb (P 0) (szN (P 0)) a (k + 1)).1, if pipQ (P 0) (a (k + 1)) (szN (P 0)) < (mb (P 0) (szN (P 0)) a (k + 1)).2 then pipQ (P 0) (a (k + 1)) (szN (P 0)) else (mb (P 0) (szN (P 0)) a (k + 1)).2) := rfl
    rw [e1, e, ha _ hk, ← pipN_Q _ _ _ (Nat.le_refl _)]
    show _ = (if pipN (WH P) (G 1 (k + 1)).toNat (szN (P 0)) < (rw1 (WH P) G (szN (P 0)) k).2 then (((k + 1 : Nat) : Int), pipN (WH P) (G 1 (k + 1)).toNat (szN (P 0))) else if pipN (WH P) (G 1 (k + 1)).toNat (szN (P 0)) = (rw1 (WH P) G (szN (P 0)) k).2 then (-1, (rw1 (WH P) G (szN (P 0)) k).2) else rw1 (WH P) G (szN (P 0)) k)
    by_cases h1 : pipN (WH P) (G 1 (k + 1)).toNat (szN (P 0)) < (rw1 (WH P) G (szN (P 0)) k).2
    · rw [if_pos h1, if_pos h1, if_pos h1]
    · rw [if_neg h1, if_neg h1, if_neg h1]
      by_cases h2 : pipN (WH P) (G 1 (k + 1)).toNat (szN (P 0)) = (rw1 (WH P) G (szN (P 0)) k).2
      · rw [if_pos h2, if_pos h2]
      · rw [if_neg h2, if_neg h2]
theorem ruQ_W {a : Nat → Nat} (hP : hOK P) (ha : ∀ q, q < P 1 → a q = (G 1 q).toNat) : ruQ (G 7 7) (G 7 3) (P 0) a (P 1) = ruleW (WH P) G (szN (P 0)) (P 1) := by
  have hp1 := hP.2.1
  unfold ruQ ruleW
  by_cases h1 : G 7 7 = 110
  · rw [if_pos h1, if_neg (by omega), if_pos h1]
  · rw [if_neg h1]
    by_cases h2 : G 7 7 = 115
    · rw [if_pos h2, if_pos h2]
    · rw [if_neg h2, if_neg h2, if_neg h1]
      have := mb_rw hP ha (P 1 - 1) (by omega)
      rw [show P 1 - 1 + 1 = P 1 by omega] at this
      rw [this]
end RELM
