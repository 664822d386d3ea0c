/-! ===== the class does an entry ===== -/
def EB (ha : Nat → Nat) (e : Nat → Int) : va_E :=
  if e 0 = 103 then .inr (5, [.int (z 103), .int (z (e 1)), .ref (ha (e 2).toNat), .int (z (e 3))])
  else if e 0 = 116 then .inr (9, [.int (z 116), .int (z (e 1)), .int (z (e 2)), .int (z (e 3))])
  else if e 0 = 100 then .inr (8, [.int (z 100), .int (z (e 1))])
  else if e 0 = 112 then .inr (10, [.int (z 112), .int (z (e 1))])
  else if e 0 = 98 then .inr (3, [.int (z 98), .int (z (e 1)), .int (z (e 2)), .int (z (e 3)), .int (z (e 4))])
  else .inr (2, [.int (z 97), .int (z (e 1)), .int (z (e 2))])
def hsk (h : AH) (t : Nat) (ha : Nat → Nat) (H : HT) (nh : Nat) : Prop := ∀ i, i < nh → isH h (ha i) (WH (H i)) ∧ (ha i + 4 ≤ t ∨ t + 57 ≤ ha i)
theorem payOK_v {P : Nat → Nat} {G : GS} (hP : hOK P) (h : gv P G) (hc : G 7 10 ≤ 1000000) : payOK G (G 7 9).toNat := by
  obtain ⟨⟨s1, s2, s3, s4, s5, s6, s7, s8, s9, s10, s11⟩, ⟨b1, b2⟩, -⟩ := h
  have hn := hP.2.1
  have hsum : ∀ k, k < (G 7 9).toNat → G 5 k ≤ G 7 10 := fun k hk => by
    have := sumTo_one (f := G 5) hk (fun k hk => by have := (b2 k hk).2.2; omega)
    omega
  have h0 : 0 ≤ G 7 10 := by rw [b1]; exact sumTo_nn _ (fun k hk => by have := (b2 k hk).2.2; omega)
  refine ⟨by omega, by omega, fun k hk => (b2 k hk).1, by omega, fun k hk => by have := (b2 k hk).2.1; omega, by omega, fun k hk => by have := (b2 k hk).2.2; have := hsum k hk; omega, ?_, ?_⟩
  · exact sumTo_nn _ (fun k hk => by have := (b2 k hk).2.2; split <;> omega)
  · have := sumTo_le (f := fun k => if G 4 k = G 7 6 then G 5 k else 0) (g := G 5) (G 7 9).toNat (fun k hk => by have := (b2 k hk).2.2; split <;> omega)
    have e : onW G (G 7 6) (G 7 9).toNat = sumTo (fun k => if G 4 k = G 7 6 then G 5 k else 0) (G 7 9).toNat := rfl
    omega
section PERF
variable {E : EX} {d : Nat} {h : AH} {sz t ea nh : Nat} {ha : Nat → Nat} {T : TT} {H : HT} {e : Nat → Int}
/- coins of a game behind an entry -/
theorem coin_n (hH : hsOK H nh) (hT : TV H nh T) (hM : TM H T) (hv : vE H nh T e) : gNew H T e 7 10 ≤ 1000000 := by
  obtain ⟨F1, F2, -⟩ := TM_f hH hT hM
  rcases hv with ⟨h0, -⟩ | ⟨h1, h2, h3⟩
  · have : gNew H T e = wiH (gBeg (H (e 2).toNat) (T (T 6 1 1).toNat) (e 3)) (e 2) := if_pos h0
    rw [this]
    exact show (0 : Int) ≤ 1000000 by decide
  · have := (F1 (e 1).toNat (by omega)).2
    unfold gNew
    rw [if_neg (vG_n _ _ h2)]
    by_cases h98 : e 0 = 98
    · have e1 : gDo (H (hxi T (e 1).toNat)) (T (e 1).toNat) e 7 10 = T (e 1).toNat 7 10 + e 4 := by
        unfold gDo
        rw [if_neg (by omega), if_neg (by omega), if_neg (by omega), if_pos h98]
        rfl
      have hb : (e 2).toNat < 4 := by
        rcases h2 with ⟨h, -⟩ | ⟨h, -⟩ | ⟨h, -⟩ | ⟨h, -, h4, -⟩ | ⟨h, -⟩ <;> omega
      have := F2 _ hb
      have := h3 h98
      rw [e1]
      omega
    · rw [(gDo_b h98).2.2.2.2.2]
      omega
theorem sp_60v (hH : hsOK H nh) (hT : isT h t ha T) (hV : TV H nh T) (hM : TM H T) (hv : vE H nh T e) (hk : hsk h t ha H nh) (he : h ea = some (EB ha e)) (hea : ea < t ∨ t + 57 ≤ ea) : Sp E (d + 5) 60 [.ref t, .ref ea] h sz (rets none (blk h t 57 (TB t ha (pStep H T e))) sz) := by
  have hi := vE_i hV hv
  have hVd := TV_d hV
  have hvd := vE_d hV hv
  have h61 : pDo H (pDone T) e 6 1 1 = if e 0 = 103 then T 6 1 1 + 1 else T 6 1 1 := (pDo_6 hVd hvd).2
  have hTd := isT_blk (h := h) (t := t) (ha := ha) (T := pDone T)
  have hg := pDo_g hVd hvd (e 1).toNat hi.1
  rw [if_pos rfl] at hg
  have gnd : gNew H (pDone T) e = gNew H T e := by
    unfold gNew
    rw [hx_d _ hi.1, pDone_g _ hi.1, pDone_6.2.1]
    by_cases h0 : e 0 = 103
    · rw [if_pos h0, if_pos h0]
      rcases hv with ⟨-, h2, h3, -⟩ | ⟨h2, h3, -⟩
      · rw [pDone_g _ (by have := hV.1; omega)]
      · exact absurd h0 (vG_n _ _ h3)
    · rw [if_neg h0, if_neg h0]
  rw [gnd] at hg
  obtain ⟨n1, n2, n3⟩ := gNew_v hH hV hv
  have hpay : payOK (pDo H (pDone T) e (e 1).toNat) (pDo H (pDone T) e (e 1).toNat 7 9).toNat := by
    rw [hg]
    exact payOK_v (hH.2 _ (by omega)) n2 (coin_n hH hV hM hv)
  have hkd : ∀ i, i < nh → isH (blk h t 57 (TB t ha (pDone T))) (ha i) (WH (H i)) ∧ (ha i + 4 ≤ t ∨ t + 57 ≤ ha i) := fun i hi' => ⟨isH_out (hk i hi').1 (hk i hi').2, (hk i hi').2⟩
  have hed : blk h t 57 (TB t ha (pDone T)) ea = some (EB ha e) := by rw [blk_out (by omega), he]
  have hgc : 0 ≤ T 6 1 1 ∧ T 6 1 1 ≤ 6 := hV.1
  have e1 : e 1 = (((e 1).toNat : Nat) : Int) := by omega
  have fin : ∀ {ci : Nat} {k0 : Value} {fs : List Value}, EB ha e = .inr (ci, k0 :: .int (z (e 1)) :: fs) → subc 50 ci = true → mcsT mtab (vdo ci) = (0, 0) → Sp E (d + 4) (vdo ci) [.ref ea, .ref t] (blk h t 57 (TB t ha (pDone T))) sz (rets none (blk h t 57 (TB t ha (pDo H (pDone T) e))) sz) → Sp E (d + 5) 60 [.ref t, .ref ea] h sz (rets none (blk h t 57 (TB t ha (pStep H T e))) sz) := by
    intro ci k0 fs q1 q2 q3 q4
    rw [q1, e1] at he
    refine sp_60 (gc := (pDo H (pDone T) e 6 1 1).toNat) hT he q2 hea q3 q4 ?_ ?_ ?_ hpay
    · rw [h61]; split <;> omega
    · rw [h61]
      rcases hv with ⟨h0, h2, h3, -⟩ | ⟨h2, h3, -⟩
      · rw [if_pos h0]; omega
      · rw [if_neg (vG_n _ _ h3)]; omega
    · rw [h61]
      rcases hv with ⟨h0, h2, h3, -⟩ | ⟨h2, h3, -⟩
      · rw [if_pos h0]; omega
      · rw [if_neg (vG_n _ _ h3)]; omega
  rcases hv with ⟨h0, h2, h3, h4, h5⟩ | ⟨h2, h3, h4⟩
  · have hE : EB ha e = .inr (5, [.int (z 103), .int (z (e 1)), .ref (ha (e 2).toNat), .int (z (e 3))]) := if_pos h0
    have hP := hH.2 (e 2).toNat (by omega)
    have hsz := szP_b hP
    have hle := hP.2.2.2.1
    obtain ⟨hpm, ho⟩ := gBeg_o hP (pDone T (T 6 1 1).toNat) (e 3)
    refine fin hE rfl rfl ?_
    have s := sp_45 (E := E) (d := d) (sz := sz) (gc := (T 6 1 1).toNat) (w := (e 2).toNat) hTd (by rw [hed, hE]) hea (by show T 6 1 1 = _; omega) (by omega) (hkd _ (by omega)).1 (hkd _ (by omega)).2 (WH_5 _) (by omega) (WH_1 _) (by have := hP.2.1; omega) (WH_2 _) (by omega) (by rw [WH_4]; have := hP.2.2.2.2.2; omega) (show 0 ≤ e 3 ∧ e 3 ≤ 1000000 by omega) ho
    rw [blk_blk] at s
    have ed : t_beg (pDone T) (WH (H (e 2).toNat)) (T 6 1 1).toNat (e 2).toNat (oN (shf (pDone T (T 6 1 1).toNat 0) (szN (H (e 2).toNat 0)) (e 3) (szN (H (e 2).toNat 0) - 1)).1) (szN (H (e 2).toNat 0)) (H (e 2).toNat 1) (H (e 2).toNat 2) (e 3) = pDo H (pDone T) e := by
      unfold pDo
      rw [if_pos h0]
      unfold t_beg tBeg gBeg
      rw [show (((T 6 1 1).toNat : Nat) : Int) = T 6 1 1 by omega, show (((e 2).toNat : Nat) : Int) = e 2 by omega]
      rfl
    rw [ed] at s
    exact s
  · have hn := vG_n _ _ h3
    have hnd : pDone T (e 1).toNat = T (e 1).toNat := pDone_g _ hi.1
    obtain ⟨a1, a2, a3⟩ := hV.2 (e 1).toNat (by omega)
    have hxl : hxi T (e 1).toNat < nh := by unfold hxi; omega
    have hP := hH.2 (hxi T (e 1).toNat) hxl
    have hsz := szP_b hP
    have hp1 := hP.2.1
    have hs := a2.1
    have hHd : isH (blk h t 57 (TB t ha (pDone T))) (ha (pDone T (e 1).toNat 7 11).toNat) (WH (H (hxi T (e 1).toNat))) := by rw [hnd]; exact (hkd _ hxl).1
    have hdj : ha (pDone T (e 1).toNat 7 11).toNat + 4 ≤ t ∨ t + 57 ≤ ha (pDone T (e 1).toNat 7 11).toNat := by rw [hnd]; exact (hkd _ hxl).2
    have hgc1 : pDone T 6 1 1 = (((T 6 1 1).toNat : Nat) : Int) := by show T 6 1 1 = _; omega
    have hip : (e 1).toNat < (T 6 1 1).toNat := by omega
    have hhd : (T (e 1).toNat 1 (T (e 1).toNat 7 2).toNat).toNat < 2 ^ 28 := hand_28 hP a2 (by have := hs.2.2.1; omega)
    have hh0 := (a2.2.2.1 (T (e 1).toNat 7 2).toNat (by have := hs.2.2.1; omega)).1
    have pd : pDo H (pDone T) e = tG (pur (pDone T) e) (e 1).toNat (gDo (H (hxi T (e 1).toNat)) (T (e 1).toNat) e) := by
      unfold pDo
      rw [if_neg hn, hx_d _ hi.1, hnd]
    have pn : e 0 ≠ 98 → e 0 ≠ 97 → pur (pDone T) e = pDone T := fun q1 q2 => by
      unfold pur
      rw [if_neg q1, if_neg q2]
    rcases h3 with ⟨e0, hw, ht, hb, hlf, hf⟩ | ⟨e0, hw, hd, hde⟩ | ⟨e0, hw⟩ | ⟨e0, hw, hb, hpl, hc, hn2⟩ | ⟨e0, hst, hc, hap⟩
    · have hE : EB ha e = .inr (9, [.int (z 116), .int (z (e 1)), .int (z (e 2)), .int (z (e 3))]) := by
        unfold EB
        rw [if_neg (by omega), if_pos e0]
      refine fin hE rfl rfl ?_
      have hl := (gv_lay hP a2 a3 hw (n := (T (e 1).toNat 7 1).toNat) (w := (T (e 1).toNat 7 2).toNat) (m := (T (e 1).toNat 1 (T (e 1).toNat 7 2).toNat).toNat) (by have := hs.2.1; omega) (by have := hs.2.2.1; omega) (by omega) (by omega) hb hf).1
      have elf : e 3 = if decide (e 3 = 1) = true then 1 else 0 := by
        rcases hlf with q | q
        · rw [q]; rfl
        · rw [q]; rfl
      have he9 : blk h t 57 (TB t ha (pDone T)) ea = some (.inr (9, [.int (z 116), .int (z (((e 1).toNat : Nat) : Int)), .int (z (((e 2).toNat : Nat) : Int)), .int (z (if decide (e 3 = 1) = true then 1 else 0))])) := by
        rw [hed, hE, ← e1, ← elf, show (((e 2).toNat : Nat) : Int) = e 2 by omega]
      have s := sp_76 (E := E) (d := d) (sz := sz) (lf := decide (e 3 = 1)) hTd he9 hgc1 (by omega) hip hHd hdj (n := (T (e 1).toNat 7 1).toNat) (by rw [hnd]; have := hs.2.1; omega) (by omega) (by omega) (w := (T (e 1).toNat 7 2).toNat) (by rw [hnd]; have := hs.2.2.1; omega) (by have := hs.2.2.1; omega) (m := (T (e 1).toNat 1 (T (e 1).toNat 7 2).toNat).toNat) (by rw [hnd]; omega) hhd (WH_1 _) (by omega)
      rw [blk_blk, hnd] at s
      rw [pd, pn (by omega) (by omega)]
      unfold gDo
      rw [if_pos e0]
      exact s
    · have hE : EB ha e = .inr (8, [.int (z 100), .int (z (e 1))]) := by
        unfold EB
        rw [if_neg (by omega), if_neg (by omega), if_pos e0]
      refine fin hE rfl rfl ?_
      have ho := a2.2.2.2.1 (T (e 1).toNat 7 0).toNat (Nat.le_refl _) (by have := hs.1; omega)
      have he9 : blk h t 57 (TB t ha (pDone T)) ea = some (.inr (8, [.int (z 100), .int (z (((e 1).toNat : Nat) : Int))])) := by rw [hed, hE, ← e1]
      have s := sp_74 (E := E) (d := d) (sz := sz) hTd he9 hgc1 (by omega) hip hHd (w := (T (e 1).toNat 7 2).toNat) (by rw [hnd]; have := hs.2.2.1; omega) (by have := hs.2.2.1; omega) (de := (T (e 1).toNat 7 0).toNat) (by rw [hnd]; have := hs.1; omega) (by have := hs.1; omega) (WH_5 _) (by omega) (m := (T (e 1).toNat 1 (T (e 1).toNat 7 2).toNat).toNat) (by rw [hnd]; omega) (o := (T (e 1).toNat 0 (T (e 1).toNat 7 0).toNat).toNat) (by rw [hnd]; omega) (by omega)
      rw [blk_blk, hnd] at s
      rw [pd, pn (by omega) (by omega)]
      unfold gDo
      rw [if_neg (by omega), if_pos e0]
      exact s
    · have hE : EB ha e = .inr (10, [.int (z 112), .int (z (e 1))]) := by
        unfold EB
        rw [if_neg (by omega), if_neg (by omega), if_neg (by omega), if_pos e0]
      refine fin hE rfl rfl ?_
      have he9 : blk h t 57 (TB t ha (pDone T)) ea = some (.inr (10, [.int (z 112), .int (z (((e 1).toNat : Nat) : Int))])) := by rw [hed, hE, ← e1]
      have s := sp_78 (E := E) (d := d) (sz := sz) hTd he9 hgc1 (by omega) hip hHd hdj (WH_5 _) (by omega) (WH_1 _) (by omega) (by rw [hnd]; have := hs.2.2.2.2.2.2.2.2.1; omega) (fun k hk' => by rw [hnd]; exact ⟨(a2.2.2.1 k hk').1, pip_b hP _⟩) (w := T (e 1).toNat 7 2) (by rw [hnd]) (by have := hs.2.2.1; omega) (by rw [hnd]; have := hs.2.2.2.2.1; omega)
      rw [blk_blk, hnd] at s
      rw [pd, pn (by omega) (by omega)]
      unfold gDo
      rw [if_neg (by omega), if_neg (by omega), if_pos e0]
      exact s
    · have hE : EB ha e = .inr (3, [.int (z 98), .int (z (e 1)), .int (z (e 2)), .int (z (e 3)), .int (z (e 4))]) := by
        unfold EB
        rw [if_neg (by omega), if_neg (by omega), if_neg (by omega), if_neg (by omega), if_pos e0]
      refine fin hE rfl rfl ?_
      have he9 : blk h t 57 (TB t ha (pDone T)) ea = some (.inr (3, [.int (z 98), .int (z (((e 1).toNat : Nat) : Int)), .int (z (((e 2).toNat : Nat) : Int)), .int (z (e 3)), .int (z (e 4))])) := by rw [hed, hE, ← e1, show (((e 2).toNat : Nat) : Int) = e 2 by omega]
      have s11 := hs.2.2.2.2.2.2.2.2.2.2
      have s := sp_14 (E := E) (d := d) (sz := sz) hTd he9 hgc1 (by omega) hip (n := (T (e 1).toNat 7 9).toNat) (by rw [hnd]; omega) (by omega) (by omega)
      rw [blk_blk] at s
      have et : t_bet (pDone T) (e 1).toNat (T (e 1).toNat 7 9).toNat (e 2).toNat (e 3) (e 4) = pDo H (pDone T) e := by
        rw [pd]
        unfold t_bet pur gDo
        rw [if_pos e0, if_neg (by omega), if_neg (by omega), if_neg (by omega), if_pos e0, hnd, show (((e 2).toNat : Nat) : Int) = e 2 by omega]
      rw [et] at s
      exact s
    · have hE : EB ha e = .inr (2, [.int (z 97), .int (z (e 1)), .int (z (e 2))]) := by
        unfold EB
        rw [if_neg (by omega), if_neg (by omega), if_neg (by omega), if_neg (by omega), if_neg (by omega)]
      refine fin hE rfl rfl ?_
      have he9 : blk h t 57 (TB t ha (pDone T)) ea = some (.inr (2, [.int (z 97), .int (z (((e 1).toNat : Nat) : Int)), .int (z (e 2))])) := by rw [hed, hE, ← e1]
      have s11 := hs.2.2.2.2.2.2.2.2.2.2
      have s := sp_12 (E := E) (d := d) (sz := sz) hTd he9 hea hgc1 (by omega) hip hHd hdj (nb := (T (e 1).toNat 7 9).toNat) (by rw [hnd]; omega) (by omega) (fun k hk' => by rw [hnd]; exact (a2.2.1.2 k hk').1) (WH_5 _) (by omega) (WH_1 _) (by omega) (by omega) (fun k hk' => by rw [hnd]; exact ⟨(a2.2.2.1 k hk').1, pip_b hP _⟩)
      rw [blk_blk] at s
      have et : t_apl (pDone T) (WH (H (hxi T (e 1).toNat))) (e 1).toNat (szN (H (hxi T (e 1).toNat) 0)) (H (hxi T (e 1).toNat) 1) (T (e 1).toNat 7 9).toNat (e 2) = pDo H (pDone T) e := by
        rw [pd]
        unfold t_apl pur gDo
        rw [if_neg (show ¬ e 0 = 98 by omega), if_pos e0, if_neg (by omega), if_neg (by omega), if_neg (by omega), if_neg (by omega), hnd]
      rw [et] at s
      exact s
end PERF
