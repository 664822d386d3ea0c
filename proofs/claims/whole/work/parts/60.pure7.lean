section MON2
variable {H : HT} {nh : Nat} {T : TT} {e : Nat → Int}
theorem sumN_sm {f : Nat → Nat} : ∀ n : Nat, (∀ k, k < n → f k ≤ 1) → sumN f n ≤ n := by
  intro n
  induction n with
  | zero => intro _; exact Nat.le_refl _
  | succ n ih =>
    intro h
    have := ih (fun k hk => h k (by omega))
    have := h n (by omega)
    show sumN f n + f n ≤ n + 1
    omega
/- what follows of the sums -/
theorem TM_f (hH : hsOK H nh) (hT : TV H nh T) (hM : TM H T) : (∀ i : Nat, (i : Int) < T 6 1 1 → 0 ≤ T i 7 10 ∧ T i 7 10 ≤ 30000) ∧ (∀ b, b < 4 → -60000 ≤ T 6 0 b ∧ T 6 0 b ≤ 60000) ∧ (0 ≤ T 6 1 2 ∧ T 6 1 2 ≤ 60000) ∧ (0 ≤ sumTo (fun i => oC (T i)) (T 6 1 1).toNat ∧ sumTo (fun i => oC (T i)) (T 6 1 1).toNat ≤ 30000) ∧ (∀ b, b < 4 → T 6 0 b + sumTo (fun i => oC (T i)) (T 6 1 1).toNat ≤ 400 + sumTo (fun i => vC (T i)) (T 6 1 1).toNat) ∧ (∀ b, b < 4 → ∀ i : Nat, (i : Int) < T 6 1 1 → 0 ≤ tB2 (H (hxi T i)) (T i) b) := by
  obtain ⟨m1, m2, m3, m4, m5⟩ := hM
  have hgc := hT.1
  have hf : ∀ i, i < (T 6 1 1).toNat → (hOK (H (hxi T i)) ∧ gv (H (hxi T i)) (T i) ∧ gvP (T i)) := fun i hi => by
    obtain ⟨a1, a2, a3⟩ := hT.2 i (by omega)
    exact ⟨hH.2 _ (by unfold hxi; omega), a2, a3⟩
  have nn : ∀ i, i < (T 6 1 1).toNat → 0 ≤ oC (T i) ∧ 0 ≤ vC (T i) ∧ 0 ≤ lC (T i) ∧ lC (T i) ≤ vC (T i) := fun i hi => nn_C (hf i hi).2.1 (hf i hi).2.2
  have o0 := sumTo_nn (f := fun i => oC (T i)) (T 6 1 1).toNat (fun i hi => (nn i hi).1)
  have v0 := sumTo_nn (f := fun i => vC (T i)) (T 6 1 1).toNat (fun i hi => (nn i hi).2.1)
  have l0 := sumTo_nn (f := fun i => lC (T i)) (T 6 1 1).toNat (fun i hi => (nn i hi).2.2.1)
  have lv := sumTo_le (f := fun i => lC (T i)) (g := fun i => vC (T i)) (T 6 1 1).toNat (fun i hi => (nn i hi).2.2.2)
  have hd : sumN (fun i => dC (T i)) (T 6 1 1).toNat ≤ 6 := by
    have := sumN_sm (f := fun i => dC (T i)) (T 6 1 1).toNat (fun i _ => by unfold dC; split <;> omega)
    omega
  have hpow : (2 : Int) ^ (sumN (fun i => dC (T i)) (T 6 1 1).toNat) ≤ 64 := by
    generalize sumN (fun i => dC (T i)) (T 6 1 1).toNat = n at hd
    match n, hd with
    | 0, _ => decide
    | 1, _ => decide
    | 2, _ => decide
    | 3, _ => decide
    | 4, _ => decide
    | 5, _ => decide
    | 6, _ => decide
  have vb : sumTo (fun i => vC (T i)) (T 6 1 1).toNat ≤ 25200 := by omega
  have tn : ∀ b i, i < (T 6 1 1).toNat → 0 ≤ tB2 (H (hxi T i)) (T i) b := fun b i hi => (tB_b (hf i hi).1 (hf i hi).2.1 (hf i hi).2.2).1 b
  have ts : ∀ n, n ≤ (T 6 1 1).toNat → sumTo (fun b => sumTo (fun i => tB2 (H (hxi T i)) (T i) b) n) 4 ≤ sumTo (fun i => vC (T i)) n + sumTo (fun i => lC (T i)) n := by
    intro n
    induction n with
    | zero => intro _; show (0 : Int) + 0 + 0 + 0 + 0 ≤ 0 + 0; decide
    | succ n ih =>
      intro hn
      have h1 := ih (by omega)
      have h2 := (tB_b (hf n (by omega)).1 (hf n (by omega)).2.1 (hf n (by omega)).2.2).2
      have e1 : sumTo (fun b => sumTo (fun i => tB2 (H (hxi T i)) (T i) b) (n + 1)) 4 = sumTo (fun b => sumTo (fun i => tB2 (H (hxi T i)) (T i) b) n) 4 + sumTo (tB2 (H (hxi T n)) (T n)) 4 := sumTo_add _ _ 4
      rw [e1]
      show _ ≤ sumTo (fun i => vC (T i)) n + vC (T n) + (sumTo (fun i => lC (T i)) n + lC (T n))
      omega
  have ts' := ts _ (Nat.le_refl _)
  have tnn : ∀ b, 0 ≤ sumTo (fun i => tB2 (H (hxi T i)) (T i) b) (T 6 1 1).toNat := fun b => sumTo_nn _ (fun i hi => tn b i hi)
  have t0 := tnn 0
  have t1 := tnn 1
  have t2 := tnn 2
  have t3 := tnn 3
  have q0 := m3 0 (by decide)
  have q1 := m3 1 (by decide)
  have q2 := m3 2 (by decide)
  have q3 := m3 3 (by decide)
  have e4 : sumTo (fun b => sumTo (fun i => tB2 (H (hxi T i)) (T i) b) (T 6 1 1).toNat) 4 = 0 + sumTo (fun i => tB2 (H (hxi T i)) (T i) 0) (T 6 1 1).toNat + sumTo (fun i => tB2 (H (hxi T i)) (T i) 1) (T 6 1 1).toNat + sumTo (fun i => tB2 (H (hxi T i)) (T i) 2) (T 6 1 1).toNat + sumTo (fun i => tB2 (H (hxi T i)) (T i) 3) (T 6 1 1).toNat := rfl
  have p4 : sumTo (T 6 0) 4 = 0 + T 6 0 0 + T 6 0 1 + T 6 0 2 + T 6 0 3 := rfl
  rw [e4] at ts'
  rw [p4] at m1
  have hb : ∀ b, b < 4 → (-60000 ≤ T 6 0 b ∧ T 6 0 b ≤ 60000) ∧ T 6 0 b + sumTo (fun i => oC (T i)) (T 6 1 1).toNat ≤ 400 + sumTo (fun i => vC (T i)) (T 6 1 1).toNat := by
    intro b hb
    match b, hb with
    | 0, _ => omega
    | 1, _ => omega
    | 2, _ => omega
    | 3, _ => omega
  refine ⟨fun i hi => ?_, fun b hb' => (hb b hb').1, by omega, by omega, fun b hb' => (hb b hb').2, fun b _ i hi => tn b i (by omega)⟩
  have x1 := sumTo_one (f := fun i => oC (T i)) (n := (T 6 1 1).toNat) (k := i) (by omega) (fun i hi => (nn i hi).1)
  have x2 := sumTo_one (f := fun i => vC (T i)) (n := (T 6 1 1).toNat) (k := i) (by omega) (fun i hi => (nn i hi).2.1)
  have x3 : T i 7 10 = oC (T i) ∨ T i 7 10 = vC (T i) := by
    unfold oC vC
    by_cases hw : T i 7 6 = -2
    · rw [if_pos hw]; exact Or.inl rfl
    · rw [if_neg hw, if_neg hw]; exact Or.inr rfl
  have x4 := nn i (by omega)
  omega
/- and they hold again -/
theorem TM_s (hH : hsOK H nh) (hT : TV H nh T) (hM : TM H T) (hv : vE H nh T e) : TM H (pStep H T e) := by
  have hF := TM_f hH hT hM
  obtain ⟨F1, F2, F3, F4, F5, F6⟩ := hF
  obtain ⟨m1, m2, m3, m4, m5⟩ := hM
  have hi := vE_i hT hv
  have hgc := hT.1
  have h6 := (pStep_6 hT hv).2
  have hg := pStep_g hT hv
  have hp := fun b => pStep_p hT hv b
  have hh := pStep_h hT hv
  have p4 : ∀ f : Nat → Int, sumTo f 4 = 0 + f 0 + f 1 + f 2 + f 3 := fun _ => rfl
  rcases hv with ⟨h0, q2, q3, q4, q5⟩ | ⟨q1, q2, q3⟩
  · -- a game begun
    rw [if_pos h0] at h6
    have hn : gNew H T e = wiH (gBeg (H (e 2).toNat) (T (T 6 1 1).toNat) (e 3)) (e 2) := if_pos h0
    have hw : gNew H T e 7 6 = -2 := by rw [hn]; rfl
    have hf : gFin (gNew H T e) = gNew H T e := if_pos hw
    have hc : gNew H T e 7 10 = 0 := by rw [hn]; rfl
    have hs : gNew H T e 7 5 = 0 := by rw [hn]; rfl
    have hpp : ∀ b, pStep H T e 6 0 b = T 6 0 b := fun b => by
      rw [(hp b).1]
      unfold purN finP
      rw [if_neg (by omega), if_neg (by omega), if_pos hw]
      omega
    have hcc : pStep H T e 6 1 2 = T 6 1 2 := by
      rw [(hp 0).2]
      unfold cluN finC
      rw [if_neg (by omega), if_pos hw]
      omega
    have hk : (T 6 1 1 + 1).toNat = (T 6 1 1).toNat + 1 := by omega
    have hother : ∀ i, i < (T 6 1 1).toNat → pStep H T e i = T i := fun i hi' => by rw [hg i (by omega), if_neg (by omega)]
    have hlast : pStep H T e (T 6 1 1).toNat = gNew H T e := by rw [hg _ (by omega), q2, if_pos rfl, hf]
    have ho : oC (gNew H T e) = 0 ∧ vC (gNew H T e) = 0 ∧ lC (gNew H T e) = 0 ∧ dC (gNew H T e) = 0 := by
      unfold oC vC lC dC
      rw [if_pos hw, if_pos hw, if_pos hw, if_pos hw]
      exact ⟨hc, rfl, rfl, rfl⟩
    have ht : ∀ P b, tB2 P (gNew H T e) b = 0 := fun P b => by unfold tB2; rw [if_neg (by omega)]
    have S : ∀ f : GS → Int, f (gNew H T e) = 0 → sumTo (fun i => f (pStep H T e i)) ((T 6 1 1).toNat + 1) = sumTo (fun i => f (T i)) (T 6 1 1).toNat := fun f hf0 => by
      show sumTo (fun i => f (pStep H T e i)) (T 6 1 1).toNat + f (pStep H T e (T 6 1 1).toNat) = _
      rw [hlast, hf0, Int.add_zero]
      exact sumTo_c _ (fun i hi' => by rw [hother i hi'])
    have SN : sumN (fun i => dC (pStep H T e i)) ((T 6 1 1).toNat + 1) = sumN (fun i => dC (T i)) (T 6 1 1).toNat := by
      show sumN (fun i => dC (pStep H T e i)) (T 6 1 1).toNat + dC (pStep H T e (T 6 1 1).toNat) = _
      rw [hlast, ho.2.2.2, Nat.add_zero]
      exact sumN_c _ (fun i hi' => by rw [hother i hi'])
    unfold TM
    rw [h6, hk, S oC ho.1, S vC ho.2.1, S lC ho.2.2.1, SN, hcc]
    refine ⟨?_, m2, fun b hb => ?_, m4, m5⟩
    · rw [p4] at m1 ⊢
      rw [hpp, hpp, hpp, hpp]
      exact m1
    · rw [hpp]
      have : sumTo (fun i => tB2 (H (hxi (pStep H T e) i)) (pStep H T e i) b) ((T 6 1 1).toNat + 1) = sumTo (fun i => tB2 (H (hxi T i)) (T i) b) (T 6 1 1).toNat := by
        show sumTo (fun i => tB2 (H (hxi (pStep H T e) i)) (pStep H T e i) b) (T 6 1 1).toNat + tB2 (H (hxi (pStep H T e) (T 6 1 1).toNat)) (pStep H T e (T 6 1 1).toNat) b = _
        rw [hlast, ht, Int.add_zero]
        exact sumTo_c _ (fun i hi' => by unfold hxi; rw [hother i hi'])
      rw [this]
      exact m3 b hb
  · have hn := vG_n _ _ q2
    rw [if_neg hn] at h6
    have hx : gNew H T e = gDo (H (hxi T (e 1).toNat)) (T (e 1).toNat) e := if_neg hn
    have hxi' : ∀ i, i < 6 → hxi (pStep H T e) i = hxi T i := fun i hi' => by
      unfold hxi
      rw [hh i hi']
      by_cases hie : i = (e 1).toNat
      · rw [if_pos hie, hx, gDo_h, hie]
      · rw [if_neg hie]
    obtain ⟨a1, a2, a3⟩ := hT.2 (e 1).toNat (by omega)
    have hP := hH.2 (hxi T (e 1).toNat) (by unfold hxi; omega)
    have hig : (e 1).toNat < (T 6 1 1).toNat := by omega
    have hother : ∀ i, i < (T 6 1 1).toNat → i ≠ (e 1).toNat → pStep H T e i = T i := fun i hi' hne => by rw [hg i (by omega), if_neg hne]
    have hthis : pStep H T e (e 1).toNat = gFin (gNew H T e) := by rw [hg _ hi.1, if_pos rfl]
    have S : ∀ (f : GS → Int) (c : Int), f (gFin (gNew H T e)) = f (T (e 1).toNat) + c → sumTo (fun i => f (pStep H T e i)) (T 6 1 1).toNat = sumTo (fun i => f (T i)) (T 6 1 1).toNat + c := fun f c hf0 =>
      sumTo_u (w := (e 1).toNat) _ hig (fun k hk hkw => by rw [hother k hk hkw]) (by rw [hthis]; exact hf0)
    have ST : ∀ (b : Nat) (c : Int), tB2 (H (hxi T (e 1).toNat)) (gFin (gNew H T e)) b = tB2 (H (hxi T (e 1).toNat)) (T (e 1).toNat) b + c → sumTo (fun i => tB2 (H (hxi (pStep H T e) i)) (pStep H T e i) b) (T 6 1 1).toNat = sumTo (fun i => tB2 (H (hxi T i)) (T i) b) (T 6 1 1).toNat + c := fun b c hf0 =>
      sumTo_u (w := (e 1).toNat) _ hig (fun k hk hkw => by rw [hxi' k (by omega), hother k hk hkw]) (by rw [hxi' _ hi.1, hthis]; exact hf0)
    by_cases hb98 : e 0 = 98
    · -- a bet
      have hbet : T (e 1).toNat 7 6 = -2 ∧ (0 ≤ e 2 ∧ e 2 < 4) ∧ (0 ≤ e 3 ∧ e 3 < (H (hxi T (e 1).toNat) 1 : Int)) ∧ 1 ≤ e 4 ∧ T (e 1).toNat 7 9 < 10 := by
        rcases q2 with ⟨q, -⟩ | ⟨q, -⟩ | ⟨q, -⟩ | ⟨q, r⟩ | ⟨q, -⟩
        · omega
        · omega
        · omega
        · exact r
        · omega
      obtain ⟨b1, b2, b3, b4, b5⟩ := hbet
      have hG : gNew H T e = b_add (T (e 1).toNat) (T (e 1).toNat 7 9).toNat (e 2) (e 3) (e 4) := by
        rw [hx]
        unfold gDo
        rw [if_neg (by omega), if_neg (by omega), if_neg (by omega), if_pos hb98]
      have hw : gNew H T e 7 6 = -2 := by rw [hG]; exact b1
      have hf : gFin (gNew H T e) = gNew H T e := if_pos hw
      have hc : gNew H T e 7 10 = T (e 1).toNat 7 10 + e 4 := by rw [hG]; rfl
      have hs : gNew H T e 7 5 = 0 := by rw [hG]; exact (show T (e 1).toNat 7 5 = 0 from gv_live hP a2 b1)
      have hpp : ∀ b, pStep H T e 6 0 b = T 6 0 b + (if b = (e 2).toNat then -(e 4) else 0) := fun b => by
        rw [(hp b).1]
        unfold purN finP
        rw [if_pos hb98, if_pos hw, Int.add_zero]
      have hcc : pStep H T e 6 1 2 = T 6 1 2 := by
        rw [(hp 0).2]
        unfold cluN finC
        rw [if_neg (by omega), if_pos hw]
        omega
      have So := S oC (e 4) (by rw [hf]; unfold oC; rw [if_pos hw, if_pos b1, hc])
      have Sv := S vC 0 (by rw [hf]; unfold vC; rw [if_pos hw, if_pos b1]; rfl)
      have Sl := S lC 0 (by rw [hf]; unfold lC; rw [if_pos hw, if_pos b1]; rfl)
      have Sn : sumN (fun i => dC (pStep H T e i)) (T 6 1 1).toNat = sumN (fun i => dC (T i)) (T 6 1 1).toNat := sumN_c _ (fun k hk => by
        by_cases hkw : k = (e 1).toNat
        · rw [hkw, hthis, hf]; unfold dC; rw [if_pos hw, if_pos b1]
        · rw [hother k hk hkw])
      have St := fun b => ST b 0 (by rw [hf]; unfold tB2; rw [if_neg (by omega), if_neg (by have := gv_live hP a2 b1; omega)]; rfl)
      have h4 := q3 hb98
      have h5 := F5 (e 2).toNat (by omega)
      unfold TM
      rw [h6, So, Sv, Sl, Sn, hcc]
      refine ⟨?_, by omega, fun b hb => ?_, by omega, by omega⟩
      · rw [p4] at m1 ⊢
        rw [hpp, hpp, hpp, hpp]
        have hbb : (e 2).toNat < 4 := by omega
        generalize (e 2).toNat = u at hbb
        match u, hbb with
        | 0, _ => simp; omega
        | 1, _ => simp; omega
        | 2, _ => simp; omega
        | 3, _ => simp; omega
      · rw [hpp, St b]
        have x0 := sumTo_nn (f := fun i => tB2 (H (hxi T i)) (T i) b) (T 6 1 1).toNat (fun i hi' => F6 b hb i (by omega))
        by_cases hbe : b = (e 2).toNat
        · rw [if_pos hbe, hbe]
          rw [hbe] at x0
          omega
        · rw [if_neg hbe]
          have := m3 b hb
          omega
    · have C := fun b => chg (b := b) hP a2 a3 q2 hb98
      dsimp only at C
      rw [← hx] at C
      obtain ⟨C1, C2, -, C4⟩ := C 0
      have hpu : ∀ b, pStep H T e 6 0 b = T 6 0 b + ((if e 0 = 97 then -(curB (T (e 1).toNat) b) else 0) + finP (gNew H T e) b) := fun b => by
        rw [(hp b).1]
        unfold purN
        rw [if_neg hb98]
        omega
      have hcl : pStep H T e 6 1 2 = T 6 1 2 + ((if e 0 = 97 then -(T (e 1).toNat 7 10 - payS (T (e 1).toNat)) else 0) + finC (gNew H T e)) := by
        rw [(hp 0).2]
        unfold cluN
        omega
      have Sl := S lC _ C2
      have St := fun b => ST b (tB2 (H (hxi T (e 1).toNat)) (gFin (gNew H T e)) b - tB2 (H (hxi T (e 1).toNat)) (T (e 1).toNat) b) (by omega)
      have So := S oC (oC (gFin (gNew H T e)) - oC (T (e 1).toNat)) (by omega)
      rw [p4] at C1
      unfold TM
      rw [h6, So, Sl, hcl]
      have hfirst : sumTo (pStep H T e 6 0) 4 + (T 6 1 2 + ((if e 0 = 97 then -(T (e 1).toNat 7 10 - payS (T (e 1).toNat)) else 0) + finC (gNew H T e))) + (sumTo (fun i => oC (T i)) (T 6 1 1).toNat + (oC (gFin (gNew H T e)) - oC (T (e 1).toNat))) = 400 := by
        rw [p4] at m1 ⊢
        rw [hpu, hpu, hpu, hpu]
        omega
      have hthird : ∀ b, b < 4 → 0 ≤ pStep H T e 6 0 b + sumTo (fun i => tB2 (H (hxi (pStep H T e) i)) (pStep H T e i) b) (T 6 1 1).toNat := fun b hb => by
        rw [hpu, St b]
        have c3 := (C b).2.2.1
        have := m3 b hb
        omega
      rcases C4 with ⟨c1, c2, c3⟩ | ⟨c1, c2, c3⟩
      · have Sv := S vC 0 (by omega)
        have Sn : sumN (fun i => dC (pStep H T e i)) (T 6 1 1).toNat + 0 = sumN (fun i => dC (T i)) (T 6 1 1).toNat + 0 := sumN_u (w := (e 1).toNat) _ hig (fun k hk hkw => by rw [hother k hk hkw]) (by rw [hthis, c3])
        rw [Sv, show sumN (fun i => dC (pStep H T e i)) (T 6 1 1).toNat = sumN (fun i => dC (T i)) (T 6 1 1).toNat by omega]
        exact ⟨hfirst, by omega, hthird, by omega, by omega⟩
      · have Sv := S vC (oC (T (e 1).toNat)) (by omega)
        have Sn : sumN (fun i => dC (pStep H T e i)) (T 6 1 1).toNat + 0 = sumN (fun i => dC (T i)) (T 6 1 1).toNat + 1 := sumN_u (w := (e 1).toNat) _ hig (fun k hk hkw => by rw [hother k hk hkw]) (by rw [hthis, c3])
        rw [Sv, show sumN (fun i => dC (pStep H T e i)) (T 6 1 1).toNat = sumN (fun i => dC (T i)) (T 6 1 1).toNat + 1 by omega, Int.pow_succ]
        have hf : ∀ i, i < (T 6 1 1).toNat → 0 ≤ oC (T i) := fun i hi' => by
          obtain ⟨x1, x2, x3⟩ := hT.2 i (by omega)
          exact (nn_C x2 x3).1
        have ho : oC (T (e 1).toNat) ≤ sumTo (fun i => oC (T i)) (T 6 1 1).toNat := sumTo_one (f := fun i => oC (T i)) hig hf
        have ho2 := hf _ hig
        exact ⟨hfirst, by omega, hthird, by omega, by omega⟩
end MON2
