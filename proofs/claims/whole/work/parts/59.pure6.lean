/-! ===== pure: the coins ===== -/
def oC (G : GS) : Int := if G 7 6 = -2 then G 7 10 else 0
def vC (G : GS) : Int := if G 7 6 = -2 then 0 else G 7 10
def lC (G : GS) : Int := if G 7 6 = -2 then 0 else G 7 10 - payS G
def shB (G : GS) (w : Int) (b : Nat) : Int := sumTo (fun k => if (G 3 k).toNat = b then payF G w (G 7 9).toNat k else 0) (G 7 9).toNat
def wlP (P : Nat → Nat) (G : GS) : Int := (rw1 (WH P) G (szN (P 0)) (P 1 - 1)).1
def tB2 (P : Nat → Nat) (G : GS) (b : Nat) : Int := if G 7 5 = 1 then shB G (wlP P G) b + shB G (G 7 3) b - curB G b else 0
def dC (G : GS) : Nat := if G 7 6 = -2 then 0 else 1
def TM (H : HT) (T : TT) : Prop := sumTo (T 6 0) 4 + T 6 1 2 + sumTo (fun i => oC (T i)) (T 6 1 1).toNat = 400 ∧ T 6 1 2 = sumTo (fun i => lC (T i)) (T 6 1 1).toNat ∧ (∀ b, b < 4 → 0 ≤ T 6 0 b + sumTo (fun i => tB2 (H (hxi T i)) (T i) b) (T 6 1 1).toNat) ∧ sumTo (fun i => oC (T i)) (T 6 1 1).toNat ≤ 400 + sumTo (fun i => vC (T i)) (T 6 1 1).toNat ∧ sumTo (fun i => vC (T i)) (T 6 1 1).toNat + 400 ≤ 400 * 2 ^ (sumN (fun i => dC (T i)) (T 6 1 1).toNat)
theorem sumTo_add (f g : Nat → Int) : ∀ n : Nat, sumTo (fun k => f k + g k) n = sumTo f n + sumTo g n := by
  intro n
  induction n with
  | zero => rfl
  | succ n ih =>
    show sumTo (fun k => f k + g k) n + (f n + g n) = sumTo f n + f n + (sumTo g n + g n)
    rw [ih]; omega
theorem sumTo_sub (f g : Nat → Int) : ∀ n : Nat, sumTo (fun k => f k - g k) n = sumTo f n - sumTo g n := by
  intro n
  induction n with
  | zero => rfl
  | succ n ih =>
    show sumTo (fun k => f k - g k) n + (f n - g n) = sumTo f n + f n - (sumTo g n + g n)
    rw [ih]; omega
theorem sumTo_u {f g : Nat → Int} {w : Nat} {c : Int} : ∀ n : Nat, w < n → (∀ k, k < n → k ≠ w → f k = g k) → f w = g w + c → sumTo f n = sumTo g n + c := by
  intro n
  induction n with
  | zero => intro h; omega
  | succ n ih =>
    intro hw h e
    show sumTo f n + f n = sumTo g n + g n + c
    by_cases h1 : w = n
    · subst h1
      rw [sumTo_c w (fun k hk => h k (by omega) (by omega)), e]
      omega
    · rw [ih (by omega) (fun k hk => h k (by omega)) e, h n (by omega) (fun q => h1 q.symm)]
      omega
theorem sumTo_b4 {t : Nat → Nat} {x : Nat → Int} : ∀ n : Nat, (∀ k, k < n → t k < 4) → sumTo (fun b => sumTo (fun k => if t k = b then x k else 0) n) 4 = sumTo x n := by
  intro n
  induction n with
  | zero => intro _; rfl
  | succ n ih =>
    intro h
    have h4 := h n (by omega)
    have := ih (fun k hk => h k (by omega))
    have e : sumTo (fun b => sumTo (fun k => if t k = b then x k else 0) (n + 1)) 4 = sumTo (fun b => sumTo (fun k => if t k = b then x k else 0) n) 4 + sumTo (fun b => if t n = b then x n else 0) 4 := sumTo_add _ _ 4
    rw [e, this]
    show _ = sumTo x n + x n
    congr 1
    generalize t n = u at *
    match u, h4 with
    | 0, _ => show (0 : Int) + x n + 0 + 0 + 0 = _; omega
    | 1, _ => show (0 : Int) + 0 + x n + 0 + 0 = _; omega
    | 2, _ => show (0 : Int) + 0 + 0 + x n + 0 = _; omega
    | 3, _ => show (0 : Int) + 0 + 0 + 0 + x n = _; omega
section MON
variable {P : Nat → Nat} {G : GS} {e : Nat → Int}
theorem coin_nn (hB : gvB P G) : 0 ≤ G 7 10 := by
  rw [hB.1]
  exact sumTo_nn _ (fun k hk => by have := (hB.2 k hk).2.2; omega)
/- all that is paid is in the pool -/
theorem pay_le (hB : gvB P G) (w : Int) : sumTo (payF G w (G 7 9).toNat) (G 7 9).toNat ≤ G 7 10 := by
  have hc := coin_nn hB
  by_cases hw : 0 < onW G w (G 7 9).toNat
  · have key : ∀ n, n ≤ (G 7 9).toNat → onW G w (G 7 9).toNat * sumTo (payF G w (G 7 9).toNat) n ≤ G 7 10 * onW G w n := by
      intro n
      induction n with
      | zero => intro _; show _ * (0 : Int) ≤ _ * 0; omega
      | succ n ih =>
        intro hn
        have h1 := ih (by omega)
        have e1 : sumTo (payF G w (G 7 9).toNat) (n + 1) = sumTo (payF G w (G 7 9).toNat) n + payF G w (G 7 9).toNat n := rfl
        have e2 : onW G w (n + 1) = onW G w n + (if G 4 n = w then G 5 n else 0) := rfl
        have e3 : onW G w (G 7 9).toNat * payF G w (G 7 9).toNat n ≤ G 7 10 * (if G 4 n = w then G 5 n else 0) := by
          unfold payF
          by_cases h4 : G 4 n = w
          · rw [if_pos ⟨h4, hw⟩, if_pos h4]
            exact Int.mul_ediv_self_le (by omega)
          · rw [if_neg (fun q => h4 q.1), if_neg h4]
            omega
        rw [e1, e2, Int.mul_add, Int.mul_add]
        omega
    have h2 := key _ (Nat.le_refl _)
    rw [Int.mul_comm] at h2
    exact Int.le_of_mul_le_mul_right h2 hw
  · have : sumTo (payF G w (G 7 9).toNat) (G 7 9).toNat = sumTo (fun _ => 0) (G 7 9).toNat := sumTo_c _ (fun k hk => by unfold payF; rw [if_neg (fun q => hw q.2)])
    rw [this]
    have h0 : ∀ n, sumTo (fun _ => (0 : Int)) n = 0 := by
      intro n
      induction n with
      | zero => rfl
      | succ n ih => show sumTo (fun _ => (0 : Int)) n + 0 = 0; rw [ih]; rfl
    rw [h0]
    exact hc
theorem shB_s (hB : gvB P G) (w : Int) : sumTo (shB G w) 4 ≤ G 7 10 ∧ ∀ b, 0 ≤ shB G w b := by
  refine ⟨?_, fun b => sumTo_nn _ (fun k hk => ?_)⟩
  · have := sumTo_b4 (t := fun k => (G 3 k).toNat) (x := payF G w (G 7 9).toNat) (G 7 9).toNat (fun k hk => by have := (hB.2 k hk).1; omega)
    have h2 := pay_le hB w
    have e : sumTo (shB G w) 4 = sumTo (fun b => sumTo (fun k => if (G 3 k).toNat = b then payF G w (G 7 9).toNat k else 0) (G 7 9).toNat) 4 := rfl
    omega
  · have := pay_nn hB w k hk
    split <;> omega
theorem cur_sh (hp : gvP G) (hw : G 7 6 ≠ -2) (b : Nat) : curB G b = shB G (G 7 6) b ∧ payS G = sumTo (payF G (G 7 6) (G 7 9).toNat) (G 7 9).toNat := by
  refine ⟨sumTo_c _ (fun k hk => ?_), sumTo_c _ (fun k hk => ?_)⟩
  · rw [hp k hk, if_neg hw]
  · rw [hp k hk, if_neg hw]
theorem cur_0 (hp : gvP G) (hw : G 7 6 = -2) (b : Nat) : curB G b = 0 ∧ payS G = 0 := by
  have h0 : ∀ n, sumTo (fun _ => (0 : Int)) n = 0 := by
    intro n
    induction n with
    | zero => rfl
    | succ n ih => show sumTo (fun _ => (0 : Int)) n + 0 = 0; rw [ih]; rfl
  constructor
  · rw [← h0 (G 7 9).toNat]
    refine sumTo_c _ (fun k hk => ?_)
    rw [hp k hk, if_pos hw]
    split <;> rfl
  · rw [← h0 (G 7 9).toNat]
    refine sumTo_c _ (fun k hk => ?_)
    rw [hp k hk, if_pos hw]
theorem pay_m1 (hB : gvB P G) (k : Nat) (hk : k < (G 7 9).toNat) : payF G (-1) (G 7 9).toNat k = 0 := by
  unfold payF
  rw [if_neg (fun q => by have := (hB.2 k hk).2.1; omega)]
theorem cur_s (hB : gvB P G) : sumTo (curB G) 4 = payS G := sumTo_b4 (t := fun k => (G 3 k).toNat) (x := G 6) (G 7 9).toNat (fun k hk => by have := (hB.2 k hk).1; omega)
/- what may be taken back -/
theorem tB_b (hP : hOK P) (h : gv P G) (hp : gvP G) : (∀ b, 0 ≤ tB2 P G b) ∧ sumTo (tB2 P G) 4 ≤ vC G + lC G := by
  have hB := h.2.1
  have hc := coin_nn hB
  by_cases hs : G 7 5 = 1
  · have s7 := h.1.2.2.2.2.2.2.1 hs
    have hw : G 7 6 ≠ -2 := by
      have := ruleW_b (W := WH P) (G := G) (n := szN (P 0)) (np := P 1) (by have := hP.2.1; omega) h.1.2.2.2.1
      omega
    obtain ⟨a1, a2⟩ := shB_s hB (wlP P G)
    obtain ⟨b1, b2⟩ := shB_s hB (G 7 3)
    constructor
    · intro b
      unfold tB2
      rw [if_pos hs, (cur_sh hp hw b).1]
      have x1 := a2 b
      have x2 := b2 b
      have x3 : G 7 6 = wlP P G ∨ G 7 6 = G 7 3 ∨ G 7 6 = -1 := by
        rw [s7]
        unfold ruleW wlP
        split
        · exact Or.inr (Or.inl rfl)
        · split
          · exact Or.inr (Or.inr rfl)
          · exact Or.inl rfl
      rcases x3 with x3 | x3 | x3
      · rw [x3]; omega
      · rw [x3]; omega
      · have : shB G (G 7 6) b = sumTo (fun _ => (0 : Int)) (G 7 9).toNat := sumTo_c _ (fun k hk => by
          rw [x3, pay_m1 hB k hk]
          split <;> rfl)
        have h0 : ∀ n, sumTo (fun _ => (0 : Int)) n = 0 := by
          intro n
          induction n with
          | zero => rfl
          | succ n ih => show sumTo (fun _ => (0 : Int)) n + 0 = 0; rw [ih]; rfl
        rw [this, h0]
        omega
    · have e : sumTo (tB2 P G) 4 = sumTo (shB G (wlP P G)) 4 + sumTo (shB G (G 7 3)) 4 - sumTo (curB G) 4 := by
        rw [← sumTo_add, ← sumTo_sub]
        refine sumTo_c _ (fun b hb => ?_)
        unfold tB2
        rw [if_pos hs]
      rw [e, cur_s hB]
      unfold vC lC
      rw [if_neg hw, if_neg hw]
      omega
  · constructor
    · intro b
      unfold tB2
      rw [if_neg hs]
      exact Int.le_refl _
    · have e : sumTo (tB2 P G) 4 = 0 := by
        show (0 : Int) + tB2 P G 0 + tB2 P G 1 + tB2 P G 2 + tB2 P G 3 = 0
        unfold tB2
        rw [if_neg hs, if_neg hs, if_neg hs, if_neg hs]
        rfl
      rw [e]
      unfold vC lC
      by_cases hw : G 7 6 = -2
      · rw [if_pos hw, if_pos hw]; omega
      · rw [if_neg hw, if_neg hw, (cur_sh hp hw 0).2]
        have := pay_le hB (G 7 6)
        omega
theorem nn_C (h : gv P G) (hp : gvP G) : 0 ≤ oC G ∧ 0 ≤ vC G ∧ 0 ≤ lC G ∧ lC G ≤ vC G := by
  have hB := h.2.1
  have hc := coin_nn hB
  unfold oC vC lC
  by_cases hw : G 7 6 = -2
  · rw [if_pos hw, if_pos hw, if_pos hw]; omega
  · rw [if_neg hw, if_neg hw, if_neg hw, (cur_sh hp hw 0).2]
    have := pay_le hB (G 7 6)
    have h3 := sumTo_nn (f := payF G (G 7 6) (G 7 9).toNat) (G 7 9).toNat (pay_nn hB (G 7 6))
    omega
/- an entry leaves the bets, but for a bet -/
theorem gDo_b (h0 : e 0 ≠ 98) : gDo P G e 3 = G 3 ∧ gDo P G e 4 = G 4 ∧ gDo P G e 5 = G 5 ∧ gDo P G e 6 = G 6 ∧ gDo P G e 7 9 = G 7 9 ∧ gDo P G e 7 10 = G 7 10 := by
  unfold gDo
  by_cases h1 : e 0 = 116
  · rw [if_pos h1]; exact ⟨rfl, rfl, rfl, rfl, rfl, rfl⟩
  · rw [if_neg h1]
    by_cases h2 : e 0 = 100
    · rw [if_pos h2]; exact ⟨rfl, rfl, rfl, rfl, rfl, rfl⟩
    · rw [if_neg h2]
      by_cases h3 : e 0 = 112
      · rw [if_pos h3]
        unfold g_skip
        split <;> exact ⟨rfl, rfl, rfl, rfl, rfl, rfl⟩
      · rw [if_neg h3, if_neg h0]; exact ⟨rfl, rfl, rfl, rfl, rfl, rfl⟩
theorem gFin_b (G : GS) : gFin G 3 = G 3 ∧ gFin G 4 = G 4 ∧ gFin G 5 = G 5 ∧ gFin G 1 = G 1 := by
  unfold gFin
  split <;> exact ⟨rfl, rfl, rfl, rfl⟩
/- the change of one game's sums by an entry that is no bet and no game begun -/
theorem chg (hP : hOK P) (h : gv P G) (hp : gvP G) (hv : vG P G e) (h0 : e 0 ≠ 98) (b : Nat) :
    let K := gFin (gDo P G e)
    let pu := fun b => (if e 0 = 97 then -(curB G b) else 0) + finP (gDo P G e) b
    let cl := (if e 0 = 97 then -(G 7 10 - payS G) else 0) + finC (gDo P G e)
    sumTo pu 4 + cl + oC K = oC G ∧ lC K = lC G + cl ∧ (tB2 P G b ≤ tB2 P K b + pu b) ∧ ((oC K = oC G ∧ vC K = vC G ∧ dC K = dC G) ∨ (oC K = 0 ∧ vC K = vC G + oC G ∧ dC K = dC G + 1)) := by
  dsimp only
  obtain ⟨g1, g2⟩ := gv_do hP h hp hv
  obtain ⟨k1, k2⟩ := gFin_v hP g1 g2
  obtain ⟨r3, r4, r5, r6, r9, r10⟩ := gDo_b (P := P) (G := G) h0
  obtain ⟨f3, f4, f5, f1⟩ := gFin_b (gDo P G e)
  have f7 := gFin_h (gDo P G e)
  have hB := h.2.1
  have tb0 := (tB_b hP k1 k2).1
  have e10 : gFin (gDo P G e) 7 10 = G 7 10 := by rw [f7, r10]
  have e6 : gFin (gDo P G e) 7 6 = gDo P G e 7 6 := by rw [f7]
  by_cases ha : e 0 = 97
  · -- an appeal
    have hst : G 7 5 = 1 ∧ gDo P G e 7 5 = 1 ∧ gDo P G e 7 6 ≠ -2 ∧ gDo P G e 7 3 = G 7 3 ∧ wlP P (gDo P G e) = wlP P G := by
      rcases hv with ⟨q, -⟩ | ⟨q, -⟩ | ⟨q, -⟩ | ⟨q, -⟩ | ⟨q, q1, q2, q3⟩
      · omega
      · omega
      · omega
      · omega
      · have := (gv_judge hP h q1 q2 q3).2
        have eg : gDo P G e = g_judge (WH P) G (e 2) (szN (P 0)) (P 1) := by
          unfold gDo
          rw [if_neg (by omega), if_neg (by omega), if_neg (by omega), if_neg (by omega)]
        rw [eg]
        exact ⟨q1, q1, this, rfl, by unfold wlP; rw [rw1_c (G := G) (K := g_judge (WH P) G (e 2) (szN (P 0)) (P 1)) _ (fun _ _ => rfl)]⟩
    obtain ⟨s1, s2, s3, s4, s5⟩ := hst
    have s7 := h.1.2.2.2.2.2.2.1 s1
    have hw : G 7 6 ≠ -2 := by
      have := ruleW_b (W := WH P) (G := G) (n := szN (P 0)) (np := P 1) (by have := hP.2.1; omega) h.1.2.2.2.1
      omega
    have hwK : gFin (gDo P G e) 7 6 ≠ -2 := by rw [e6]; exact s3
    have hsh : ∀ w b, shB (gFin (gDo P G e)) w b = shB G w b := by
      intro w b
      unfold shB
      rw [f7, r9, f3, r3]
      refine sumTo_c _ (fun k hk => ?_)
      have : payF (gFin (gDo P G e)) w (G 7 9).toNat k = payF G w (G 7 9).toNat k := payF_lk (fun k hk => by rw [f4, r4]) (fun k hk => by rw [f5, r5]) e10 hk
      rw [this]
    have hwl : wlP P (gFin (gDo P G e)) = wlP P G := by
      rw [← s5]
      unfold wlP
      rw [rw1_c _ (fun q _ => by rw [f1])]
    have hpu : (fun b => (if e 0 = 97 then -(curB G b) else 0) + finP (gDo P G e) b) = fun b => curB (gFin (gDo P G e)) b - curB G b := by
      funext b
      unfold finP
      rw [if_pos ha, if_neg s3]
      omega
    rw [hpu, if_pos ha]
    unfold finC finP
    rw [if_neg s3, if_pos ha, if_neg s3, sumTo_sub, cur_s hB, cur_s k1.2.1, r10]
    unfold oC lC vC dC tB2
    rw [if_neg hw, if_neg hw, if_neg hw, if_neg hw, if_neg hwK, if_neg hwK, if_neg hwK, if_neg hwK, e10, if_pos s1, if_pos (show gFin (gDo P G e) 7 5 = 1 by rw [f7]; exact s2), hwl, hsh, show gFin (gDo P G e) 7 3 = G 7 3 by rw [f7]; exact s4, hsh]
    refine ⟨by omega, by omega, by omega, Or.inl ⟨rfl, rfl, rfl⟩⟩
  · have hw : G 7 6 = -2 := by
      rcases hv with ⟨q, q1, -⟩ | ⟨q, q1, -⟩ | ⟨q, q1⟩ | ⟨q, q1, -⟩ | ⟨q, q1, q2, q3⟩
      · exact q1
      · exact q1
      · exact q1
      · exact q1
      · exact absurd q ha
    have hst := gv_live hP h hw
    have ht0 : tB2 P G b = 0 := by unfold tB2; rw [if_neg (by omega)]
    rw [if_neg ha, if_neg ha, ht0]
    by_cases hK : gDo P G e 7 6 = -2
    · have hwK : gFin (gDo P G e) 7 6 = -2 := by rw [e6]; exact hK
      have hpu : (fun b => (if e 0 = 97 then -(curB G b) else 0) + finP (gDo P G e) b) = fun b => 0 := by
        funext b
        unfold finP
        rw [if_neg ha, if_pos hK]
        rfl
      rw [hpu]
      unfold finC finP oC vC lC dC
      rw [if_pos hK, if_pos hK, if_pos hw, if_pos hw, if_pos hw, if_pos hw, if_pos hwK, if_pos hwK, if_pos hwK, if_pos hwK, e10]
      have := tb0 b
      refine ⟨?_, by omega, by omega, Or.inl ⟨rfl, rfl, rfl⟩⟩
      show (0 : Int) + 0 + 0 + 0 + 0 + (0 + 0) + G 7 10 = _
      omega
    · have hwK : gFin (gDo P G e) 7 6 ≠ -2 := by rw [e6]; exact hK
      have hpu : (fun b => (if e 0 = 97 then -(curB G b) else 0) + finP (gDo P G e) b) = curB (gFin (gDo P G e)) := by
        funext b
        unfold finP
        rw [if_neg ha, if_neg hK, Int.zero_add]
      rw [hpu, cur_s k1.2.1]
      unfold finC finP oC vC lC dC
      rw [if_neg hK, if_neg hK, if_pos hw, if_pos hw, if_pos hw, if_pos hw, if_neg hwK, if_neg hwK, if_neg hwK, if_neg hwK, e10, r10]
      have := tb0 b
      have hcn : 0 ≤ curB (gFin (gDo P G e)) b := by
        rw [(cur_sh k2 hwK b).1]
        exact (shB_s k1.2.1 _).2 b
      exact ⟨by omega, by omega, by omega, Or.inr ⟨rfl, by omega, rfl⟩⟩
end MON
