/-! ===== pure: tables, entries ===== -/
def hxi (T : TT) (i : Nat) : Nat := (T i 7 11).toNat
def gFin (G : GS) : GS := if G 7 6 = -2 then G else b_shr G (G 7 6) (G 7 9).toNat
def tBeg (H : HT) (T : TT) (e : Nat → Int) : TT := tG (tS T 1 (T 6 1 1 + 1)) (T 6 1 1).toNat (wiH (gBeg (H (e 2).toNat) (T (T 6 1 1).toNat) (e 3)) (e 2))
def pur (T : TT) (e : Nat → Int) : TT := if e 0 = 98 then tP T (st1 (T 6 0) (e 2).toNat (T 6 0 (e 2).toNat + -(e 4))) else if e 0 = 97 then t_bck T (e 1).toNat (T (e 1).toNat 7 9).toNat else T
def pDo (H : HT) (T : TT) (e : Nat → Int) : TT := if e 0 = 103 then tBeg H T e else tG (pur T e) (e 1).toNat (gDo (H (hxi T (e 1).toNat)) (T (e 1).toNat) e)
def pFin (T : TT) (i : Nat) : TT := t_fin T i (T i 7 9).toNat
def pDone (T : TT) : TT := tS T 0 (T 6 1 0 + 1)
def pStep (H : HT) (T : TT) (e : Nat → Int) : TT := pFin (pDo H (pDone T) e) (e 1).toNat
def hsOK (H : HT) (nh : Nat) : Prop := nh ≤ 4 ∧ ∀ i, i < nh → hOK (H i)
def TV (H : HT) (nh : Nat) (T : TT) : Prop := (0 ≤ T 6 1 1 ∧ T 6 1 1 ≤ 6) ∧ ∀ i : Nat, (i : Int) < T 6 1 1 → (0 ≤ T i 7 11 ∧ T i 7 11 < (nh : Int)) ∧ gv (H (hxi T i)) (T i) ∧ gvP (T i)
def vE (H : HT) (nh : Nat) (T : TT) (e : Nat → Int) : Prop := (e 0 = 103 ∧ e 1 = T 6 1 1 ∧ T 6 1 1 < 6 ∧ (0 ≤ e 2 ∧ e 2 < (nh : Int)) ∧ (0 ≤ e 3 ∧ e 3 ≤ 999999)) ∨ ((0 ≤ e 1 ∧ e 1 < T 6 1 1) ∧ vG (H (hxi T (e 1).toNat)) (T (e 1).toNat) e ∧ (e 0 = 98 → e 4 ≤ T 6 0 (e 2).toNat))
def tEq (H : HT) (T K : TT) : Prop := (∀ k, k < 3 → K 6 1 k = T 6 1 k) ∧ (∀ b, b < 4 → K 6 0 b = T 6 0 b) ∧ ∀ i : Nat, (i : Int) < T 6 1 1 → gEq (H (hxi T i)) (T i) (K i)
section TP
variable {H : HT} {nh : Nat} {T K : TT} {e : Nat → Int}
theorem vG_n (P : Nat → Nat) (G : GS) (h : vG P G e) : e 0 ≠ 103 := by
  rcases h with ⟨h, -⟩ | ⟨h, -⟩ | ⟨h, -⟩ | ⟨h, -⟩ | ⟨h, -⟩ <;> omega
theorem pFin_g (i j : Nat) (hi : i < 6) (hj : j < 6) : pFin T i j = if j = i then gFin (T i) else T j := by
  unfold pFin t_fin gFin
  by_cases hw : T i 7 6 = -2
  · rw [if_pos hw, if_pos hw]
    by_cases hji : j = i
    · rw [if_pos hji, hji]
    · rw [if_neg hji]
  · rw [if_neg hw, if_neg hw]
    unfold t_pay t_shr
    rw [tP_g hj, tS_g hj]
    rfl
theorem pFin_6 (i : Nat) (hi : i < 6) : pFin T i 6 1 0 = T 6 1 0 ∧ pFin T i 6 1 1 = T 6 1 1 := by
  unfold pFin t_fin
  by_cases hw : T i 7 6 = -2
  · rw [if_pos hw]
    exact ⟨rfl, rfl⟩
  · rw [if_neg hw]
    have e1 : tG T i (b_shr (T i) (T i 7 6) (T i 7 9).toNat) 6 = T 6 := tG_6 hi
    constructor
    · show tG T i _ 6 1 0 = _
      rw [e1]
    · show tG T i _ 6 1 1 = _
      rw [e1]
theorem pur_g (j : Nat) (hj : j < 6) : pur T e j = T j := by
  unfold pur
  split
  · exact tP_g hj
  · split
    · unfold t_bck
      rw [tP_g hj, tS_g hj]
    · rfl
theorem pur_6 : pur T e 6 1 0 = T 6 1 0 ∧ pur T e 6 1 1 = T 6 1 1 := by
  unfold pur
  split
  · exact ⟨rfl, rfl⟩
  · split
    · exact ⟨rfl, rfl⟩
    · exact ⟨rfl, rfl⟩
/- the game that an entry is of, behind it -/
def gNew (H : HT) (T : TT) (e : Nat → Int) : GS := if e 0 = 103 then wiH (gBeg (H (e 2).toNat) (T (T 6 1 1).toNat) (e 3)) (e 2) else gDo (H (hxi T (e 1).toNat)) (T (e 1).toNat) e
theorem vE_i (hT : TV H nh T) (hv : vE H nh T e) : (e 1).toNat < 6 ∧ 0 ≤ e 1 := by
  obtain ⟨h1, -⟩ := hT
  rcases hv with ⟨-, h2, h3, -⟩ | ⟨h2, -⟩ <;> omega
theorem pDo_g (hT : TV H nh T) (hv : vE H nh T e) (j : Nat) (hj : j < 6) : pDo H T e j = if j = (e 1).toNat then gNew H T e else T j := by
  unfold pDo gNew
  rcases hv with ⟨h0, h2, h3, -⟩ | ⟨h2, h3, -⟩
  · rw [if_pos h0, if_pos h0, h2]
    unfold tBeg tG
    rw [tS_g hj]
  · rw [if_neg (vG_n _ _ h3), if_neg (vG_n _ _ h3)]
    unfold tG
    rw [pur_g j hj]
theorem pDo_6 (hT : TV H nh T) (hv : vE H nh T e) : pDo H T e 6 1 0 = T 6 1 0 ∧ pDo H T e 6 1 1 = if e 0 = 103 then T 6 1 1 + 1 else T 6 1 1 := by
  have hi := vE_i hT hv
  unfold pDo
  rcases hv with ⟨h0, h2, h3, -⟩ | ⟨h2, h3, -⟩
  · rw [if_pos h0, if_pos h0]
    unfold tBeg
    rw [tG_6 (by have := hT.1; omega)]
    exact ⟨rfl, rfl⟩
  · rw [if_neg (vG_n _ _ h3), if_neg (vG_n _ _ h3), tG_6 hi.1]
    exact pur_6
theorem pDone_g (j : Nat) (hj : j < 6) : pDone T j = T j := tS_g hj
theorem pDone_6 : pDone T 6 1 0 = T 6 1 0 + 1 ∧ pDone T 6 1 1 = T 6 1 1 ∧ pDone T 6 1 2 = T 6 1 2 ∧ pDone T 6 0 = T 6 0 := ⟨rfl, rfl, rfl, rfl⟩
theorem hx_d (j : Nat) (hj : j < 6) : hxi (pDone T) j = hxi T j := by
  unfold hxi
  rw [pDone_g j hj]
theorem TV_d (hT : TV H nh T) : TV H nh (pDone T) := by
  obtain ⟨h1, h2⟩ := hT
  refine ⟨h1, fun i hi => ?_⟩
  have hi' : (i : Int) < T 6 1 1 := hi
  rw [hx_d i (by omega), pDone_g i (by omega)]
  exact h2 i hi'
theorem vE_d (hT : TV H nh T) (hv : vE H nh T e) : vE H nh (pDone T) e := by
  have hi := vE_i hT hv
  rcases hv with h | ⟨h1, h2, h3⟩
  · exact Or.inl h
  · refine Or.inr ⟨h1, ?_, h3⟩
    rw [hx_d _ hi.1, pDone_g _ hi.1]
    exact h2
/- the house of the game stays -/
theorem gDo_h (P : Nat → Nat) (G : GS) : gDo P G e 7 11 = G 7 11 := by
  unfold gDo
  split
  · rfl
  · split
    · rfl
    · split
      · unfold g_skip
        split <;> rfl
      · split
        · rfl
        · rfl
theorem gFin_h (G : GS) : gFin G 7 = G 7 := by
  unfold gFin
  split <;> rfl
theorem gNew_h (hT : TV H nh T) (hv : vE H nh T e) : gNew H T e 7 11 = if e 0 = 103 then e 2 else T (e 1).toNat 7 11 := by
  unfold gNew
  split
  · rfl
  · exact gDo_h _ _
/- all valid again -/
theorem gNew_v (hH : hsOK H nh) (hT : TV H nh T) (hv : vE H nh T e) : (0 ≤ gNew H T e 7 11 ∧ gNew H T e 7 11 < (nh : Int)) ∧ gv (H (gNew H T e 7 11).toNat) (gNew H T e) ∧ (gNew H T e 7 6 = -2 → gvP (gNew H T e)) := by
  have hh := gNew_h hT hv
  rcases hv with ⟨h0, h2, h3, h4, h5⟩ | ⟨h2, h3, -⟩
  · rw [if_pos h0] at hh
    rw [hh]
    refine ⟨h4, ?_⟩
    unfold gNew
    rw [if_pos h0]
    have := gv_beg (hH.2 (e 2).toNat (by omega)) (T (T 6 1 1).toNat) (e 3) (e 2)
    exact ⟨this.1, fun _ => this.2⟩
  · have hn := vG_n _ _ h3
    rw [if_neg hn] at hh
    rw [hh]
    obtain ⟨a1, a2, a3⟩ := hT.2 (e 1).toNat (by omega)
    refine ⟨a1, ?_⟩
    unfold gNew
    rw [if_neg hn]
    exact gv_do (hH.2 (hxi T (e 1).toNat) (by unfold hxi; omega)) a2 a3 h3
theorem gFin_v {P : Nat → Nat} {G : GS} (hP : hOK P) (h : gv P G) (hp : G 7 6 = -2 → gvP G) : gv P (gFin G) ∧ gvP (gFin G) := by
  unfold gFin
  by_cases hw : G 7 6 = -2
  · rw [if_pos hw]
    exact ⟨h, hp hw⟩
  · rw [if_neg hw]
    exact gv_shr hP h hw
theorem pStep_g (hT : TV H nh T) (hv : vE H nh T e) (j : Nat) (hj : j < 6) : pStep H T e j = if j = (e 1).toNat then gFin (gNew H T e) else T j := by
  have hi := vE_i hT hv
  have hTd := TV_d hT
  have hvd := vE_d hT hv
  unfold pStep
  rw [pFin_g _ _ hi.1 hj, pDo_g hTd hvd j hj, pDo_g hTd hvd _ hi.1, if_pos rfl]
  have e1 : gNew H (pDone T) e = gNew H T e := by
    unfold gNew
    rw [hx_d _ hi.1, pDone_g _ hi.1, pDone_6.2.1]
    by_cases h0 : e 0 = 103
    · rw [if_pos h0, if_pos h0]
      rcases hv with ⟨-, h2, h3, -⟩ | ⟨h2, h3, -⟩
      · rw [pDone_g _ (by have := hT.1; omega)]
      · exact absurd h0 (vG_n _ _ h3)
    · rw [if_neg h0, if_neg h0]
  rw [e1]
  by_cases hji : j = (e 1).toNat
  · rw [if_pos hji, if_pos hji]
  · rw [if_neg hji, if_neg hji, if_neg hji, pDone_g j hj]
theorem pStep_6 (hT : TV H nh T) (hv : vE H nh T e) : pStep H T e 6 1 0 = T 6 1 0 + 1 ∧ pStep H T e 6 1 1 = if e 0 = 103 then T 6 1 1 + 1 else T 6 1 1 := by
  have hi := vE_i hT hv
  have := pDo_6 (TV_d hT) (vE_d hT hv)
  unfold pStep
  rw [(pFin_6 _ hi.1).1, (pFin_6 _ hi.1).2, this.1, this.2]
  exact ⟨rfl, rfl⟩
theorem pStep_h (hT : TV H nh T) (hv : vE H nh T e) (j : Nat) (hj : j < 6) : pStep H T e j 7 11 = if j = (e 1).toNat then gNew H T e 7 11 else T j 7 11 := by
  rw [pStep_g hT hv j hj]
  by_cases hji : j = (e 1).toNat
  · rw [if_pos hji, if_pos hji, gFin_h]
  · rw [if_neg hji, if_neg hji]
theorem TV_s (hH : hsOK H nh) (hT : TV H nh T) (hv : vE H nh T e) : TV H nh (pStep H T e) := by
  have hi := vE_i hT hv
  have h6 := (pStep_6 hT hv).2
  obtain ⟨n1, n2, n3⟩ := gNew_v hH hT hv
  have hT' := hT
  obtain ⟨h1, h2⟩ := hT
  refine ⟨?_, fun j hj => ?_⟩
  · rw [h6]
    rcases hv with ⟨h0, -, h3, -⟩ | ⟨-, h3, -⟩
    · rw [if_pos h0]; omega
    · rw [if_neg (vG_n _ _ h3)]; exact h1
  · have hj6 : j < 6 := by
      rw [h6] at hj
      rcases hv with ⟨h0, -, h3, -⟩ | ⟨-, h3, -⟩
      · rw [if_pos h0] at hj; omega
      · rw [if_neg (vG_n _ _ h3)] at hj; omega
    unfold hxi
    rw [pStep_h hT' hv j hj6, pStep_g hT' hv j hj6]
    by_cases hji : j = (e 1).toNat
    · rw [if_pos hji, if_pos hji]
      exact ⟨n1, gFin_v (hH.2 _ (by omega)) n2 n3⟩
    · rw [if_neg hji, if_neg hji]
      refine h2 j ?_
      rw [h6] at hj
      rcases hv with ⟨h0, q2, h3, -⟩ | ⟨-, h3, -⟩
      · rw [if_pos h0] at hj; omega
      · rw [if_neg (vG_n _ _ h3)] at hj; exact hj
/- alike tables stay alike -/
theorem tEq_r : tEq H T T := ⟨fun _ _ => rfl, fun _ _ => rfl, fun _ _ => gEq_r _ _⟩
theorem tEq_hx (q : tEq H T K) {i : Nat} (hi : (i : Int) < T 6 1 1) : hxi K i = hxi T i := by
  unfold hxi
  rw [(q.2.2 i hi).2]
theorem tEq_s (q : tEq H T K) : tEq H K T := by
  have q' := q
  obtain ⟨q1, q2, q3⟩ := q
  refine ⟨fun k hk => (q1 k hk).symm, fun b hb => (q2 b hb).symm, fun i hi => ?_⟩
  rw [q1 1 (by decide)] at hi
  rw [tEq_hx q' hi]
  exact gEq_s (q3 i hi)
theorem tEq_t {L : TT} (q : tEq H T K) (q' : tEq H K L) : tEq H T L := by
  refine ⟨fun k hk => (q'.1 k hk).trans (q.1 k hk), fun b hb => (q'.2.1 b hb).trans (q.2.1 b hb), fun i hi => ?_⟩
  have h2 := q'.2.2 i (by rw [q.1 1 (by decide)]; exact hi)
  rw [tEq_hx q hi] at h2
  exact gEq_t (q.2.2 i hi) h2
theorem TV_e (hH : hsOK H nh) (hT : TV H nh T) (q : tEq H T K) : TV H nh K := by
  obtain ⟨h1, h2⟩ := hT
  have e1 := q.1 1 (by decide)
  refine ⟨by rw [e1]; exact h1, fun i hi => ?_⟩
  rw [e1] at hi
  obtain ⟨a1, a2, a3⟩ := h2 i hi
  have q3 := q.2.2 i hi
  rw [tEq_hx q hi, q3.2]
  exact ⟨a1, gv_eq (hH.2 _ (by unfold hxi; omega)) a2 a3 q3⟩
theorem vE_e (hT : TV H nh T) (q : tEq H T K) (hv : vE H nh T e) : vE H nh K e := by
  have e1 := q.1 1 (by decide)
  rcases hv with h | ⟨h1, h2, h3⟩
  · refine Or.inl ?_
    rw [e1]
    exact h
  · refine Or.inr ⟨by rw [e1]; exact h1, ?_, fun h0 => ?_⟩
    · rw [tEq_hx q (by omega)]
      exact vG_eq (hT.2 _ (by omega)).2.1 (q.2.2 _ (by omega)) h2
    · have hb : (e 2).toNat < 4 := by
        rcases h2 with ⟨h, -⟩ | ⟨h, -⟩ | ⟨h, -⟩ | ⟨h, -, h4, -⟩ | ⟨h, -⟩ <;> omega
      rw [q.2.1 _ hb]
      exact h3 h0
theorem mvP_c {f f' bt bt' py py' : Nat → Int} {s : Int} : ∀ n : Nat, (∀ b, b < 4 → f' b = f b) → (∀ k, k < n → bt' k = bt k ∧ py' k = py k ∧ 0 ≤ bt k ∧ bt k < 4) → ∀ b, b < 4 → mvP f' bt' py' s n b = mvP f bt py s n b := by
  intro n
  induction n with
  | zero => intro h _ b hb; exact h b hb
  | succ n ih =>
    intro h hk b hb
    obtain ⟨a1, a2, a3, a4⟩ := hk n (by omega)
    have ih' := ih h (fun k hk' => hk k (by omega))
    show (if b = (bt' n).toNat then mvP f' bt' py' s n (bt' n).toNat + s * py' n else mvP f' bt' py' s n b) = if b = (bt n).toNat then mvP f bt py s n (bt n).toNat + s * py n else mvP f bt py s n b
    rw [a1, a2, ih' b hb, ih' (bt n).toNat (by omega)]
/- the purses and the club behind an entry -/
def curB (G : GS) (b : Nat) : Int := sumTo (fun k => if (G 3 k).toNat = b then G 6 k else 0) (G 7 9).toNat
def payS (G : GS) : Int := sumTo (G 6) (G 7 9).toNat
theorem mvP_v (f bt py : Nat → Int) (s : Int) (b : Nat) : ∀ n : Nat, mvP f bt py s n b = f b + s * sumTo (fun k => if (bt k).toNat = b then py k else 0) n := by
  intro n
  induction n with
  | zero => show f b = f b + s * 0; rw [Int.mul_zero, Int.add_zero]
  | succ n ih =>
    show (if b = (bt n).toNat then mvP f bt py s n (bt n).toNat + s * py n else mvP f bt py s n b) = f b + s * (sumTo (fun k => if (bt k).toNat = b then py k else 0) n + (if (bt n).toNat = b then py n else 0))
    by_cases h : b = (bt n).toNat
    · rw [if_pos h, if_pos h.symm, ← h, ih, Int.mul_add, Int.add_assoc]
    · rw [if_neg h, if_neg (fun q => h q.symm), ih, Int.add_zero]
def purN (T : TT) (e : Nat → Int) (b : Nat) : Int := if e 0 = 98 then (if b = (e 2).toNat then -(e 4) else 0) else if e 0 = 97 then -(curB (T (e 1).toNat) b) else 0
def cluN (T : TT) (e : Nat → Int) : Int := if e 0 = 97 then -(T (e 1).toNat 7 10 - payS (T (e 1).toNat)) else 0
def finP (G : GS) (b : Nat) : Int := if G 7 6 = -2 then 0 else curB (gFin G) b
def finC (G : GS) : Int := if G 7 6 = -2 then 0 else G 7 10 - payS (gFin G)
theorem pur_p (b : Nat) : pur T e 6 0 b = T 6 0 b + purN T e b ∧ pur T e 6 1 2 = T 6 1 2 + cluN T e := by
  unfold pur purN cluN
  by_cases h1 : e 0 = 98
  · rw [if_pos h1, if_pos h1, if_neg (show ¬ e 0 = 97 by omega)]
    refine ⟨?_, (Int.add_zero (T 6 1 2)).symm⟩
    show (if b = (e 2).toNat then _ else _) = _
    by_cases h2 : b = (e 2).toNat
    · rw [if_pos h2, if_pos h2, h2]
    · rw [if_neg h2, if_neg h2, Int.add_zero]
  · rw [if_neg h1, if_neg h1]
    by_cases h2 : e 0 = 97
    · rw [if_pos h2, if_pos h2, if_pos h2]
      refine ⟨?_, ?_⟩
      · show mvP _ _ _ _ _ b = _
        rw [mvP_v, Int.neg_mul, Int.one_mul]
        rfl
      · show T 6 1 2 - _ = _
        rw [Int.sub_eq_add_neg]
        rfl
    · rw [if_neg h2, if_neg h2, if_neg h2, Int.add_zero, Int.add_zero]
      exact ⟨rfl, rfl⟩
theorem pDo_p (hT : TV H nh T) (hv : vE H nh T e) (b : Nat) : pDo H T e 6 0 b = T 6 0 b + purN T e b ∧ pDo H T e 6 1 2 = T 6 1 2 + cluN T e := by
  have hi := vE_i hT hv
  unfold pDo
  rcases hv with ⟨h0, h2, h3, -⟩ | ⟨h2, h3, -⟩
  · rw [if_pos h0]
    unfold tBeg purN cluN
    rw [tG_6 (by have := hT.1; omega), if_neg (by omega), if_neg (by omega), if_neg (by omega), Int.add_zero, Int.add_zero]
    exact ⟨rfl, rfl⟩
  · rw [if_neg (vG_n _ _ h3), tG_6 hi.1]
    exact pur_p b
theorem pFin_p (i : Nat) (hi : i < 6) (b : Nat) : pFin T i 6 0 b = T 6 0 b + finP (T i) b ∧ pFin T i 6 1 2 = T 6 1 2 + finC (T i) := by
  unfold pFin t_fin finP finC gFin
  by_cases hw : T i 7 6 = -2
  · rw [if_pos hw, if_pos hw, if_pos hw, Int.add_zero, Int.add_zero]
    exact ⟨rfl, rfl⟩
  · rw [if_neg hw, if_neg hw, if_neg hw, if_neg hw]
    refine ⟨?_, ?_⟩
    · show mvP _ _ _ _ _ b = _
      rw [mvP_v, Int.one_mul]
      rfl
    · show T 6 1 2 + (T i 7 10 - sumTo (payF (T i) (T i 7 6) (T i 7 9).toNat) (T i 7 9).toNat) = _
      congr 2
      refine sumTo_c _ (fun k hk => ?_)
      show _ = cp _ _ _ k
      unfold cp
      rw [if_pos hk]
theorem pStep_p (hT : TV H nh T) (hv : vE H nh T e) (b : Nat) : pStep H T e 6 0 b = T 6 0 b + purN T e b + finP (gNew H T e) b ∧ pStep H T e 6 1 2 = T 6 1 2 + cluN T e + finC (gNew H T e) := by
  have hi := vE_i hT hv
  have hTd := TV_d hT
  have hvd := vE_d hT hv
  have e1 : gNew H (pDone T) e = gNew H T e := by
    unfold gNew
    rw [hx_d _ hi.1, pDone_g _ hi.1, pDone_6.2.1]
    by_cases h0 : e 0 = 103
    · rw [if_pos h0, if_pos h0]
      rcases hv with ⟨-, h2, h3, -⟩ | ⟨h2, h3, -⟩
      · rw [pDone_g _ (by have := hT.1; omega)]
      · exact absurd h0 (vG_n _ _ h3)
    · rw [if_neg h0, if_neg h0]
  have e2 : purN (pDone T) e b = purN T e b := by
    unfold purN
    rw [pDone_g _ hi.1]
  have e3 : cluN (pDone T) e = cluN T e := by
    unfold cluN
    rw [pDone_g _ hi.1]
  obtain ⟨a1, a2⟩ := pDo_p hTd hvd b
  obtain ⟨b1, b2⟩ := pFin_p (T := pDo H (pDone T) e) (e 1).toNat hi.1 b
  unfold pStep
  rw [b1, b2, a1, a2, pDo_g hTd hvd _ hi.1, if_pos rfl, e1, e2, e3]
  exact ⟨rfl, rfl⟩
/- alike tables stay alike, second half -/
theorem gNew_e (hH : hsOK H nh) (hT : TV H nh T) (q : tEq H T K) (hv : vE H nh T e) : gEq (H (gNew H T e 7 11).toNat) (gNew H T e) (gNew H K e) := by
  have hh := gNew_h hT hv
  unfold gNew at hh ⊢
  rcases hv with ⟨h0, h2, h3, h4, h5⟩ | ⟨h2, h3, -⟩
  · rw [if_pos h0] at hh ⊢
    rw [if_pos h0] at hh
    rw [hh, if_pos h0, q.1 1 (by decide)]
    exact eq_beg (hH.2 (e 2).toNat (by omega)) _ _ _ _
  · have hn := vG_n _ _ h3
    rw [if_neg hn] at hh ⊢
    rw [if_neg hn] at hh
    rw [hh, if_neg hn, tEq_hx q (by omega)]
    obtain ⟨a1, a2, a3⟩ := hT.2 (e 1).toNat (by omega)
    exact eq_do (hH.2 (hxi T (e 1).toNat) (by unfold hxi; omega)) a2 (q.2.2 _ (by omega)) h3
theorem gFin_e {P : Nat → Nat} {G L : GS} (hG : 0 ≤ G 7 9) (q : gEq P G L) : gEq P (gFin G) (gFin L) := by
  unfold gFin
  rw [q.1.1 6 (by decide)]
  split
  · exact q
  · have := eq_shr hG q
    rw [q.1.1 6 (by decide)] at this
    exact this
theorem curB_e {P : Nat → Nat} {G L : GS} (q : gEq P G L) (b : Nat) : curB L b = curB G b ∧ payS L = payS G ∧ L 7 10 = G 7 10 ∧ L 7 6 = G 7 6 := by
  obtain ⟨⟨h7, ht, h9, h10, hb⟩, h11⟩ := q
  unfold curB payS
  rw [h9]
  refine ⟨sumTo_c _ (fun k hk => ?_), sumTo_c _ (fun k hk => ?_), h10, h7 6 (by decide)⟩
  · obtain ⟨a1, a2, a3, a4⟩ := hb k (by omega)
    rw [a1, a4]
  · exact (hb k (by omega)).2.2.2
theorem tEq_st (hH : hsOK H nh) (hT : TV H nh T) (q : tEq H T K) (hv : vE H nh T e) : tEq H (pStep H T e) (pStep H K e) := by
  have hi := vE_i hT hv
  have hTK := TV_e hH hT q
  have hvK := vE_e hT q hv
  have gn := gNew_e hH hT q hv
  have gvn := gNew_v hH hT hv
  have gf := gFin_e (by have := gvn.2.1.1.2.2.2.2.2.2.2.2.2.2; omega) gn
  have e10 := q.1 0 (by decide)
  have e11 := q.1 1 (by decide)
  have e12 := q.1 2 (by decide)
  have hpn : ∀ b, purN K e b = purN T e b ∧ cluN K e = cluN T e := by
    intro b
    unfold purN cluN
    rcases hv with ⟨h0, -⟩ | ⟨h2, h3, -⟩
    · rw [if_neg (by omega), if_neg (by omega), if_neg (by omega), if_neg (by omega), if_neg (by omega), if_neg (by omega)]
      exact ⟨rfl, rfl⟩
    · obtain ⟨c1, c2, c3, -⟩ := curB_e (q.2.2 (e 1).toNat (by omega)) b
      rw [c1, c2, c3]
      exact ⟨rfl, rfl⟩
  have hfn : ∀ b, finP (gNew H K e) b = finP (gNew H T e) b ∧ finC (gNew H K e) = finC (gNew H T e) := by
    intro b
    unfold finP finC
    obtain ⟨c1, c2, c3, c4⟩ := curB_e gn b
    obtain ⟨d1, d2, d3, d4⟩ := curB_e gf b
    rw [c4, c3, d1, d2]
    exact ⟨rfl, rfl⟩
  refine ⟨fun k hk => ?_, fun b hb => ?_, fun i hi2 => ?_⟩
  · match k, hk with
    | 0, _ => rw [(pStep_6 hTK hvK).1, (pStep_6 hT hv).1, e10]
    | 1, _ => rw [(pStep_6 hTK hvK).2, (pStep_6 hT hv).2, e11]
    | 2, _ => rw [(pStep_p hTK hvK 0).2, (pStep_p hT hv 0).2, e12, (hpn 0).2, (hfn 0).2]
  · rw [(pStep_p hTK hvK b).1, (pStep_p hT hv b).1, q.2.1 b hb, (hpn b).1, (hfn b).1]
  · have hi6 : i < 6 := by have := (TV_s hH hT hv).1; omega
    unfold hxi
    rw [pStep_h hT hv i hi6, pStep_g hT hv i hi6, pStep_g hTK hvK i hi6]
    by_cases hji : i = (e 1).toNat
    · rw [if_pos hji, if_pos hji, if_pos hji]
      exact gf
    · rw [if_neg hji, if_neg hji, if_neg hji]
      refine q.2.2 i ?_
      rw [(pStep_6 hT hv).2] at hi2
      rcases hv with ⟨h0, q2, h3, -⟩ | ⟨-, h3, -⟩
      · rw [if_pos h0] at hi2; omega
      · rw [if_neg (vG_n _ _ h3)] at hi2; exact hi2
end TP
