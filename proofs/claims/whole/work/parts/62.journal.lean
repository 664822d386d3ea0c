/-! ===== pure: the journal ===== -/
def At (H : HT) (J : GS) : Nat → TT
  | 0 => T0
  | k + 1 => pStep H (At H J k) (J k)
def vJ (H : HT) (nh : Nat) (J : GS) (n : Nat) : Prop := ∀ k, k < n → vE H nh (At H J k) (J k)
def tix (nh : Nat) (T : TT) : Prop := ∀ i, i < 6 → (T i 7 11).toNat < nh ∨ (T i 7 11).toNat = 4
section JRN
variable {H H' : HT} {nh : Nat} {J J' : GS} {T K : TT} {e : Nat → Int}
theorem TV_0 : TV H nh T0 := ⟨⟨Int.le_refl _, show (0 : Int) ≤ 6 by decide⟩, fun i hi => by have : (i : Int) < 0 := hi; omega⟩
theorem TM_0 : TM H T0 := by
  refine ⟨?_, rfl, fun b hb => ?_, show (0 : Int) ≤ 400 + 0 by decide, show (0 : Int) + 400 ≤ 400 * 2 ^ 0 by decide⟩
  · show (0 : Int) + 100 + 100 + 100 + 100 + 0 + 0 = 400
    decide
  · show 0 ≤ cp 4 (fun _ => 100) (fun _ => 0) b + 0
    unfold cp
    rw [if_pos hb]
    exact show (0 : Int) ≤ 100 + 0 by decide
theorem tix_0 : tix nh T0 := fun i hi => by
  refine Or.inr ?_
  rw [show T0 i = wiH (fun _ _ => 0) 4 from if_neg (by omega)]
  rfl
theorem At_v (hH : hsOK H nh) : ∀ n, vJ H nh J n → TV H nh (At H J n) ∧ TM H (At H J n) := by
  intro n
  induction n with
  | zero => intro _; exact ⟨TV_0, TM_0⟩
  | succ n ih =>
    intro h
    obtain ⟨a1, a2⟩ := ih (fun k hk => h k (by omega))
    exact ⟨TV_s hH a1 (h n (by omega)), TM_s hH a1 a2 (h n (by omega))⟩
theorem vJ_le {n m : Nat} (h : vJ H nh J n) (hm : m ≤ n) : vJ H nh J m := fun k hk => h k (by omega)
theorem At_c : ∀ n, (∀ k, k < n → J' k = J k) → At H J' n = At H J n := by
  intro n
  induction n with
  | zero => intro _; rfl
  | succ n ih =>
    intro h
    show pStep H (At H J' n) (J' n) = pStep H (At H J n) (J n)
    rw [ih (fun k hk => h k (by omega)), h n (by omega)]
theorem vJ_c {n : Nat} (h : vJ H nh J n) (hc : ∀ k, k < n → J' k = J k) : vJ H nh J' n := fun k hk => by
  rw [At_c k (fun j hj => hc j (by omega)), hc k hk]
  exact h k hk
/- more houses change nothing -/
theorem vE_h (hh : ∀ i, i < nh → H' i = H i) (hT : TV H nh T) (hv : vE H nh T e) : pStep H' T e = pStep H T e := by
  have hi := vE_i hT hv
  unfold pStep
  congr 1
  unfold pDo
  rcases hv with ⟨h0, h2, h3, h4, h5⟩ | ⟨h2, h3, -⟩
  · rw [if_pos h0, if_pos h0]
    unfold tBeg
    rw [hh (e 2).toNat (by omega)]
  · rw [if_neg (vG_n _ _ h3), if_neg (vG_n _ _ h3), hx_d _ hi.1]
    have := (hT.2 (e 1).toNat (by omega)).1
    rw [hh (hxi T (e 1).toNat) (by unfold hxi; omega)]
theorem At_h (hh : ∀ i, i < nh → H' i = H i) (hH : hsOK H nh) : ∀ n, vJ H nh J n → At H' J n = At H J n := by
  intro n
  induction n with
  | zero => intro _; rfl
  | succ n ih =>
    intro h
    show pStep H' (At H' J n) (J n) = pStep H (At H J n) (J n)
    rw [ih (fun k hk => h k (by omega))]
    exact vE_h hh (At_v hH n (fun k hk => h k (by omega))).1 (h n (by omega))
theorem TV_h {nh' : Nat} (hh : ∀ i, i < nh → H' i = H i) (hle : nh ≤ nh') (hT : TV H nh T) : TV H' nh' T := by
  refine ⟨hT.1, fun i hi => ?_⟩
  obtain ⟨a1, a2, a3⟩ := hT.2 i hi
  rw [hh (hxi T i) (by unfold hxi; omega)]
  exact ⟨by omega, a2, a3⟩
theorem vE_hh {nh' : Nat} (hh : ∀ i, i < nh → H' i = H i) (hle : nh ≤ nh') (hT : TV H nh T) (hv : vE H nh T e) : vE H' nh' T e := by
  rcases hv with ⟨h0, h2, h3, h4, h5⟩ | ⟨h2, h3, h4⟩
  · exact Or.inl ⟨h0, h2, h3, by omega, h5⟩
  · refine Or.inr ⟨h2, ?_, h4⟩
    have := (hT.2 (e 1).toNat (by omega)).1
    rw [hh (hxi T (e 1).toNat) (by unfold hxi; omega)]
    exact h3
theorem vJ_h {n nh' : Nat} (hh : ∀ i, i < nh → H' i = H i) (hle : nh ≤ nh') (hH : hsOK H nh) (h : vJ H nh J n) : vJ H' nh' J n := fun k hk => by
  rw [At_h hh hH k (vJ_le h (by omega))]
  exact vE_hh hh hle (At_v hH k (vJ_le h (by omega))).1 (h k hk)
theorem tEq_h (hh : ∀ i, i < nh → H' i = H i) (hT : TV H nh T) (q : tEq H T K) : tEq H' T K := by
  refine ⟨q.1, q.2.1, fun i hi => ?_⟩
  have := (hT.2 i hi).1
  rw [hh (hxi T i) (by unfold hxi; omega)]
  exact q.2.2 i hi
theorem tix_s (hT : TV H nh T) (hH : hsOK H nh) (hv : vE H nh T e) (hx : tix nh T) : tix nh (pStep H T e) := fun i hi => by
  rw [pStep_h hT hv i hi]
  by_cases hie : i = (e 1).toNat
  · rw [if_pos hie]
    have := (gNew_v hH hT hv).1
    exact Or.inl (by omega)
  · rw [if_neg hie]
    exact hx i hi
/- from a cleared table, from a checkpoint -/
theorem tEq_cl (N : TT) : tEq H T0 (tC N) := by
  refine ⟨fun k hk => ?_, fun b hb => ?_, fun i hi => by have : (i : Int) < 0 := hi; omega⟩
  · match k, hk with
    | 0, _ => rfl
    | 1, _ => rfl
    | 2, _ => rfl
  · show cp 4 (fun _ => 100) (N 6 0) b = cp 4 (fun _ => 100) (fun _ => 0) b
    unfold cp
    rw [if_pos hb, if_pos hb]
theorem tix_cl {N : TT} (hx : tix nh N) : tix nh (tC N) := fun i hi => by
  unfold tC
  rw [tS_g hi, tP_g hi, tS_g hi, tS_g hi]
  exact hx i hi
theorem gEq_bec {P : Nat → Nat} (hP : hOK P) (N : GS) {G : GS} (hK : gv P G) : gEq P G (gBec N G) := by
  have hsz := szP_b hP
  have hp1 := hP.2.1
  obtain ⟨⟨s1, s2, s3, s4, s5, s6, s7, s8, s9, s10, s11⟩, hB, t1, t2, t3, t4, t5, t6, t7⟩ := hK
  refine ⟨⟨fun k hk => ?_, ⟨fun k hk hk2 => ?_, fun k hk => ?_, fun q k hk => ?_⟩, rfl, rfl, fun k hk => ?_⟩, rfl⟩
  · show (if k = 11 then _ else if k = 10 then _ else if k = 9 then _ else if k < 9 then G 7 k else N 7 k) = G 7 k
    rw [if_neg (by omega), if_neg (by omega), if_neg (by omega), if_pos hk]
  · show (if k < 28 then G 0 k else N 0 k) = G 0 k
    rw [if_pos (by omega)]
  · show (if k < 4 then G 1 k else N 1 k) = G 1 k
    rw [if_pos (by omega)]
  · show (if k < 29 then G 2 k else N 2 k) = G 2 k
    rw [if_pos (by omega)]
  · show (if k < 10 then G 3 k else N 3 k) = G 3 k ∧ (if k < 10 then G 4 k else N 4 k) = G 4 k ∧ (if k < 10 then G 5 k else N 5 k) = G 5 k ∧ (if k < 10 then G 6 k else N 6 k) = G 6 k
    rw [if_pos (by omega), if_pos (by omega), if_pos (by omega), if_pos (by omega)]
    exact ⟨rfl, rfl, rfl, rfl⟩
theorem t_bec_g {N C : TT} {gc i : Nat} (hi : i < 6) : t_bec N C gc i = if i < gc then gBec (N i) (C i) else N i := by
  unfold t_bec
  rw [tS_g hi, tP_g hi]
  unfold tB
  rw [tS_g hi, tS_g hi]
theorem tEq_be (hH : hsOK H nh) {N C : TT} (hC : TV H nh C) {gc : Nat} (hg : C 6 1 1 = gc) : tEq H C (t_bec N C gc) := by
  have h6 := hC.1
  refine ⟨fun k hk => ?_, fun b hb => ?_, fun i hi => ?_⟩
  · match k, hk with
    | 0, _ =>
      show tB _ C gc 6 1 0 = _
      unfold tB
      rw [if_neg (by omega)]
      rfl
    | 1, _ =>
      show tB _ C gc 6 1 1 = _
      unfold tB
      rw [if_neg (by omega)]
      rfl
    | 2, _ => rfl
  · show cp 4 (C 6 0) (N 6 0) b = C 6 0 b
    unfold cp
    rw [if_pos hb]
  · obtain ⟨a1, a2, a3⟩ := hC.2 i hi
    rw [t_bec_g (by omega), if_pos (by omega)]
    exact gEq_bec (hH.2 _ (by unfold hxi; omega)) _ a2
theorem tix_be {N C : TT} {gc : Nat} (hN : tix nh N) (hC : tix nh C) : tix nh (t_bec N C gc) := fun i hi => by
  rw [t_bec_g hi]
  by_cases h : i < gc
  · rw [if_pos h]
    exact hC i hi
  · rw [if_neg h]
    exact hN i hi
/- a game that is over stays over; games stay -/
def ovr (T : TT) (g : Nat) : Prop := (g : Int) < T 6 1 1 ∧ T g 7 6 ≠ -2
theorem ovr_s (hT : TV H nh T) (hH : hsOK H nh) (hv : vE H nh T e) {g : Nat} (ho : ovr T g) : ovr (pStep H T e) g := by
  obtain ⟨o1, o2⟩ := ho
  have h6 := (pStep_6 hT hv).2
  have hg6 : g < 6 := by have := hT.1; omega
  refine ⟨?_, ?_⟩
  · rw [h6]; split <;> omega
  · rw [pStep_g hT hv g hg6]
    by_cases hge : g = (e 1).toNat
    · rw [if_pos hge, gFin_h]
      unfold gNew
      rcases hv with ⟨h0, h2, h3, h4, h5⟩ | ⟨h2, h3, -⟩
      · omega
      · rw [if_neg (vG_n _ _ h3)]
        rw [hge] at o2
        rcases h3 with ⟨q, q1, -⟩ | ⟨q, q1, -⟩ | ⟨q, q1⟩ | ⟨q, q1, -⟩ | ⟨q, q1, q2, q3⟩
        · exact absurd q1 o2
        · exact absurd q1 o2
        · exact absurd q1 o2
        · exact absurd q1 o2
        · have hn := hT.2 (e 1).toNat (by omega)
          have := (gv_judge (hH.2 (hxi T (e 1).toNat) (by unfold hxi; omega)) hn.2.1 q1 q2 q3).2
          unfold gDo
          rw [if_neg (by omega), if_neg (by omega), if_neg (by omega), if_neg (by omega)]
          exact this
    · rw [if_neg hge]
      exact o2
theorem ovr_le (hH : hsOK H nh) {g m : Nat} : ∀ n, vJ H nh J n → m ≤ n → ovr (At H J m) g → ovr (At H J n) g := by
  intro n
  induction n with
  | zero => intro _ h1 h2; rw [show m = 0 by omega] at h2; exact h2
  | succ n ih =>
    intro hJ h1 h2
    by_cases hmn : m = n + 1
    · rw [hmn] at h2; exact h2
    · exact ovr_s (At_v hH n (vJ_le hJ (by omega))).1 hH (hJ n (by omega)) (ih (vJ_le hJ (by omega)) (by omega) h2)
theorem ovr_e (q : tEq H T K) {g : Nat} : ovr K g ↔ ovr T g := by
  unfold ovr
  rw [q.1 1 (by decide)]
  constructor
  · rintro ⟨h1, h2⟩
    rw [(q.2.2 g h1).1.1 6 (by decide)] at h2
    exact ⟨h1, h2⟩
  · rintro ⟨h1, h2⟩
    rw [(q.2.2 g h1).1.1 6 (by decide)]
    exact ⟨h1, h2⟩
end JRN
