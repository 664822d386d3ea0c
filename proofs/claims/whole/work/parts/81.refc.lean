/-! ===== the reference's state beside the class's ===== -/
def oJ (H : HT) (J : GS) (n : Nat) (M : GS) : Prop := ∀ i m, m ≤ n → ovr (At H J n) i → (ovr (At H J m) i ↔ M 26 i < (m : Int))
def whyR (rf uf ue : Int) (M : GS) : Prop := (rf = 0 → M 0 39 = -1 ∧ M 0 40 = -1) ∧ (rf = 1 → uf = 0 → M 0 39 = 104 ∧ M 0 40 = -1) ∧ (rf = 1 → uf = 1 → M 0 39 = 102 ∧ M 0 40 = ue)
def rC (H : HT) (nh : Nat) (J : GS) (n fl : Nat) (cu : Nat → Nat) (nc : Nat) (rf uf ue : Int) (N : TT) (M : GS) : Prop := (M 0 1 = nh ∧ M 0 7 = n ∧ M 0 8 = fl ∧ M 0 14 = nc) ∧ whyR rf uf ue M ∧ rHs H nh M ∧ (∀ k, k < n → M 6 k = J k 0 ∧ M 7 k = J k 1 ∧ M 8 k = J k 2 ∧ M 9 k = J k 3 ∧ M 10 k = J k 4) ∧ (∀ c, c < nc → M 11 c = cu c) ∧ rTs H N M ∧ oJ H J n M
def th (M : GS) (c : Int) : GS := sr M 0 (st1 (M 0) 0 c)
section RCS
variable {E : EX} {d : Nat} {h : AH} {sz m : Nat} {H : HT} {nh : Nat} {J : GS} {n fl : Nat} {cu : Nat → Nat} {nc : Nat} {rf uf ue : Int} {N T K : TT} {M M' : GS} {e : Nat → Int} {P : Nat → Nat} {G : GS}
/- alike games, alike in the reference -/
theorem gR_e {L : GS} {i : Nat} (hP : hOK P) (hv : gv P G) (q : gEq P G L) (k : gR M i P G) : gR M i P L := by
  have hsz := szP_b hP
  obtain ⟨v0, v1, v2, v3, v4, v5, v6, v7, v8, v9, v10⟩ := hv.1
  obtain ⟨⟨q7, ⟨q0, q1, q2⟩, q9, q10, qb⟩, q11⟩ := q
  obtain ⟨⟨⟨a1, a2, a3, a4, a5, a6, a7, a8, a9⟩, b, c, d, ⟨f, f1, f2, f3, f4⟩, e⟩, h31⟩ := k
  have e0 := q7 0 (by decide)
  have e1 := q7 1 (by decide)
  have e6 := q7 6 (by decide)
  refine ⟨⟨⟨by rw [q11, a1], by rw [e0, a2], by rw [e1, a3], by rw [q7 3 (by decide), a4], by rw [q7 5 (by decide), a5], by rw [e6, a6], by rw [q7 7 (by decide), a7], by rw [q7 8 (by decide), a8], by rw [q9, a9]⟩, fun w => ?_, fun k k1 k2 => ?_, fun w hw => by rw [q1 w hw]; exact d w hw, ⟨f, f1, f2, by rw [e1]; exact f3, fun j hj => ?_⟩, fun k hk => ?_⟩, fun k hk => ?_⟩
  · rw [e6] at w
    rw [q7 2 (by decide), q7 4 (by decide)]
    exact b w
  · rw [e0] at k1
    rw [q0 k (by omega) k2]
    exact c k k1 k2
  · rw [e1] at hj
    rw [q2 (by omega) j (by omega), q2 (by omega) (j + 1) (by omega)]
    exact f4 j hj
  · rw [q9] at hk
    rw [(qb k (by omega)).1, (qb k (by omega)).2.1, (qb k (by omega)).2.2.1]
    exact e k hk
  · rw [q9] at hk
    rw [(qb k (by omega)).2.2.2]
    exact h31 k hk
theorem rT_e (hH : hsOK H nh) (hT : TV H nh T) (q : tEq H T K) (k : rTs H T M) : rTs H K M := by
  obtain ⟨k1, k2, k3, k4⟩ := k
  refine ⟨by rw [k1, q.1 1 (by decide)], by rw [k2, q.1 2 (by decide)], fun b hb => by rw [k3 b hb, q.2.1 b hb], fun i hi => ?_⟩
  rw [q.1 1 (by decide)] at hi
  obtain ⟨b1, b2, b3⟩ := hT.2 i hi
  rw [tEq_hx q hi]
  exact gR_e (hH.2 _ (by unfold hxi; omega)) b2 (q.2.2 i hi) (k4 i hi)
theorem oJ_0 : oJ H J 0 M := fun i m _ h => by
  have : (i : Int) < 0 := h.1
  omega
/- when a game came to be over -/
theorem oJ_s {k : Nat} (hH : hsOK H nh) (hJ : vJ H nh J (k + 1)) (q : tEq H (At H J k) T) (hs : stpR H T (J k) k M M') (ho : oJ H J k M) : oJ H J (k + 1) M' := by
  obtain ⟨a1, a2⟩ := At_v hH k (vJ_le hJ (by omega))
  have hv := hJ k (by omega)
  have hTv := TV_e hH a1 q
  have hvT := vE_e a1 q hv
  have hi := vE_i a1 hv
  have h6 := a1.1
  obtain ⟨⟨s1, -⟩, -, -, -, -, s6⟩ := hs
  have eS : At H J (k + 1) = pStep H (At H J k) (J k) := rfl
  have qs : tEq H (At H J (k + 1)) (pStep H T (J k)) := tEq_st hH a1 q hv
  intro i m hm hov
  have hov' := (ovr_e qs).mpr hov
  by_cases hie : i = ((J k) 1).toNat
  · subst hie
    obtain ⟨o1, o2⟩ := hov'
    rw [pStep_g hTv hvT _ hi.1, if_pos rfl, gFin_h] at o2
    have e26 := s6 o2
    by_cases h97 : J k 0 = 97
    · rw [if_pos h97] at e26
      rw [e26]
      have hok : ovr (At H J k) ((J k) 1).toNat := by
        rcases hv with ⟨q0, -⟩ | ⟨q1, q2, -⟩
        · omega
        · refine ⟨by omega, fun q3 => ?_⟩
          obtain ⟨b1, b2, b3⟩ := a1.2 ((J k) 1).toNat (by omega)
          have := gv_live (hH.2 (hxi (At H J k) ((J k) 1).toNat) (by unfold hxi; omega)) b2 q3
          rcases q2 with ⟨w, -⟩ | ⟨w, -⟩ | ⟨w, -⟩ | ⟨w, -⟩ | ⟨w, w2, -⟩ <;> omega
      have := ho ((J k) 1).toNat
      by_cases hmk : m = k + 1
      · subst hmk
        have t := (this k (Nat.le_refl _) hok).mp hok
        exact ⟨fun _ => by omega, fun _ => hov⟩
      · exact this m (by omega) hok
    · rw [if_neg h97] at e26
      rw [e26]
      have hno : ¬ ovr (At H J k) ((J k) 1).toNat := by
        rintro ⟨x1, x2⟩
        rcases hv with ⟨q0, q1, -⟩ | ⟨q1, q2, -⟩
        · omega
        · rcases q2 with ⟨w, w2, -⟩ | ⟨w, w2, -⟩ | ⟨w, w2⟩ | ⟨w, w2, -⟩ | ⟨w, -⟩
          · exact x2 w2
          · exact x2 w2
          · exact x2 w2
          · exact x2 w2
          · omega
      by_cases hmk : m = k + 1
      · subst hmk
        exact ⟨fun _ => by omega, fun _ => hov⟩
      · refine ⟨fun x => absurd (ovr_le hH k (vJ_le hJ (by omega)) (by omega) x) hno, fun x => ?_⟩
        omega
  · have e26 := s1 26 (by omega) i hie
    rw [e26]
    have hok : ovr (At H J k) i := by
      obtain ⟨o1, o2⟩ := hov
      rw [eS, (pStep_6 a1 hv).2] at o1
      have hlt : (i : Int) < At H J k 6 1 1 := by
        rcases hv with ⟨q0, q1, q2, -⟩ | ⟨q1, q2, -⟩
        · rw [if_pos q0] at o1; omega
        · rw [if_neg (vG_n _ _ q2)] at o1; exact o1
      refine ⟨hlt, ?_⟩
      rw [eS, pStep_g a1 hv i (by omega), if_neg hie] at o2
      exact o2
    have := ho i
    by_cases hmk : m = k + 1
    · subst hmk
      have t := (this k (Nat.le_refl _) hok).mp hok
      exact ⟨fun _ => by omega, fun _ => hov⟩
    · exact this m (by omega) hok
theorem oJ_c {J' : GS} (hc : ∀ k, k < n → J' k = J k) (h : oJ H J n M) : oJ H J' n M := fun i m hm ho => by
  rw [At_c n hc] at ho
  rw [At_c m (fun k hk => hc k (by omega))]
  exact h i m hm ho
theorem th_0 (c : Int) : th M c 0 0 = c := by
  show st1 (M 0) 0 c 0 = c
  exact st1_eq _ _ _
theorem th_r (c : Int) {r : Nat} (hr : r ≠ 0) : th M c r = M r := sr_ne hr
theorem th_k (c : Int) {k : Nat} (hk : k ≠ 0) : th M c 0 k = M 0 k := if_neg hk
theorem rT_g (h0 : M' 0 16 = M 0 16 ∧ M' 0 38 = M 0 38) (hr : ∀ r, 12 ≤ r → M' r = M r) (k : rTs H T M) : rTs H T M' := by
  obtain ⟨k1, k2, k3, k4⟩ := k
  refine ⟨by rw [h0.1, k1], by rw [h0.2, k2], fun b hb => by rw [hr 32 (by omega), k3 b hb], fun i hi => ?_⟩
  obtain ⟨⟨⟨a1, a2, a3, a4, a5, a6, a7, a8, a9⟩, b, c, d, ⟨f, f1, f2, f3, f4⟩, e⟩, h31⟩ := k4 i hi
  unfold gR gA g31
  rw [hr 12 (by omega), hr 13 (by omega), hr 14 (by omega), hr 15 (by omega), hr 16 (by omega), hr 17 (by omega), hr 18 (by omega), hr 19 (by omega), hr 20 (by omega), hr 21 (by omega), hr 22 (by omega), hr 23 (by omega), hr 24 (by omega), hr 25 (by omega), hr 27 (by omega), hr 28 (by omega), hr 29 (by omega), hr 30 (by omega), hr 31 (by omega)]
  exact k4 i hi
theorem rC_th (c : Int) (k : rC H nh J n fl cu nc rf uf ue N M) : rC H nh J n fl cu nc rf uf ue N (th M c) := by
  obtain ⟨⟨k1, k2, k3, k4⟩, ⟨w1, w2, w3⟩, k5, k6, k7, k8, k9⟩ := k
  exact ⟨⟨k1, k2, k3, k4⟩, ⟨w1, w2, w3⟩, k5, k6, k7, rT_g (M := M) ⟨rfl, rfl⟩ (fun r hr => th_r (r := r) c (by omega)) k8, k9⟩
/- an entry is entered -/
theorem ent_rC (hS : sC H nh J n fl cu nc rf uf ue) (q : tEq H (At H J n) N) (hn : n < 400) (hv : vE H nh N e) (k : rC H nh J n fl cu nc rf uf ue N M) : ∃ M', Sp E (d + 8) 135 [.ref m, .int (z (e 0)), .int (z (e 1)), .int (z (e 2)), .int (z (e 3)), .int (z (e 4))] (mh h m M) sz (rets none (mh h m M') sz) ∧ rC H nh (jA J n e) (n + 1) fl cu nc rf uf ue (pStep H N e) M' ∧ M' 0 0 = M 0 0 := by
  obtain ⟨⟨k1, k2, k3, k4⟩, ⟨w1, w2, w3⟩, k5, k6, k7, k8, k9⟩ := k
  obtain ⟨v0, v1, v2⟩ := cNV hS q
  have vM := cNM hS q
  have hH := hS.1
  obtain ⟨M1, eM⟩ : ∃ M1, M1 = mEnt M n (e 0) (e 1) (e 2) (e 3) (e 4) := ⟨_, rfl⟩
  have hj : M1 6 n = e 0 ∧ M1 7 n = e 1 ∧ M1 8 n = e 2 ∧ M1 9 n = e 3 ∧ M1 10 n = e 4 := by
    rw [eM]
    exact ⟨st1_eq _ _ _, st1_eq _ _ _, st1_eq _ _ _, st1_eq _ _ _, st1_eq _ _ _⟩
  have hjo : ∀ k, k < n → M1 6 k = M 6 k ∧ M1 7 k = M 7 k ∧ M1 8 k = M 8 k ∧ M1 9 k = M 9 k ∧ M1 10 k = M 10 k := fun k hk => by
    rw [eM]
    exact ⟨if_neg (by omega), if_neg (by omega), if_neg (by omega), if_neg (by omega), if_neg (by omega)⟩
  have h12 : ∀ r, 11 ≤ r → M1 r = M r := fun r hr => by
    rw [eM]; unfold mEnt
    rw [sr_ne (by omega), sr_ne (by omega), sr_ne (by omega), sr_ne (by omega), sr_ne (by omega), sr_ne (by omega)]
  have h15 : ∀ r, 1 ≤ r → r ≤ 5 → M1 r = M r := fun r hr hr2 => by
    rw [eM]; unfold mEnt
    rw [sr_ne (by omega), sr_ne (by omega), sr_ne (by omega), sr_ne (by omega), sr_ne (by omega), sr_ne (by omega)]
  have h0 : ∀ k, k ≠ 7 → M1 0 k = M 0 k := fun k hk => by
    rw [eM]
    exact if_neg hk
  have h07 : M1 0 7 = (n : Int) + 1 := by
    rw [eM]
    show st1 (M 0) 7 ((n : Int) + 1) 7 = _
    exact st1_eq _ _ _
  have rH' : rHs H nh M1 := fun i hi => by
    rw [h15 1 (by omega) (by omega), h15 2 (by omega) (by omega), h15 3 (by omega) (by omega), h15 4 (by omega) (by omega), h15 5 (by omega) (by omega)]
    exact k5 i hi
  have rT' : rTs H N M1 := rT_g ⟨h0 16 (by decide), h0 38 (by decide)⟩ (fun r hr => h12 r (by omega)) k8
  obtain ⟨M', s, hst⟩ := does_v (E := E) (d := d) (h := h) (sz := sz) (m := m) hH v0 vM hv rH' rT' hn hj
  rw [eM] at s
  have s135 := sp_135 (E := E) (d := d) (h := h) (m := m) (M := M) (sz := sz) k2 hn s
  obtain ⟨⟨p1, p2, p3, p4, p5, p6, p7⟩, y2, y3, y4, y5, y6⟩ := id hst
  have z0 : ∀ k, k ≠ 7 → k ≠ 16 → k ≠ 38 → M' 0 k = M 0 k := fun k a b c => by rw [p3 k b c, h0 k a]
  have hvA := vE_e v0 (tEq_s q) hv
  refine ⟨M', s135, ⟨⟨by rw [z0 1 (by decide) (by decide) (by decide), k1], by rw [p3 7 (by decide) (by decide), h07]; omega, by rw [z0 8 (by decide) (by decide) (by decide), k3], by rw [z0 14 (by decide) (by decide) (by decide), k4]⟩, ⟨?_, ?_, ?_⟩, ?_, fun k hk => ?_, fun c hc => ?_, stp_T hH v0 hv rT' hst, ?_⟩, z0 0 (by decide) (by decide) (by decide)⟩
  · rw [z0 39 (by decide) (by decide) (by decide), z0 40 (by decide) (by decide) (by decide)]; exact w1
  · rw [z0 39 (by decide) (by decide) (by decide), z0 40 (by decide) (by decide) (by decide)]; exact w2
  · rw [z0 39 (by decide) (by decide) (by decide), z0 40 (by decide) (by decide) (by decide)]; exact w3
  · intro i hi
    rw [p2 1 (by decide) (by decide), p2 2 (by decide) (by decide), p2 3 (by decide) (by decide), p2 4 (by decide) (by decide), p2 5 (by decide) (by decide)]
    exact rH' i hi
  · rw [p2 6 (by decide) (by decide), p2 7 (by decide) (by decide), p2 8 (by decide) (by decide), p2 9 (by decide) (by decide), p2 10 (by decide) (by decide)]
    by_cases hkn : k = n
    · subst hkn
      rw [jA_eq]
      exact hj
    · rw [jA_lt k (by omega)]
      obtain ⟨o1, o2, o3, o4, o5⟩ := hjo k (by omega)
      rw [o1, o2, o3, o4, o5]
      exact k6 k (by omega)
  · rw [p2 11 (by decide) (by decide), h12 11 (by decide)]
    exact k7 c hc
  · have hJ' : vJ H nh (jA J n e) (n + 1) := fun k hk => by
      by_cases hkn : k = n
      · subst hkn
        rw [At_A (Nat.le_refl _), jA_eq]
        exact hvA
      · rw [At_A (by omega), jA_lt k (by omega)]
        exact hS.2.1 k (by omega)
    refine oJ_s hH hJ' (T := N) (by rw [At_A (Nat.le_refl _)]; exact q) (by rw [jA_eq]; exact hst) (oJ_c (fun k hk => jA_lt k hk) (fun i m hm ho => ?_))
    rw [h12 26 (by decide)]
    exact k9 i m hm ho
end RCS
